/-! STRINGS THAT THE CLASS HAS WRITTEN IN IT -/
def jLt (G : jx_Gv) : Prop := (∀ i : Nat, i < 11 → jx_lit G.1 11 (G.1 i) = some i) ∧ ∀ i : Nat, i < 11 → ∃ j : Nat, jx_lit G.2.1 11 (G.2.1 i) = some j ∧ jlen.getD j 0 = jlen.getD i 0 ∧ ∀ k : Nat, k < jlen.getD i 0 → (jbyt.getD j []).getD k 0 = (jbyt.getD i []).getD k 0
theorem jlen_le : ∀ i : Nat, i < 11 → jlen.getD i 0 ≤ 96 := by decide +kernel
theorem nb_0 : (narrow .byte (.int (Int32.ofNat 0)) = .int (Int32.ofNat 0)) = True := eq_true rfl
theorem i_shr0 : ∀ L : Nat, L < 97 → Int32.ofNat L >>> (Int32.ofNat 0 &&& 31) = Int32.ofNat L := by decide +kernel
theorem L_coder {G : jx_Gv} {h : jx_H} (hG : jLt G) {i : Nat} (hi : i < 11) : jE G (0, 0, [some (.ref (G.1 i))], [], h) = some (some (.int (Int32.ofNat 0)), h) := by
  have e := hG.1 i hi
  have e' := fun {β : Type} {f : Nat → Option β} => bnd (f := f) e
  simp (disch := omega) only [e_0_0, e_0_6, e_0_13, e_0_14, ↓e', nb_0, ↓Option.bind_some, ↓jzo_0b, ↓jzo_1b, ↓jzo_bb, Option.toList_some, Option.toList_none, List.cons_append, List.nil_append, ↓reduceIte, jzo_0, jzo_1, jzo_b, jbi_t, jbi_f, i_add, ↓i_ltP, ↓i_ltN, ↓i_eqP, ↓i_eqN, i_lt, i_eq, jbi_0, pt_lt, pf_lt, pt_eq, pf_eq, pt_le, pf_le, Nat.reduceEqDiff, eq_self, true_or, or_true, false_or, or_false, true_and, and_true, false_and, and_false, jE_sw, jE_sw0]
theorem L_coder_b {G : jx_Gv} {h : jx_H} (hG : jLt G) {i : Nat} (hi : i < 11) {β_ : Type} {f_ : jx_R → Option β_} : (jE G (0, 0, [some (.ref (G.1 i))], [], h)).bind f_ = f_ ((some (.int (Int32.ofNat 0)), h)) := bnd (L_coder hG hi)
theorem L_length {G : jx_Gv} {h : jx_H} (hG : jLt G) {i : Nat} (hi : i < 11) : jE G (1, 0, [some (.ref (G.1 i))], [], h) = some (some (.int (Int32.ofNat (jlen.getD i 0))), h) := by
  have e := hG.1 i hi
  obtain ⟨j, f1, f2, f3⟩ := hG.2 i hi
  have e' := fun {β : Type} {f : Nat → Option β} => bnd (f := f) e
  have f1' := fun {β : Type} {f : Nat → Option β} => bnd (f := f) f1
  have hl := jlen_le i hi
  have es := i_shr0 (jlen.getD i 0) (by omega)
  simp (disch := omega) only [e_1_0, e_1_9, ↓e', ↓f1', f2, ↓L_coder_b hG, es, ↓Option.bind_some, ↓jzo_0b, ↓jzo_1b, ↓jzo_bb, Option.toList_some, Option.toList_none, List.cons_append, List.nil_append, ↓reduceIte, jzo_0, jzo_1, jzo_b, jbi_t, jbi_f, i_add, ↓i_ltP, ↓i_ltN, ↓i_eqP, ↓i_eqN, i_lt, i_eq, jbi_0, pt_lt, pf_lt, pt_eq, pf_eq, pt_le, pf_le, Nat.reduceEqDiff, eq_self, true_or, or_true, false_or, or_false, true_and, and_true, false_and, and_false, jE_sw, jE_sw0]
theorem L_length_b {G : jx_Gv} {h : jx_H} (hG : jLt G) {i : Nat} (hi : i < 11) {β_ : Type} {f_ : jx_R → Option β_} : (jE G (1, 0, [some (.ref (G.1 i))], [], h)).bind f_ = f_ ((some (.int (Int32.ofNat (jlen.getD i 0))), h)) := bnd (L_length hG hi)
theorem L_isLatin1 {G : jx_Gv} {h : jx_H} (hG : jLt G) {i : Nat} (hi : i < 11) : jE G (2, 0, [some (.ref (G.1 i))], [], h) = some (some (.int (Int32.ofNat 1)), h) := by
  have e := hG.1 i hi
  have e' := fun {β : Type} {f : Nat → Option β} => bnd (f := f) e
  simp (disch := omega) only [e_2_0, e_2_6, e_2_13, e_2_17, e_2_18, ↓e', ↓Option.bind_some, ↓jzo_0b, ↓jzo_1b, ↓jzo_bb, Option.toList_some, Option.toList_none, List.cons_append, List.nil_append, ↓reduceIte, jzo_0, jzo_1, jzo_b, jbi_t, jbi_f, i_add, ↓i_ltP, ↓i_ltN, ↓i_eqP, ↓i_eqN, i_lt, i_eq, jbi_0, pt_lt, pf_lt, pt_eq, pf_eq, pt_le, pf_le, Nat.reduceEqDiff, eq_self, true_or, or_true, false_or, or_false, true_and, and_true, false_and, and_false, jE_sw, jE_sw0]
theorem L_isLatin1_b {G : jx_Gv} {h : jx_H} (hG : jLt G) {i : Nat} (hi : i < 11) {β_ : Type} {f_ : jx_R → Option β_} : (jE G (2, 0, [some (.ref (G.1 i))], [], h)).bind f_ = f_ ((some (.int (Int32.ofNat 1)), h)) := bnd (L_isLatin1 hG hi)
theorem L_check {G : jx_Gv} {h : jx_H} {k n : Nat} (hk : k < n) (hn : n < 2147483648) : jE G (4, 0, [some (.int (Int32.ofNat k)), some (.int (Int32.ofNat n))], [], h) = some (none, h) := by
  cases c : G.2.2.2 with
  | none =>
    rw [e_4_0N c]
    simp (disch := omega) only [e_4_8, e_3_0r, e_3_0n, e_3_4r, e_3_4n, e_3_9r, e_3_9n, e_3_16r, e_3_16n, ↓Option.bind_some, ↓jzo_0b, ↓jzo_1b, ↓jzo_bb, Option.toList_some, Option.toList_none, List.cons_append, List.nil_append, ↓reduceIte, jzo_0, jzo_1, jzo_b, jbi_t, jbi_f, i_add, ↓i_ltP, ↓i_ltN, ↓i_eqP, ↓i_eqN, i_lt, i_eq, jbi_0, pt_lt, pf_lt, pt_eq, pf_eq, pt_le, pf_le, Nat.reduceEqDiff, eq_self, true_or, or_true, false_or, or_false, true_and, and_true, false_and, and_false, jE_sw, jE_sw0]
  | some q =>
    rw [e_4_0A c]
    simp (disch := omega) only [e_4_8, e_3_0r, e_3_0n, e_3_4r, e_3_4n, e_3_9r, e_3_9n, e_3_16r, e_3_16n, ↓Option.bind_some, ↓jzo_0b, ↓jzo_1b, ↓jzo_bb, Option.toList_some, Option.toList_none, List.cons_append, List.nil_append, ↓reduceIte, jzo_0, jzo_1, jzo_b, jbi_t, jbi_f, i_add, ↓i_ltP, ↓i_ltN, ↓i_eqP, ↓i_eqN, i_lt, i_eq, jbi_0, pt_lt, pf_lt, pt_eq, pf_eq, pt_le, pf_le, Nat.reduceEqDiff, eq_self, true_or, or_true, false_or, or_false, true_and, and_true, false_and, and_false, jE_sw, jE_sw0]
theorem L_check_b {G : jx_Gv} {h : jx_H} {k n : Nat} (hk : k < n) (hn : n < 2147483648) {β_ : Type} {f_ : jx_R → Option β_} : (jE G (4, 0, [some (.int (Int32.ofNat k)), some (.int (Int32.ofNat n))], [], h)).bind f_ = f_ ((none, h)) := bnd (L_check hk hn)
theorem k_char : ∀ i : Nat, i < 11 → ∀ k : Nat, k < jlen.getD i 0 → (Int32.toUInt32 (((jbyt.getD i []).getD k 0) &&& (Int32.ofNat 255)) % 65536).toInt32 = (jbyt.getD i []).getD k 0 ∧ narrow .char (.int ((jbyt.getD i []).getD k 0)) = .int ((jbyt.getD i []).getD k 0) := by decide +kernel
theorem L_charAt {G : jx_Gv} {h : jx_H} (hG : jLt G) {i k : Nat} (hi : i < 11) (hk : k < jlen.getD i 0) : jE G (6, 0, [some (.ref (G.1 i)), some (.int (Int32.ofNat k))], [], h) = some (some (.int ((jbyt.getD i []).getD k 0)), h) := by
  have e := hG.1 i hi
  obtain ⟨j, f1, f2, f3⟩ := hG.2 i hi
  have e' := fun {β : Type} {f : Nat → Option β} => bnd (f := f) e
  have f1' := fun {β : Type} {f : Nat → Option β} => bnd (f := f) f1
  have hl := jlen_le i hi
  have kc := k_char i hi k hk
  have b1 := f3 k hk
  have b2 : jx_inB (Int32.ofNat k) (jlen.getD i 0) = true := i_inB hk (by omega)
  have b3 : (Int32.ofNat k).toNatClampNeg = k := i_cl (by omega)
  simp (disch := omega) only [e_6_0, e_6_4, e_6_7, e_6_15, e_6_16, e_5_0, e_5_6, ↓e', ↓f1', f2, ↓L_isLatin1_b hG, ↓L_check_b, b1, b2, b3, kc.1, kc.2, ↓Option.bind_some, ↓jzo_0b, ↓jzo_1b, ↓jzo_bb, Option.toList_some, Option.toList_none, List.cons_append, List.nil_append, ↓reduceIte, jzo_0, jzo_1, jzo_b, jbi_t, jbi_f, i_add, ↓i_ltP, ↓i_ltN, ↓i_eqP, ↓i_eqN, i_lt, i_eq, jbi_0, pt_lt, pf_lt, pt_eq, pf_eq, pt_le, pf_le, Nat.reduceEqDiff, eq_self, true_or, or_true, false_or, or_false, true_and, and_true, false_and, and_false, jE_sw, jE_sw0]
theorem L_charAt_b {G : jx_Gv} {h : jx_H} (hG : jLt G) {i k : Nat} (hi : i < 11) (hk : k < jlen.getD i 0) {β_ : Type} {f_ : jx_R → Option β_} : (jE G (6, 0, [some (.ref (G.1 i)), some (.int (Int32.ofNat k))], [], h)).bind f_ = f_ ((some (.int ((jbyt.getD i []).getD k 0)), h)) := bnd (L_charAt hG hi hk)
/-- where in a string the octet is first, from k on -/
def lix (i : Nat) (x : Int32) : Nat → Nat → Int32
  | 0, _ => -(Int32.ofNat 1)
  | d + 1, k => if (jbyt.getD i []).getD k 0 = x then Int32.ofNat k else lix i x d (k + 1)
theorem L_ix_loop {G : jx_Gv} {h : jx_H} (hG : jLt G) {i : Nat} (hi : i < 11) {x z x2 : Int32} : ∀ d k : Nat, k + d = jlen.getD i 0 → jE G (35, 7, [some (.ref (G.2.1 i)), some (.int x), some (.int x2), some (.int (Int32.ofNat (jlen.getD i 0))), some (.int z), some (.int (Int32.ofNat k))], [], h) = some (some (.int (lix i z d k)), h)
  | 0, k, hk => by
    have hl := jlen_le i hi
    rw [e_35_7, lix]
    simp (disch := omega) only [e_35_0, e_35_13, e_35_22, e_35_25, e_35_31, ↓Option.bind_some, ↓jzo_0b, ↓jzo_1b, ↓jzo_bb, Option.toList_some, Option.toList_none, List.cons_append, List.nil_append, ↓reduceIte, jzo_0, jzo_1, jzo_b, jbi_t, jbi_f, i_add, ↓i_ltP, ↓i_ltN, ↓i_eqP, ↓i_eqN, i_lt, i_eq, jbi_0, pt_lt, pf_lt, pt_eq, pf_eq, pt_le, pf_le, Nat.reduceEqDiff, eq_self, true_or, or_true, false_or, or_false, true_and, and_true, false_and, and_false, jE_sw, jE_sw0]
  | d + 1, k, hk => by
    have hl := jlen_le i hi
    have ih := L_ix_loop (G := G) (h := h) hG hi (x := x) (z := z) (x2 := x2) d (k + 1) (by omega)
    obtain ⟨j, f1, f2, f3⟩ := hG.2 i hi
    have f1' := fun {β : Type} {f : Nat → Option β} => bnd (f := f) f1
    have b1 := f3 k (by omega)
    have b2 : jx_inB (Int32.ofNat k) (jlen.getD i 0) = true := i_inB (by omega) (by omega)
    have b3 : (Int32.ofNat k).toNatClampNeg = k := i_cl (by omega)
    rw [e_35_7, lix]
    by_cases c : (jbyt.getD i []).getD k 0 = z
    · rw [if_pos c]
      simp (disch := omega) only [e_35_0, e_35_13, e_35_22, e_35_25, e_35_31, ↓f1', f2, b1, b2, b3, c, ↓Option.bind_some, ↓jzo_0b, ↓jzo_1b, ↓jzo_bb, Option.toList_some, Option.toList_none, List.cons_append, List.nil_append, ↓reduceIte, jzo_0, jzo_1, jzo_b, jbi_t, jbi_f, i_add, ↓i_ltP, ↓i_ltN, ↓i_eqP, ↓i_eqN, i_lt, i_eq, jbi_0, pt_lt, pf_lt, pt_eq, pf_eq, pt_le, pf_le, Nat.reduceEqDiff, eq_self, true_or, or_true, false_or, or_false, true_and, and_true, false_and, and_false, jE_sw, jE_sw0]
    · rw [if_neg c]
      simp (disch := omega) only [e_35_0, e_35_13, e_35_22, e_35_25, e_35_31, ↓f1', f2, b1, b2, b3, c, ↓Option.bind_some, ↓jzo_0b, ↓jzo_1b, ↓jzo_bb, Option.toList_some, Option.toList_none, List.cons_append, List.nil_append, ↓reduceIte, jzo_0, jzo_1, jzo_b, jbi_t, jbi_f, i_add, ↓i_ltP, ↓i_ltN, ↓i_eqP, ↓i_eqN, i_lt, i_eq, jbi_0, pt_lt, pf_lt, pt_eq, pf_eq, pt_le, pf_le, Nat.reduceEqDiff, eq_self, true_or, or_true, false_or, or_false, true_and, and_true, false_and, and_false, jE_sw, jE_sw0]
      exact ih
theorem L_canEncode {G : jx_Gv} {h : jx_H} {n : Nat} (hn : n < 256) : jE G (34, 0, [some (.int (Int32.ofNat n))], [], h) = some (some (.int (Int32.ofNat 1)), h) := by
  simp (disch := omega) only [e_34_0, e_34_4, e_34_11, e_34_15, e_34_16, ↓Option.bind_some, ↓jzo_0b, ↓jzo_1b, ↓jzo_bb, Option.toList_some, Option.toList_none, List.cons_append, List.nil_append, ↓reduceIte, jzo_0, jzo_1, jzo_b, jbi_t, jbi_f, i_add, ↓i_ltP, ↓i_ltN, ↓i_eqP, ↓i_eqN, i_lt, i_eq, jbi_0, pt_lt, pf_lt, pt_eq, pf_eq, pt_le, pf_le, Nat.reduceEqDiff, eq_self, true_or, or_true, false_or, or_false, true_and, and_true, false_and, and_false, jE_sw, jE_sw0]
theorem L_canEncode_b {G : jx_Gv} {h : jx_H} {n : Nat} (hn : n < 256) {β_ : Type} {f_ : jx_R → Option β_} : (jE G (34, 0, [some (.int (Int32.ofNat n))], [], h)).bind f_ = f_ ((some (.int (Int32.ofNat 1)), h)) := bnd (L_canEncode hn)
theorem L_indexOf {G : jx_Gv} {h : jx_H} (hG : jLt G) {n : Nat} (hn : n < 256) : jE G (38, 0, [some (.ref (G.1 2)), some (.int (Int32.ofNat n))], [], h) = some (some (.int (lix 2 (Int32.ofNat n).toInt8.toInt32 8 0)), h) := by
  have e := hG.1 2 (by decide)
  obtain ⟨j, f1, f2, f3⟩ := hG.2 2 (by decide)
  have e' := fun {β : Type} {f : Nat → Option β} => bnd (f := f) e
  have f1' := fun {β : Type} {f : Nat → Option β} => bnd (f := f) f1
  have q := L_ix_loop (G := G) (h := h) hG (i := 2) (by decide) (x := Int32.ofNat n) (z := (Int32.ofNat n).toInt8.toInt32) (x2 := Int32.ofNat 0) 8 0 (by decide)
  have f8 : jlen.getD 2 0 = 8 := rfl
  rw [f8] at q f2
  have q0 : jE G (35, 0, [some (.ref (G.2.1 2)), some (.int (Int32.ofNat n)), some (.int (Int32.ofNat 0)), some (.int (Int32.ofNat 8)), none, none], [], h) = some (some (.int (lix 2 (Int32.ofNat n).toInt8.toInt32 8 0)), h) := by
    simp (disch := omega) only [e_35_0, e_35_13, e_35_22, e_35_25, e_35_31, ↓Option.bind_some, ↓jzo_0b, ↓jzo_1b, ↓jzo_bb, Option.toList_some, Option.toList_none, List.cons_append, List.nil_append, ↓reduceIte, jzo_0, jzo_1, jzo_b, jbi_t, jbi_f, i_add, ↓i_ltP, ↓i_ltN, ↓i_eqP, ↓i_eqN, i_lt, i_eq, jbi_0, pt_lt, pf_lt, pt_eq, pf_eq, pt_le, pf_le, Nat.reduceEqDiff, eq_self, true_or, or_true, false_or, or_false, true_and, and_true, false_and, and_false, jE_sw, jE_sw0]
    exact q
  have q' := fun {β : Type} {f : jx_R → Option β} => bnd (f := f) q0
  simp (disch := omega) only [e_38_0, e_38_6, e_37_0, e_37_4, e_37_7, e_37_17, e_37_20, e_37_23, e_37_33, e_37_36, e_36_0, e_36_4, e_36_7, e_36_9, e_36_27, e_36_29, e_36_36, ↓e', ↓f1', f2, f8, ↓L_isLatin1_b hG, ↓L_length_b hG, ↓L_canEncode_b, ↓q', ↓Option.bind_some, ↓jzo_0b, ↓jzo_1b, ↓jzo_bb, Option.toList_some, Option.toList_none, List.cons_append, List.nil_append, ↓reduceIte, jzo_0, jzo_1, jzo_b, jbi_t, jbi_f, i_add, ↓i_ltP, ↓i_ltN, ↓i_eqP, ↓i_eqN, i_lt, i_eq, jbi_0, pt_lt, pf_lt, pt_eq, pf_eq, pt_le, pf_le, Nat.reduceEqDiff, eq_self, true_or, or_true, false_or, or_false, true_and, and_true, false_and, and_false, jE_sw, jE_sw0]

theorem L_indexOf_b {G : jx_Gv} {h : jx_H} (hG : jLt G) {n : Nat} (hn : n < 256) {β_ : Type} {f_ : jx_R → Option β_} : (jE G (38, 0, [some (.ref (G.1 2)), some (.int (Int32.ofNat n))], [], h)).bind f_ = f_ ((some (.int (lix 2 (Int32.ofNat n).toInt8.toInt32 8 0)), h)) := bnd (L_indexOf hG hn)