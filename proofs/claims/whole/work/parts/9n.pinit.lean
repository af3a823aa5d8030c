/-! THE CLASS AS IT IS MADE -/
def wch (i : Nat) : Int32 := (jbyt.getD 0 []).getD i 0
def wst (i : Nat) (st : Nat × Int64 × (Nat → Int64)) : Nat × Int64 × (Nat → Int64) := if wcode (wch i) = Int32.ofNat 0 then (st.1 + 1, 1, st.2.2) else if st.1 < 16 then (st.1, st.2.1 * 37, upL st.2.2 st.1 (st.2.2 st.1 + (wcode (wch i)).toInt64 * st.2.1)) else st
def wru : Nat → Nat → Nat × Int64 × (Nat → Int64) → Nat × Int64 × (Nat → Int64)
  | 0, _, st => st
  | d + 1, i, st => wru d (i + 1) (wst i st)
def wn0 : Nat → Int64 := (wru 96 0 (0, 1, fun _ => 0)).2.2
theorem wn0_ok : wnOk wn0 := by
  have : ∀ i : Nat, i < 16 → wn0 i = Int64.ofNat (lcd (Wd i)) := by decide +kernel
  exact this
theorem wst_le {i : Nat} {st : Nat × Int64 × (Nat → Int64)} : (wst i st).1 ≤ st.1 + 1 := by
  unfold wst
  split
  · exact Nat.le_refl _
  · split
    · exact Nat.le_succ _
    · exact Nat.le_succ _
def wce (h : jx_H) (c : jx_C) (a : Nat → Int64) : jx_H := hA h [c, .inl (2, [.ref (h.1 + 2)]), .inr (1, 16, .inr (.inl a))] 24
theorem wce_1 {h : jx_H} {c : jx_C} {a : Nat → Int64} : (wce h c a).2.2 (h.1 + 1) = some (.inl (2, [.ref (h.1 + 2)])) := (hA_at (k := 1) (Nat.le_of_ble_eq_true rfl)).trans rfl
theorem wce_2 {h : jx_H} {c : jx_C} {a : Nat → Int64} : (wce h c a).2.2 (h.1 + 2) = some (.inr (1, 16, .inr (.inl a))) := (hA_at (k := 2) (Nat.le_of_ble_eq_true rfl)).trans rfl
theorem wce_f {h : jx_H} {c : jx_C} {a : Nat → Int64} : jx_fA (wce h c a) (h.1 + 1) 2 0 = some (h.1 + 2) := c_fA wce_1 rfl
theorem wce_f_b {h : jx_H} {c : jx_C} {a : Nat → Int64} {β_ : Type} {f_ : Nat → Option β_} : (jx_fA (wce h c a) (h.1 + 1) 2 0).bind f_ = f_ ((h.1 + 2)) := bnd (wce_f )
theorem wce_n {h : jx_H} {c : jx_C} {a : Nat → Int64} : jx_len (wce h c a) 1 (h.1 + 2) = some 16 := c_len wce_2
theorem wce_n_b {h : jx_H} {c : jx_C} {a : Nat → Int64} {β_ : Type} {f_ : Nat → Option β_} : (jx_len (wce h c a) 1 (h.1 + 2)).bind f_ = f_ (16) := bnd (wce_n )
theorem wce_a {h : jx_H} {c : jx_C} {a : Nat → Int64} {i : Nat} (hi : i < 16) : jx_aJ (wce h c a) 1 (h.1 + 2) (Int32.ofNat i) = some (a i) := c_aJ wce_2 (by decide) hi
theorem wce_a_b {h : jx_H} {c : jx_C} {a : Nat → Int64} {i : Nat} (hi : i < 16) {β_ : Type} {f_ : Int64 → Option β_} : (jx_aJ (wce h c a) 1 (h.1 + 2) (Int32.ofNat i)).bind f_ = f_ ((a i)) := bnd (wce_a hi)
theorem wce_s {h : jx_H} {c : jx_C} {a : Nat → Int64} {i : Nat} {y : Int64} (hi : i < 16) : jx_sJ (wce h c a) 1 (h.1 + 2) (Int32.ofNat i) y = some (wce h c (upL a i y)) := by
  rw [c_sJ wce_2 (by decide) hi]
  exact congrArg some (hA_hs (k := 2) (Nat.le_of_ble_eq_true rfl))
theorem wce_s_b {h : jx_H} {c : jx_C} {a : Nat → Int64} {i : Nat} {y : Int64} (hi : i < 16) {β_ : Type} {f_ : jx_H → Option β_} : (jx_sJ (wce h c a) 1 (h.1 + 2) (Int32.ofNat i) y).bind f_ = f_ ((wce h c (upL a i y))) := bnd (wce_s hi)
theorem W_in_loop {G : jx_Gv} {h : jx_H} {c : jx_C} (hG : jLt G) : ∀ (d i : Nat) (st : Nat × Int64 × (Nat → Int64)) (z3 z5 : Option Value), i + d = 96 → st.1 + d ≤ 100 → jE G (10, 19, [some (.ref (h.1 + 1)), some (.int (Int32.ofNat st.1)), some (.long st.2.1), z3, some (.int (Int32.ofNat i)), z5], [], wce h c st.2.2) = some (none, wce h c (wru d i st).2.2)
  | 0, i, st, z3, z5, hi, hs => by
    have e := hG.1 0 (by decide)
    have e' := fun {β : Type} {f : Nat → Option β} => bnd (f := f) e
    have j96 : jlen.getD 0 0 = 96 := by decide +kernel
    have lw := L_length (G := G) (h := wce h c st.2.2) hG (i := 0) (by decide)
    rw [j96] at lw
    have lw' := fun {β : Type} {f : jx_R → Option β} => bnd (f := f) lw
    rw [e_10_19, wru]
    simp (disch := omega) only [e_10_26, e_10_89, ↓e', ↓lw', ↓Option.bind_some, ↓jzo_0b, ↓jzo_1b, ↓jzo_bb, Option.toList_some, Option.toList_none, List.cons_append, List.nil_append, ↓reduceIte, jzo_0, jzo_1, jzo_b, jbi_t, jbi_f, i_add, ↓i_ltP, ↓i_ltN, ↓i_eqP, ↓i_eqN, i_lt, i_eq, jbi_0, pt_lt, pf_lt, pt_eq, pf_eq, pt_le, pf_le, Nat.reduceEqDiff, eq_self, true_or, or_true, false_or, or_false, true_and, and_true, false_and, and_false, jE_sw, jE_sw0]
  | d + 1, i, st, z3, z5, hi, hs => by
    have e := hG.1 0 (by decide)
    have e' := fun {β : Type} {f : Nat → Option β} => bnd (f := f) e
    have j96 : jlen.getD 0 0 = 96 := by decide +kernel
    have lw := L_length (G := G) (h := wce h c st.2.2) hG (i := 0) (by decide)
    rw [j96] at lw
    have lw' := fun {β : Type} {f : jx_R → Option β} => bnd (f := f) lw
    have ch := L_charAt (G := G) (h := wce h c st.2.2) hG (i := 0) (k := i) (by decide) (by rw [j96]; omega)
    have ch2 : jE G (6, 0, [some (.ref (G.1 0)), some (.int (Int32.ofNat i))], [], wce h c st.2.2) = some (some (.int (wch i)), wce h c st.2.2) := ch
    have ch' := fun {β : Type} {f : jx_R → Option β} => bnd (f := f) ch2
    have le := wst_le (i := i) (st := st)
    have ih := fun z3 z5 => W_in_loop (G := G) (h := h) (c := c) hG d (i + 1) (wst i st) z3 z5 (by omega) (by omega)
    rw [e_10_19, wru]
    by_cases c1 : wcode (wch i) = Int32.ofNat 0
    · have ew : wst i st = (st.1 + 1, 1, st.2.2) := if_pos c1
      rw [ew] at ih ⊢
      rw [← ih none (some (.int (Int32.ofNat 0)))]
      simp (disch := omega) only [e_10_26, e_10_29, e_10_36, e_10_39, e_10_46, e_10_83, ↓e', ↓lw', ↓ch', ↓W_codeOf_b, c1, ↓Option.bind_some, ↓jzo_0b, ↓jzo_1b, ↓jzo_bb, Option.toList_some, Option.toList_none, List.cons_append, List.nil_append, ↓reduceIte, jzo_0, jzo_1, jzo_b, jbi_t, jbi_f, i_add, ↓i_ltP, ↓i_ltN, ↓i_eqP, ↓i_eqN, i_lt, i_eq, jbi_0, pt_lt, pf_lt, pt_eq, pf_eq, pt_le, pf_le, Nat.reduceEqDiff, eq_self, true_or, or_true, false_or, or_false, true_and, and_true, false_and, and_false, jE_sw, jE_sw0]
    · by_cases c2 : st.1 < 16
      · have ew : wst i st = (st.1, st.2.1 * 37, upL st.2.2 st.1 (st.2.2 st.1 + (wcode (wch i)).toInt64 * st.2.1)) := (if_neg c1).trans (if_pos c2)
        rw [ew] at ih ⊢
        rw [← ih none (some (.int (wcode (wch i))))]
        simp (disch := omega) only [e_10_26, e_10_29, e_10_36, e_10_39, e_10_54, e_10_63, e_10_83, ↓e', ↓lw', ↓ch', ↓W_codeOf_b, ↓wce_f_b, ↓wce_n_b, ↓wce_a_b, ↓wce_s_b, c1, ↓Option.bind_some, ↓jzo_0b, ↓jzo_1b, ↓jzo_bb, Option.toList_some, Option.toList_none, List.cons_append, List.nil_append, ↓reduceIte, jzo_0, jzo_1, jzo_b, jbi_t, jbi_f, i_add, ↓i_ltP, ↓i_ltN, ↓i_eqP, ↓i_eqN, i_lt, i_eq, jbi_0, pt_lt, pf_lt, pt_eq, pf_eq, pt_le, pf_le, Nat.reduceEqDiff, eq_self, true_or, or_true, false_or, or_false, true_and, and_true, false_and, and_false, jE_sw, jE_sw0]
      · have ew : wst i st = st := (if_neg c1).trans (if_neg c2)
        rw [ew] at ih ⊢
        rw [← ih none (some (.int (wcode (wch i))))]
        simp (disch := omega) only [e_10_26, e_10_29, e_10_36, e_10_39, e_10_54, e_10_83, ↓e', ↓lw', ↓ch', ↓W_codeOf_b, ↓wce_f_b, ↓wce_n_b, c1, ↓Option.bind_some, ↓jzo_0b, ↓jzo_1b, ↓jzo_bb, Option.toList_some, Option.toList_none, List.cons_append, List.nil_append, ↓reduceIte, jzo_0, jzo_1, jzo_b, jbi_t, jbi_f, i_add, ↓i_ltP, ↓i_ltN, ↓i_eqP, ↓i_eqN, i_lt, i_eq, jbi_0, pt_lt, pf_lt, pt_eq, pf_eq, pt_le, pf_le, Nat.reduceEqDiff, eq_self, true_or, or_true, false_or, or_false, true_and, and_true, false_and, and_false, jE_sw, jE_sw0]
theorem W_init {G : jx_Gv} {h : jx_H} {c : jx_C} (hG : jLt G) : jE G (10, 0, [some (.ref (h.1 + 1)), none, none, none, none, none], [], hA h [c, .inl (2, [.null])] 8) = some (none, wce h c wn0) := by
  refine (e_10_0 (G := G)).trans ?_
  refine (bnd (hA_jna (by decide))).trans ?_
  refine (bnd (hA_put 1 rfl rfl)).trans ?_
  exact W_in_loop (c := c) hG 96 0 (0, 1, fun _ => 0) none none rfl (by decide)
theorem W_init_b {G : jx_Gv} {h : jx_H} {c : jx_C} (hG : jLt G) {β_ : Type} {f_ : jx_R → Option β_} : (jE G (10, 0, [some (.ref (h.1 + 1)), none, none, none, none, none], [], hA h [c, .inl (2, [.null])] 8)).bind f_ = f_ ((none, wce h c wn0)) := bnd (W_init hG)
theorem T_init {G : jx_Gv} {h : jx_H} : jE G (11, 0, [some (.ref (h.1 + 3))], [], hA h [.inl (0, [.null, .null, .null, .null, .null, .int 0, .int 0]), .inl (2, [.ref (h.1 + 2)]), .inr (1, 16, .inr (.inl (wn0))), .inl (1, [.null, .int 0, .int 0])] 27) = some (none, hA h [.inl (0, [.null, .null, .null, .null, .null, .int 0, .int 0]), .inl (2, [.ref (h.1 + 2)]), .inr (1, 16, .inr (.inl (wn0))), .inl (1, [.ref (h.1 + 4), .int (Int32.ofNat 0), .int (Int32.ofNat 0)]), .inr (0, 2000, .inl (fun _ => 0))] 2027) := by
  refine (e_11_0 (G := G)).trans ?_
  refine (bnd (hA_jna (by decide))).trans ?_
  refine (bnd (hA_put 3 rfl rfl)).trans ?_
  refine (bnd (hA_put 3 rfl rfl)).trans ?_
  refine jzo_0b.trans ?_
  refine (bnd (hA_put 3 rfl rfl)).trans ?_
  rfl
theorem T_init_b {G : jx_Gv} {h : jx_H} {β_ : Type} {f_ : jx_R → Option β_} : (jE G (11, 0, [some (.ref (h.1 + 3))], [], hA h [.inl (0, [.null, .null, .null, .null, .null, .int 0, .int 0]), .inl (2, [.ref (h.1 + 2)]), .inr (1, 16, .inr (.inl (wn0))), .inl (1, [.null, .int 0, .int 0])] 27)).bind f_ = f_ ((none, hA h [.inl (0, [.null, .null, .null, .null, .null, .int 0, .int 0]), .inl (2, [.ref (h.1 + 2)]), .inr (1, 16, .inr (.inl (wn0))), .inl (1, [.ref (h.1 + 4), .int (Int32.ofNat 0), .int (Int32.ofNat 0)]), .inr (0, 2000, .inl (fun _ => 0))] 2027)) := bnd (T_init )
theorem S_init {G : jx_Gv} {h : jx_H} : jE G (12, 0, [some (.ref (h.1 + 6)), some (.ref (h.1 + 3)), some (.ref (h.1 + 1))], [], hA h [.inl (0, [.ref (h.1 + 3), .null, .null, .null, .null, .int 0, .int 0]), .inl (2, [.ref (h.1 + 2)]), .inr (1, 16, .inr (.inl (wn0))), .inl (1, [.ref (h.1 + 4), .int (Int32.ofNat 0), .int (Int32.ofNat 0)]), .inr (0, 2000, .inl (fun _ => 0)), .inl (4, [.null, .int 0, .null, .int 0, .int 0, .int 0]), .inl (3, [.null, .null, .int 0, .int 0, .int 0, .int 0, .long 0])] 2040) = some (none, hA h [.inl (0, [.ref (h.1 + 3), .null, .null, .null, .null, .int 0, .int 0]), .inl (2, [.ref (h.1 + 2)]), .inr (1, 16, .inr (.inl (wn0))), .inl (1, [.ref (h.1 + 4), .int (Int32.ofNat 0), .int (Int32.ofNat 0)]), .inr (0, 2000, .inl (fun _ => 0)), .inl (4, [.null, .int 0, .null, .int 0, .int 0, .int 0]), .inl (3, [.ref (h.1 + 3), .ref (h.1 + 1), .int (Int32.ofNat 0), .int (Int32.ofNat 1), .int (Int32.ofNat 6), .int (Int32.ofNat 0), .long 0])] 2040) := by
  refine (e_12_0 (G := G)).trans ?_
  refine (bnd (hA_put 6 rfl rfl)).trans ?_
  refine (bnd (hA_put 6 rfl rfl)).trans ?_
  refine (bnd (hA_put 6 rfl rfl)).trans ?_
  refine (bnd (hA_put 6 rfl rfl)).trans ?_
  refine (bnd (hA_put 6 rfl rfl)).trans ?_
  refine (bnd (hA_put 6 rfl rfl)).trans ?_
  refine (bnd (hA_put 6 rfl rfl)).trans ?_
  rfl
theorem S_init_b {G : jx_Gv} {h : jx_H} {β_ : Type} {f_ : jx_R → Option β_} : (jE G (12, 0, [some (.ref (h.1 + 6)), some (.ref (h.1 + 3)), some (.ref (h.1 + 1))], [], hA h [.inl (0, [.ref (h.1 + 3), .null, .null, .null, .null, .int 0, .int 0]), .inl (2, [.ref (h.1 + 2)]), .inr (1, 16, .inr (.inl (wn0))), .inl (1, [.ref (h.1 + 4), .int (Int32.ofNat 0), .int (Int32.ofNat 0)]), .inr (0, 2000, .inl (fun _ => 0)), .inl (4, [.null, .int 0, .null, .int 0, .int 0, .int 0]), .inl (3, [.null, .null, .int 0, .int 0, .int 0, .int 0, .long 0])] 2040)).bind f_ = f_ ((none, hA h [.inl (0, [.ref (h.1 + 3), .null, .null, .null, .null, .int 0, .int 0]), .inl (2, [.ref (h.1 + 2)]), .inr (1, 16, .inr (.inl (wn0))), .inl (1, [.ref (h.1 + 4), .int (Int32.ofNat 0), .int (Int32.ofNat 0)]), .inr (0, 2000, .inl (fun _ => 0)), .inl (4, [.null, .int 0, .null, .int 0, .int 0, .int 0]), .inl (3, [.ref (h.1 + 3), .ref (h.1 + 1), .int (Int32.ofNat 0), .int (Int32.ofNat 1), .int (Int32.ofNat 6), .int (Int32.ofNat 0), .long 0])] 2040)) := bnd (S_init )
theorem D_init {G : jx_Gv} {h : jx_H} : jE G (13, 0, [some (.ref (h.1 + 5)), some (.ref (h.1 + 6))], [], hA h [.inl (0, [.ref (h.1 + 3), .null, .null, .null, .null, .int 0, .int 0]), .inl (2, [.ref (h.1 + 2)]), .inr (1, 16, .inr (.inl (wn0))), .inl (1, [.ref (h.1 + 4), .int (Int32.ofNat 0), .int (Int32.ofNat 0)]), .inr (0, 2000, .inl (fun _ => 0)), .inl (4, [.null, .int 0, .null, .int 0, .int 0, .int 0]), .inl (3, [.ref (h.1 + 3), .ref (h.1 + 1), .int (Int32.ofNat 0), .int (Int32.ofNat 1), .int (Int32.ofNat 6), .int (Int32.ofNat 0), .long 0])] 2040) = some (none, hA h [.inl (0, [.ref (h.1 + 3), .null, .null, .null, .null, .int 0, .int 0]), .inl (2, [.ref (h.1 + 2)]), .inr (1, 16, .inr (.inl (wn0))), .inl (1, [.ref (h.1 + 4), .int (Int32.ofNat 0), .int (Int32.ofNat 0)]), .inr (0, 2000, .inl (fun _ => 0)), .inl (4, [.ref (h.1 + 6), .int (Int32.ofNat 0), .ref (G.1 1), .int (Int32.ofNat 0), .int (Int32.ofNat 0), .int (Int32.ofNat 0)]), .inl (3, [.ref (h.1 + 3), .ref (h.1 + 1), .int (Int32.ofNat 0), .int (Int32.ofNat 1), .int (Int32.ofNat 6), .int (Int32.ofNat 0), .long 0])] 2040) := by
  refine (e_13_0 (G := G)).trans ?_
  refine (bnd (hA_put 5 rfl rfl)).trans ?_
  refine (bnd (hA_put 5 rfl rfl)).trans ?_
  refine (bnd (hA_put 5 rfl rfl)).trans ?_
  refine (bnd (hA_put 5 rfl rfl)).trans ?_
  refine (bnd (hA_put 5 rfl rfl)).trans ?_
  refine jzo_0b.trans ?_
  refine (bnd (hA_put 5 rfl rfl)).trans ?_
  rfl
theorem D_init_b {G : jx_Gv} {h : jx_H} {β_ : Type} {f_ : jx_R → Option β_} : (jE G (13, 0, [some (.ref (h.1 + 5)), some (.ref (h.1 + 6))], [], hA h [.inl (0, [.ref (h.1 + 3), .null, .null, .null, .null, .int 0, .int 0]), .inl (2, [.ref (h.1 + 2)]), .inr (1, 16, .inr (.inl (wn0))), .inl (1, [.ref (h.1 + 4), .int (Int32.ofNat 0), .int (Int32.ofNat 0)]), .inr (0, 2000, .inl (fun _ => 0)), .inl (4, [.null, .int 0, .null, .int 0, .int 0, .int 0]), .inl (3, [.ref (h.1 + 3), .ref (h.1 + 1), .int (Int32.ofNat 0), .int (Int32.ofNat 1), .int (Int32.ofNat 6), .int (Int32.ofNat 0), .long 0])] 2040)).bind f_ = f_ ((none, hA h [.inl (0, [.ref (h.1 + 3), .null, .null, .null, .null, .int 0, .int 0]), .inl (2, [.ref (h.1 + 2)]), .inr (1, 16, .inr (.inl (wn0))), .inl (1, [.ref (h.1 + 4), .int (Int32.ofNat 0), .int (Int32.ofNat 0)]), .inr (0, 2000, .inl (fun _ => 0)), .inl (4, [.ref (h.1 + 6), .int (Int32.ofNat 0), .ref (G.1 1), .int (Int32.ofNat 0), .int (Int32.ofNat 0), .int (Int32.ofNat 0)]), .inl (3, [.ref (h.1 + 3), .ref (h.1 + 1), .int (Int32.ofNat 0), .int (Int32.ofNat 1), .int (Int32.ofNat 6), .int (Int32.ofNat 0), .long 0])] 2040)) := bnd (D_init )
theorem V_init {G : jx_Gv} {h : jx_H} : jE G (14, 0, [some (.ref (h.1 + 7)), some (.ref (h.1 + 3)), some (.ref (h.1 + 1))], [], hA h [.inl (0, [.ref (h.1 + 3), .ref (h.1 + 5), .null, .null, .null, .int 0, .int 0]), .inl (2, [.ref (h.1 + 2)]), .inr (1, 16, .inr (.inl (wn0))), .inl (1, [.ref (h.1 + 4), .int (Int32.ofNat 0), .int (Int32.ofNat 0)]), .inr (0, 2000, .inl (fun _ => 0)), .inl (4, [.ref (h.1 + 6), .int (Int32.ofNat 0), .ref (G.1 1), .int (Int32.ofNat 0), .int (Int32.ofNat 0), .int (Int32.ofNat 0)]), .inl (3, [.ref (h.1 + 3), .ref (h.1 + 1), .int (Int32.ofNat 0), .int (Int32.ofNat 1), .int (Int32.ofNat 6), .int (Int32.ofNat 0), .long 0]), .inl (5, [.null, .null])] 2042) = some (none, hA h [.inl (0, [.ref (h.1 + 3), .ref (h.1 + 5), .null, .null, .null, .int 0, .int 0]), .inl (2, [.ref (h.1 + 2)]), .inr (1, 16, .inr (.inl (wn0))), .inl (1, [.ref (h.1 + 4), .int (Int32.ofNat 0), .int (Int32.ofNat 0)]), .inr (0, 2000, .inl (fun _ => 0)), .inl (4, [.ref (h.1 + 6), .int (Int32.ofNat 0), .ref (G.1 1), .int (Int32.ofNat 0), .int (Int32.ofNat 0), .int (Int32.ofNat 0)]), .inl (3, [.ref (h.1 + 3), .ref (h.1 + 1), .int (Int32.ofNat 0), .int (Int32.ofNat 1), .int (Int32.ofNat 6), .int (Int32.ofNat 0), .long 0]), .inl (5, [.ref (h.1 + 3), .ref (h.1 + 1)])] 2042) := by
  refine (e_14_0 (G := G)).trans ?_
  refine (bnd (hA_put 7 rfl rfl)).trans ?_
  refine (bnd (hA_put 7 rfl rfl)).trans ?_
  rfl
theorem V_init_b {G : jx_Gv} {h : jx_H} {β_ : Type} {f_ : jx_R → Option β_} : (jE G (14, 0, [some (.ref (h.1 + 7)), some (.ref (h.1 + 3)), some (.ref (h.1 + 1))], [], hA h [.inl (0, [.ref (h.1 + 3), .ref (h.1 + 5), .null, .null, .null, .int 0, .int 0]), .inl (2, [.ref (h.1 + 2)]), .inr (1, 16, .inr (.inl (wn0))), .inl (1, [.ref (h.1 + 4), .int (Int32.ofNat 0), .int (Int32.ofNat 0)]), .inr (0, 2000, .inl (fun _ => 0)), .inl (4, [.ref (h.1 + 6), .int (Int32.ofNat 0), .ref (G.1 1), .int (Int32.ofNat 0), .int (Int32.ofNat 0), .int (Int32.ofNat 0)]), .inl (3, [.ref (h.1 + 3), .ref (h.1 + 1), .int (Int32.ofNat 0), .int (Int32.ofNat 1), .int (Int32.ofNat 6), .int (Int32.ofNat 0), .long 0]), .inl (5, [.null, .null])] 2042)).bind f_ = f_ ((none, hA h [.inl (0, [.ref (h.1 + 3), .ref (h.1 + 5), .null, .null, .null, .int 0, .int 0]), .inl (2, [.ref (h.1 + 2)]), .inr (1, 16, .inr (.inl (wn0))), .inl (1, [.ref (h.1 + 4), .int (Int32.ofNat 0), .int (Int32.ofNat 0)]), .inr (0, 2000, .inl (fun _ => 0)), .inl (4, [.ref (h.1 + 6), .int (Int32.ofNat 0), .ref (G.1 1), .int (Int32.ofNat 0), .int (Int32.ofNat 0), .int (Int32.ofNat 0)]), .inl (3, [.ref (h.1 + 3), .ref (h.1 + 1), .int (Int32.ofNat 0), .int (Int32.ofNat 1), .int (Int32.ofNat 6), .int (Int32.ofNat 0), .long 0]), .inl (5, [.ref (h.1 + 3), .ref (h.1 + 1)])] 2042)) := bnd (V_init )
theorem RL_init {G : jx_Gv} {h : jx_H} : jE G (15, 0, [some (.ref (h.1 + 8))], [], hA h [.inl (0, [.ref (h.1 + 3), .ref (h.1 + 5), .ref (h.1 + 7), .null, .null, .int 0, .int 0]), .inl (2, [.ref (h.1 + 2)]), .inr (1, 16, .inr (.inl (wn0))), .inl (1, [.ref (h.1 + 4), .int (Int32.ofNat 0), .int (Int32.ofNat 0)]), .inr (0, 2000, .inl (fun _ => 0)), .inl (4, [.ref (h.1 + 6), .int (Int32.ofNat 0), .ref (G.1 1), .int (Int32.ofNat 0), .int (Int32.ofNat 0), .int (Int32.ofNat 0)]), .inl (3, [.ref (h.1 + 3), .ref (h.1 + 1), .int (Int32.ofNat 0), .int (Int32.ofNat 1), .int (Int32.ofNat 6), .int (Int32.ofNat 0), .long 0]), .inl (5, [.ref (h.1 + 3), .ref (h.1 + 1)]), .inl (6, [.null])] 2043) = some (none, hA h [.inl (0, [.ref (h.1 + 3), .ref (h.1 + 5), .ref (h.1 + 7), .null, .null, .int 0, .int 0]), .inl (2, [.ref (h.1 + 2)]), .inr (1, 16, .inr (.inl (wn0))), .inl (1, [.ref (h.1 + 4), .int (Int32.ofNat 0), .int (Int32.ofNat 0)]), .inr (0, 2000, .inl (fun _ => 0)), .inl (4, [.ref (h.1 + 6), .int (Int32.ofNat 0), .ref (G.1 1), .int (Int32.ofNat 0), .int (Int32.ofNat 0), .int (Int32.ofNat 0)]), .inl (3, [.ref (h.1 + 3), .ref (h.1 + 1), .int (Int32.ofNat 0), .int (Int32.ofNat 1), .int (Int32.ofNat 6), .int (Int32.ofNat 0), .long 0]), .inl (5, [.ref (h.1 + 3), .ref (h.1 + 1)]), .inl (6, [.ref (h.1 + 9)]), .inr (0, 120, .inl (fun _ => 0))] 2163) := by
  refine (e_15_0 (G := G)).trans ?_
  refine (bnd (hA_jna (by decide))).trans ?_
  refine (bnd (hA_put 8 rfl rfl)).trans ?_
  rfl
theorem RL_init_b {G : jx_Gv} {h : jx_H} {β_ : Type} {f_ : jx_R → Option β_} : (jE G (15, 0, [some (.ref (h.1 + 8))], [], hA h [.inl (0, [.ref (h.1 + 3), .ref (h.1 + 5), .ref (h.1 + 7), .null, .null, .int 0, .int 0]), .inl (2, [.ref (h.1 + 2)]), .inr (1, 16, .inr (.inl (wn0))), .inl (1, [.ref (h.1 + 4), .int (Int32.ofNat 0), .int (Int32.ofNat 0)]), .inr (0, 2000, .inl (fun _ => 0)), .inl (4, [.ref (h.1 + 6), .int (Int32.ofNat 0), .ref (G.1 1), .int (Int32.ofNat 0), .int (Int32.ofNat 0), .int (Int32.ofNat 0)]), .inl (3, [.ref (h.1 + 3), .ref (h.1 + 1), .int (Int32.ofNat 0), .int (Int32.ofNat 1), .int (Int32.ofNat 6), .int (Int32.ofNat 0), .long 0]), .inl (5, [.ref (h.1 + 3), .ref (h.1 + 1)]), .inl (6, [.null])] 2043)).bind f_ = f_ ((none, hA h [.inl (0, [.ref (h.1 + 3), .ref (h.1 + 5), .ref (h.1 + 7), .null, .null, .int 0, .int 0]), .inl (2, [.ref (h.1 + 2)]), .inr (1, 16, .inr (.inl (wn0))), .inl (1, [.ref (h.1 + 4), .int (Int32.ofNat 0), .int (Int32.ofNat 0)]), .inr (0, 2000, .inl (fun _ => 0)), .inl (4, [.ref (h.1 + 6), .int (Int32.ofNat 0), .ref (G.1 1), .int (Int32.ofNat 0), .int (Int32.ofNat 0), .int (Int32.ofNat 0)]), .inl (3, [.ref (h.1 + 3), .ref (h.1 + 1), .int (Int32.ofNat 0), .int (Int32.ofNat 1), .int (Int32.ofNat 6), .int (Int32.ofNat 0), .long 0]), .inl (5, [.ref (h.1 + 3), .ref (h.1 + 1)]), .inl (6, [.ref (h.1 + 9)]), .inr (0, 120, .inl (fun _ => 0))] 2163)) := bnd (RL_init )
def pcs (G : jx_Gv) (h : jx_H) : List jx_C := [.inl (0, [.ref (h.1 + 3), .ref (h.1 + 5), .ref (h.1 + 7), .ref (h.1 + 8), .ref (h.1 + 10), .int (Int32.ofNat 0), .int (-(Int32.ofNat 1))]), .inl (2, [.ref (h.1 + 2)]), .inr (1, 16, .inr (.inl (wn0))), .inl (1, [.ref (h.1 + 4), .int (Int32.ofNat 0), .int (Int32.ofNat 0)]), .inr (0, 2000, .inl (fun _ => 0)), .inl (4, [.ref (h.1 + 6), .int (Int32.ofNat 0), .ref (G.1 1), .int (Int32.ofNat 0), .int (Int32.ofNat 0), .int (Int32.ofNat 0)]), .inl (3, [.ref (h.1 + 3), .ref (h.1 + 1), .int (Int32.ofNat 0), .int (Int32.ofNat 1), .int (Int32.ofNat 6), .int (Int32.ofNat 0), .long 0]), .inl (5, [.ref (h.1 + 3), .ref (h.1 + 1)]), .inl (6, [.ref (h.1 + 9)]), .inr (0, 120, .inl (fun _ => 0)), .inr (4, 10, .inr (.inr (.inr (.inr (fun _ => none)))))]
theorem hA_rv {h : jx_H} {l : List jx_C} {s k ci : Nat} {fs av : List Value} (hc : l[k]? = some (.inl (ci, fs))) : jx_recv (hA h l s) (.ref (h.1 + k) :: av) (some ci) = true := by
  have hk : k < l.length := by
    apply Classical.byContradiction
    intro z
    rw [List.getElem?_eq_none (by omega)] at hc
    cases hc
  exact c_rv ((hA_at hk).trans hc)
theorem hA_fA {h : jx_H} {l : List jx_C} {s ci f x : Nat} {fs : List Value} (k : Nat) (hc : l[k]? = some (.inl (ci, fs))) (hf : fs[f]? = some (.ref x)) : jx_fA (hA h l s) (h.1 + k) ci f = some x := by
  have hk : k < l.length := by
    apply Classical.byContradiction
    intro z
    rw [List.getElem?_eq_none (by omega)] at hc
    cases hc
  exact c_fA ((hA_at hk).trans hc) hf
theorem hA_fA_b {h : jx_H} {l : List jx_C} {s ci f x : Nat} {fs : List Value} (k : Nat) (hc : l[k]? = some (.inl (ci, fs))) (hf : fs[f]? = some (.ref x)) {β_ : Type} {f_ : Nat → Option β_} : (jx_fA (hA h l s) (h.1 + k) ci f).bind f_ = f_ (x) := bnd (hA_fA k hc hf)
theorem P_init {G : jx_Gv} {h : jx_H} (hG : jLt G) : jE G (16, 0, [some (.ref h.1), none], [], jn h 7 (.inl (0, [.null, .null, .null, .null, .null, .int 0, .int 0]))) = some (none, hA h (pcs G h) 2173) := by
  have e0 : jn h 7 (.inl (0, [.null, .null, .null, .null, .null, .int 0, .int 0])) = hA h [.inl (0, [.null, .null, .null, .null, .null, .int 0, .int 0])] 7 := by
    have z := hA_jn (h := h) (l := []) (s := 0) (N := 7) (c := .inl (0, [.null, .null, .null, .null, .null, .int 0, .int 0]))
    rw [hA_0] at z
    exact z
  rw [e0]
  refine (e_16_0 (G := G)).trans ?_
  refine (bnd (congrArg some hA_jn)).trans ?_
  refine (if_pos (hA_rv (k := 1) rfl)).trans ?_
  refine (bnd (W_init hG)).trans ?_
  refine (e_16_11 (G := G)).trans ?_
  refine (bnd (congrArg some hA_jn)).trans ?_
  refine (if_pos (hA_rv (k := 3) rfl)).trans ?_
  refine (bnd T_init).trans ?_
  refine (e_16_20 (G := G)).trans ?_
  refine (bnd (hA_put 0 rfl rfl)).trans ?_
  refine (bnd (congrArg some hA_jn)).trans ?_
  refine (bnd (congrArg some hA_jn)).trans ?_
  refine (bnd (hA_fA 0 rfl rfl)).trans ?_
  refine (if_pos (hA_rv (k := 6) rfl)).trans ?_
  refine (bnd S_init).trans ?_
  refine (e_16_40 (G := G)).trans ?_
  refine (if_pos (hA_rv (k := 5) rfl)).trans ?_
  refine (bnd D_init).trans ?_
  refine (e_16_43 (G := G)).trans ?_
  refine (bnd (hA_put 0 rfl rfl)).trans ?_
  refine (bnd (congrArg some hA_jn)).trans ?_
  refine (bnd (hA_fA 0 rfl rfl)).trans ?_
  refine (if_pos (hA_rv (k := 7) rfl)).trans ?_
  refine (bnd V_init).trans ?_
  refine (e_16_59 (G := G)).trans ?_
  refine (bnd (hA_put 0 rfl rfl)).trans ?_
  refine (bnd (congrArg some hA_jn)).trans ?_
  refine (if_pos (hA_rv (k := 8) rfl)).trans ?_
  refine (bnd RL_init).trans ?_
  refine (e_16_70 (G := G)).trans ?_
  refine (bnd (hA_put 0 rfl rfl)).trans ?_
  refine (bnd (hA_jna (by decide))).trans ?_
  refine (bnd (hA_put 0 rfl rfl)).trans ?_
  refine (bnd (hA_put 0 rfl rfl)).trans ?_
  refine (bnd (hA_put 0 rfl rfl)).trans ?_
  rfl

theorem P_init_b {G : jx_Gv} {h : jx_H} (hG : jLt G) {β_ : Type} {f_ : jx_R → Option β_} : (jE G (16, 0, [some (.ref h.1), none], [], jn h 7 (.inl (0, [.null, .null, .null, .null, .null, .int 0, .int 0])))).bind f_ = f_ ((none, hA h (pcs G h) 2173)) := bnd (P_init hG)