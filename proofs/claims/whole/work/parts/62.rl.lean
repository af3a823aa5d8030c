/-! THE REFERENCE READS OCTETS AND WRITES ITS COPY -/
theorem N_isLetter {G : jx_Gv} {h : jx_H} {x : Int32} : jE G (72, 0, [some (.int x)], [], h) = some (some (.int (jbi (wlet x))), h) := by
  by_cases c1 : x < Int32.ofNat 97
  · simp (disch := omega) only [e_72_0, e_72_6, e_72_12, e_72_16, e_72_17, ↓Option.bind_some, ↓jzo_0b, ↓jzo_1b, ↓jzo_bb, Option.toList_some, Option.toList_none, List.cons_append, List.nil_append, ↓reduceIte, jzo_0, jzo_1, jzo_b, jbi_t, jbi_f, i_add, ↓i_ltP, ↓i_ltN, ↓i_eqP, ↓i_eqN, i_lt, i_eq, jbi_0, pt_lt, pf_lt, pt_eq, pf_eq, pt_le, pf_le, Nat.reduceEqDiff, eq_self, true_or, or_true, false_or, or_false, true_and, and_true, false_and, and_false, jE_sw, jE_sw0, wlet, c1, decide_true, Bool.not_true, Bool.false_and]
  by_cases c2 : Int32.ofNat 122 < x <;> simp (disch := omega) only [e_72_0, e_72_6, e_72_12, e_72_16, e_72_17, ↓Option.bind_some, ↓jzo_0b, ↓jzo_1b, ↓jzo_bb, Option.toList_some, Option.toList_none, List.cons_append, List.nil_append, ↓reduceIte, jzo_0, jzo_1, jzo_b, jbi_t, jbi_f, i_add, ↓i_ltP, ↓i_ltN, ↓i_eqP, ↓i_eqN, i_lt, i_eq, jbi_0, pt_lt, pf_lt, pt_eq, pf_eq, pt_le, pf_le, Nat.reduceEqDiff, eq_self, true_or, or_true, false_or, or_false, true_and, and_true, false_and, and_false, jE_sw, jE_sw0, wlet, c1, c2, decide_true, decide_false, Bool.not_false, Bool.not_true, Bool.true_and]
theorem N_isLetter_b {G : jx_Gv} {h : jx_H} {x : Int32} {β_ : Type} {f_ : jx_R → Option β_} : (jE G (72, 0, [some (.int x)], [], h)).bind f_ = f_ ((some (.int (jbi (wlet x))), h)) := bnd (N_isLetter )
theorem N_isDigit {G : jx_Gv} {h : jx_H} {x : Int32} : jE G (73, 0, [some (.int x)], [], h) = some (some (.int (jbi (wdig x))), h) := by
  by_cases c1 : x < Int32.ofNat 48
  · simp (disch := omega) only [e_73_0, e_73_6, e_73_12, e_73_16, e_73_17, ↓Option.bind_some, ↓jzo_0b, ↓jzo_1b, ↓jzo_bb, Option.toList_some, Option.toList_none, List.cons_append, List.nil_append, ↓reduceIte, jzo_0, jzo_1, jzo_b, jbi_t, jbi_f, i_add, ↓i_ltP, ↓i_ltN, ↓i_eqP, ↓i_eqN, i_lt, i_eq, jbi_0, pt_lt, pf_lt, pt_eq, pf_eq, pt_le, pf_le, Nat.reduceEqDiff, eq_self, true_or, or_true, false_or, or_false, true_and, and_true, false_and, and_false, jE_sw, jE_sw0, wdig, c1, decide_true, Bool.not_true, Bool.false_and]
  by_cases c2 : Int32.ofNat 57 < x <;> simp (disch := omega) only [e_73_0, e_73_6, e_73_12, e_73_16, e_73_17, ↓Option.bind_some, ↓jzo_0b, ↓jzo_1b, ↓jzo_bb, Option.toList_some, Option.toList_none, List.cons_append, List.nil_append, ↓reduceIte, jzo_0, jzo_1, jzo_b, jbi_t, jbi_f, i_add, ↓i_ltP, ↓i_ltN, ↓i_eqP, ↓i_eqN, i_lt, i_eq, jbi_0, pt_lt, pf_lt, pt_eq, pf_eq, pt_le, pf_le, Nat.reduceEqDiff, eq_self, true_or, or_true, false_or, or_false, true_and, and_true, false_and, and_false, jE_sw, jE_sw0, wdig, c1, c2, decide_true, decide_false, Bool.not_false, Bool.not_true, Bool.true_and]
theorem N_isDigit_b {G : jx_Gv} {h : jx_H} {x : Int32} {β_ : Type} {f_ : jx_R → Option β_} : (jE G (73, 0, [some (.int x)], [], h)).bind f_ = f_ ((some (.int (jbi (wdig x))), h)) := bnd (N_isDigit )
theorem N_here {G : jx_Gv} {h : jx_H} {b : Nat} {S : Nat → Int32} {A : Nat → Nat → Int32} {p len : Nat} (hp : S 2 = Int32.ofNat p) (hs : S 0 = Int32.ofNat len) (hp2 : p < 2147483648) (hl : len ≤ 2000) : jE G (71, 0, [some (.ref b)], [], hR h b S A) = some (some (.int (toc (A 1) len p)), hR h b S A) := by
  by_cases c : p < len
  · simp (disch := omega) only [e_71_0, e_71_11, e_71_23, e_71_24, ↓rg_at_b, ↓rg_size_b, ↓ra_text_b, ↓rl_text_b, hp, hs, toc, c, ↓Option.bind_some, ↓jzo_0b, ↓jzo_1b, ↓jzo_bb, Option.toList_some, Option.toList_none, List.cons_append, List.nil_append, ↓reduceIte, jzo_0, jzo_1, jzo_b, jbi_t, jbi_f, i_add, ↓i_ltP, ↓i_ltN, ↓i_eqP, ↓i_eqN, i_lt, i_eq, jbi_0, pt_lt, pf_lt, pt_eq, pf_eq, pt_le, pf_le, Nat.reduceEqDiff, eq_self, true_or, or_true, false_or, or_false, true_and, and_true, false_and, and_false, jE_sw, jE_sw0]
  · simp (disch := omega) only [e_71_0, e_71_11, e_71_23, e_71_24, ↓rg_at_b, ↓rg_size_b, hp, hs, toc, c, ↓Option.bind_some, ↓jzo_0b, ↓jzo_1b, ↓jzo_bb, Option.toList_some, Option.toList_none, List.cons_append, List.nil_append, ↓reduceIte, jzo_0, jzo_1, jzo_b, jbi_t, jbi_f, i_add, ↓i_ltP, ↓i_ltN, ↓i_eqP, ↓i_eqN, i_lt, i_eq, jbi_0, pt_lt, pf_lt, pt_eq, pf_eq, pt_le, pf_le, Nat.reduceEqDiff, eq_self, true_or, or_true, false_or, or_false, true_and, and_true, false_and, and_false, jE_sw, jE_sw0]
theorem N_here_b {G : jx_Gv} {h : jx_H} {b : Nat} {S : Nat → Int32} {A : Nat → Nat → Int32} {p len : Nat} (hp : S 2 = Int32.ofNat p) (hs : S 0 = Int32.ofNat len) (hp2 : p < 2147483648) (hl : len ≤ 2000) {β_ : Type} {f_ : jx_R → Option β_} : (jE G (71, 0, [some (.ref b)], [], hR h b S A)).bind f_ = f_ ((some (.int (toc (A 1) len p)), hR h b S A)) := bnd (N_here hp hs hp2 hl)
theorem N_at {G : jx_Gv} {h : jx_H} {b : Nat} {S : Nat → Int32} {A : Nat → Nat → Int32} {len : Nat} (hs : S 0 = Int32.ofNat len) (hl : len ≤ 2000) {x : Int32} : jE G (183, 0, [some (.ref b), some (.int x)], [], hR h b S A) = some (some (.int (if x < Int32.ofNat 0 then -(Int32.ofNat 1) else toc (A 1) len x.toNatClampNeg)), hR h b S A) := by
  by_cases c0 : x < Int32.ofNat 0
  · simp (disch := omega) only [e_183_0, e_183_4, e_183_12, e_183_16, e_183_22, c0, ↓Option.bind_some, ↓jzo_0b, ↓jzo_1b, ↓jzo_bb, Option.toList_some, Option.toList_none, List.cons_append, List.nil_append, ↓reduceIte, jzo_0, jzo_1, jzo_b, jbi_t, jbi_f, i_add, ↓i_ltP, ↓i_ltN, ↓i_eqP, ↓i_eqN, i_lt, i_eq, jbi_0, pt_lt, pf_lt, pt_eq, pf_eq, pt_le, pf_le, Nat.reduceEqDiff, eq_self, true_or, or_true, false_or, or_false, true_and, and_true, false_and, and_false, jE_sw, jE_sw0]
  · obtain ⟨e, e2⟩ := i_raw c0
    rw [if_neg c0]
    generalize x.toNatClampNeg = n at *
    subst e
    by_cases c : n < len
    · simp (disch := omega) only [e_183_0, e_183_4, e_183_12, e_183_16, e_183_22, ↓rg_size_b, ↓ra_text_b, ↓rl_text_b, hs, toc, c, ↓Option.bind_some, ↓jzo_0b, ↓jzo_1b, ↓jzo_bb, Option.toList_some, Option.toList_none, List.cons_append, List.nil_append, ↓reduceIte, jzo_0, jzo_1, jzo_b, jbi_t, jbi_f, i_add, ↓i_ltP, ↓i_ltN, ↓i_eqP, ↓i_eqN, i_lt, i_eq, jbi_0, pt_lt, pf_lt, pt_eq, pf_eq, pt_le, pf_le, Nat.reduceEqDiff, eq_self, true_or, or_true, false_or, or_false, true_and, and_true, false_and, and_false, jE_sw, jE_sw0]
    · simp (disch := omega) only [e_183_0, e_183_4, e_183_12, e_183_16, e_183_22, ↓rg_size_b, hs, toc, c, ↓Option.bind_some, ↓jzo_0b, ↓jzo_1b, ↓jzo_bb, Option.toList_some, Option.toList_none, List.cons_append, List.nil_append, ↓reduceIte, jzo_0, jzo_1, jzo_b, jbi_t, jbi_f, i_add, ↓i_ltP, ↓i_ltN, ↓i_eqP, ↓i_eqN, i_lt, i_eq, jbi_0, pt_lt, pf_lt, pt_eq, pf_eq, pt_le, pf_le, Nat.reduceEqDiff, eq_self, true_or, or_true, false_or, or_false, true_and, and_true, false_and, and_false, jE_sw, jE_sw0]
theorem N_at_b {G : jx_Gv} {h : jx_H} {b : Nat} {S : Nat → Int32} {A : Nat → Nat → Int32} {len : Nat} (hs : S 0 = Int32.ofNat len) (hl : len ≤ 2000) {x : Int32} {β_ : Type} {f_ : jx_R → Option β_} : (jE G (183, 0, [some (.ref b), some (.int x)], [], hR h b S A)).bind f_ = f_ ((some (.int (if x < Int32.ofNat 0 then -(Int32.ofNat 1) else toc (A 1) len x.toNatClampNeg)), hR h b S A)) := bnd (N_at hs hl)
/-- the copy that is written: its octets, how many -/
def hW (h : jx_H) (b : Nat) (S : Nat → Int32) (A : Nat → Nat → Int32) (q : (Nat → Int32) × Nat) : jx_H := hR h b (upd S 28 (Int32.ofNat q.2)) (upA A 19 q.1)
def wp (q : (Nat → Int32) × Nat) (x : Int32) : (Nat → Int32) × Nat := (upd q.1 q.2 x, q.2 + 1)
def wps (q : (Nat → Int32) × Nat) (l : List Int32) : (Nat → Int32) × Nat := l.foldl wp q
theorem wps_len {l : List Int32} : ∀ {q : (Nat → Int32) × Nat}, (wps q l).2 = q.2 + l.length := by
  induction l with
  | nil => intro q; rfl
  | cons x l ih =>
    intro q
    show (wps (wp q x) l).2 = q.2 + (l.length + 1)
    rw [ih]
    show q.2 + 1 + l.length = q.2 + (l.length + 1)
    omega
theorem wps_app {q : (Nat → Int32) × Nat} {l m : List Int32} : wps (wps q l) m = wps q (l ++ m) := (List.foldl_append ..).symm
theorem N_put {G : jx_Gv} {h : jx_H} {b : Nat} {S : Nat → Int32} {A : Nat → Nat → Int32} {q : (Nat → Int32) × Nat} {x : Int32} (hq : q.2 < 6000) : jE G (79, 0, [some (.ref b), some (.int x)], [], hW h b S A q) = some (none, hW h b S A (wp q x)) := by
  unfold hW wp
  simp (disch := omega) only [e_79_0, ↓rg_written_b, ↓ra_writing_b, ↓rs_writing_b, ↓rp_written_b, upd_at, upA_at, upd_upd, upA_upA, ↓Option.bind_some, ↓jzo_0b, ↓jzo_1b, ↓jzo_bb, Option.toList_some, Option.toList_none, List.cons_append, List.nil_append, ↓reduceIte, jzo_0, jzo_1, jzo_b, jbi_t, jbi_f, i_add, ↓i_ltP, ↓i_ltN, ↓i_eqP, ↓i_eqN, i_lt, i_eq, jbi_0, pt_lt, pf_lt, pt_eq, pf_eq, pt_le, pf_le, Nat.reduceEqDiff, eq_self, true_or, or_true, false_or, or_false, true_and, and_true, false_and, and_false, jE_sw, jE_sw0]
theorem N_put_b {G : jx_Gv} {h : jx_H} {b : Nat} {S : Nat → Int32} {A : Nat → Nat → Int32} {q : (Nat → Int32) × Nat} {x : Int32} (hq : q.2 < 6000) {β_ : Type} {f_ : jx_R → Option β_} : (jE G (79, 0, [some (.ref b), some (.int x)], [], hW h b S A q)).bind f_ = f_ ((none, hW h b S A (wp q x))) := bnd (N_put hq)
/-- the digits of a number, the highest first -/
def pwr : Nat → Nat
  | 0 => 1
  | k + 1 => pwr k * 10
def pdg (v : Nat) : Nat → List Int32
  | 0 => [Int32.ofNat (48 + v / 1 % 10)]
  | k + 1 => Int32.ofNat (48 + v / pwr (k + 1) % 10) :: pdg v k
