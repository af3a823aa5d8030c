/-! THE READER'S STEPS, ALL -/
def tTr (c : jS) (D : jR) (X : jX) : Bool × jR × jX := if sWd c (Int32.ofNat 512) = true then (true, (D.1, 9, 0, D.2.2.2), xaddTok X c.2.2.1 (Int32.ofNat 512)) else if sWd c (Int32.ofNat 1024) = true then (true, (D.1, 10, 0, D.2.2.2), xaddTok X c.2.2.1 (Int32.ofNat 1024)) else tAc c D X
theorem D_takeTrigger {G : jx_Gv} {h : jx_H} {r t w a : Nat} (hra : r + 1 < a) {c : jS} {D : jR} {X : jX} (hX : xRoom X) (hc : sOk c) (ha : D.2.2.2.1 < 2147483648) : jE G (58, 0, [some (.ref r), some (.ref a)], [], hF h r t w a c (dG G D) X) = some (some (.int (jbi (tTr c D X).1)), hF h r t w a c (dG G (tTr c D X).2.1) (tTr c D X).2.2) := by
  unfold tTr
  cases c1 : sWd c (Int32.ofNat 512)
  · rw [if_neg (by decide)]
    cases c2 : sWd c (Int32.ofNat 1024)
    · rw [if_neg (by decide)]
      have q := D_takeAccess (G := G) hra (h := h) (t := t) (w := w) (c := c) (D := D) (X := X) hX hc ha
      have q' := fun {β : Type} {f : jx_R → Option β} => bnd (f := f) q
      simp (disch := omega) only [e_58_0, e_58_10, e_58_13, e_58_19, e_58_27, e_58_28, e_58_38, e_58_41, e_58_47, e_58_55, e_58_56, e_58_61, ↓fr_s_b, fs_rv, fr_rv, ↓S_isWordOf_b hra, ↓q', c1, c2, ↓Option.bind_some, ↓jzo_0b, ↓jzo_1b, ↓jzo_bb, Option.toList_some, Option.toList_none, List.cons_append, List.nil_append, ↓reduceIte, jzo_0, jzo_1, jzo_b, jbi_t, jbi_f, i_add, ↓i_ltP, ↓i_ltN, ↓i_eqP, ↓i_eqN, i_lt, i_eq, jbi_0, pt_lt, pf_lt, pt_eq, pf_eq, pt_le, pf_le, Nat.reduceEqDiff, eq_self, true_or, or_true, false_or, or_false, true_and, and_true, false_and, and_false, jE_sw, jE_sw0]
    · rw [if_pos rfl]
      simp (disch := omega) only [e_58_0, e_58_10, e_58_13, e_58_19, e_58_27, e_58_28, e_58_38, e_58_41, e_58_47, e_58_55, e_58_56, e_58_61, ↓fr_s_b, fs_rv, fr_rv, ↓S_isWordOf_b hra, ↓D_follow_b hra, ↓D_take_b hra hX hc, c1, c2, ↓Option.bind_some, ↓jzo_0b, ↓jzo_1b, ↓jzo_bb, Option.toList_some, Option.toList_none, List.cons_append, List.nil_append, ↓reduceIte, jzo_0, jzo_1, jzo_b, jbi_t, jbi_f, i_add, ↓i_ltP, ↓i_ltN, ↓i_eqP, ↓i_eqN, i_lt, i_eq, jbi_0, pt_lt, pf_lt, pt_eq, pf_eq, pt_le, pf_le, Nat.reduceEqDiff, eq_self, true_or, or_true, false_or, or_false, true_and, and_true, false_and, and_false, jE_sw, jE_sw0]
  · rw [if_pos rfl]
    simp (disch := omega) only [e_58_0, e_58_10, e_58_13, e_58_19, e_58_27, e_58_28, e_58_38, e_58_41, e_58_47, e_58_55, e_58_56, e_58_61, ↓fr_s_b, fs_rv, fr_rv, ↓S_isWordOf_b hra, ↓D_follow_b hra, ↓D_take_b hra hX hc, c1, ↓Option.bind_some, ↓jzo_0b, ↓jzo_1b, ↓jzo_bb, Option.toList_some, Option.toList_none, List.cons_append, List.nil_append, ↓reduceIte, jzo_0, jzo_1, jzo_b, jbi_t, jbi_f, i_add, ↓i_ltP, ↓i_ltN, ↓i_eqP, ↓i_eqN, i_lt, i_eq, jbi_0, pt_lt, pf_lt, pt_eq, pf_eq, pt_le, pf_le, Nat.reduceEqDiff, eq_self, true_or, or_true, false_or, or_false, true_and, and_true, false_and, and_false, jE_sw, jE_sw0]
theorem D_takeTrigger_b {G : jx_Gv} {h : jx_H} {r t w a : Nat} (hra : r + 1 < a) {c : jS} {D : jR} {X : jX} (hX : xRoom X) (hc : sOk c) (ha : D.2.2.2.1 < 2147483648) {β_ : Type} {f_ : jx_R → Option β_} : (jE G (58, 0, [some (.ref r), some (.ref a)], [], hF h r t w a c (dG G D) X)).bind f_ = f_ ((some (.int (jbi (tTr c D X).1)), hF h r t w a c (dG G (tTr c D X).2.1) (tTr c D X).2.2)) := bnd (D_takeTrigger hra hX hc ha)
def tVa (c : jS) (D : jR) (X : jX) : Bool × jR × jX := if D.2.2.2.2 = false ∧ sSg c (Int32.ofNat 45) = true then (true, (D.1, D.2.1, D.2.2.1 - 1, D.2.2.2.1, true), X) else if c.2.2.1 = Int32.ofNat 3 then (true, (D.1, D.2.1, D.2.2.1, D.2.2.2.1, false), xaddTok X c.2.2.1 (cond D.2.2.2.2 (-c.2.2.2.1) c.2.2.2.1)) else (false, (D.1, D.2.1, D.2.2.1, D.2.2.2.1, false), X)
theorem D_takeValue {G : jx_Gv} {h : jx_H} {r t w a : Nat} (hra : r + 1 < a) {c : jS} {D : jR} {X : jX} (hX : xRoom X) (hc : sOk c) (hs : 1 ≤ D.2.2.1) : jE G (56, 0, [some (.ref r), some (.ref a), none], [], hF h r t w a c (dG G D) X) = some (some (.int (jbi (tVa c D X).1)), hF h r t w a c (dG G (tVa c D X).2.1) (tVa c D X).2.2) := by
  obtain ⟨bl, fo, st, ac, mi⟩ := D
  have tk := fun D v => D_take (G := G) hra (h := h) (t := t) (w := w) (c := c) (d := dG G D) (X := X) (v := v) hX hc
  have tk' := fun D v {β : Type} {f : jx_R → Option β} => bnd (f := f) (tk D v)
  have fm : ∀ D : jR, jx_fI (hF h r t w a c (dG G D) X) r 4 5 = some (jbi D.2.2.2.2) := fun D => fr_minus
  have fm' := fun D {β : Type} {f : Int32 → Option β} => bnd (f := f) (fm D)
  have fp : ∀ D : jR, jx_fI (hF h r t w a c (dG G D) X) r 4 3 = some (Int32.ofNat D.2.2.1) := fun D => fr_step
  have fp' := fun D {β : Type} {f : Int32 → Option β} => bnd (f := f) (fp D)
  have p1 : ∀ D : jR, jx_put (hF h r t w a c (dG G D) X) r 4 5 (.int (Int32.ofNat 1)) = some (hF h r t w a c (dG G (D.1, D.2.1, D.2.2.1, D.2.2.2.1, true)) X) := fun D => pr_minus1
  have p1' := fun D {β : Type} {f : jx_H → Option β} => bnd (f := f) (p1 D)
  have p0 : ∀ D : jR, jx_put (hF h r t w a c (dG G D) X) r 4 5 (.int (Int32.ofNat 0)) = some (hF h r t w a c (dG G (D.1, D.2.1, D.2.2.1, D.2.2.2.1, false)) X) := fun D => pr_minus0
  have p0' := fun D {β : Type} {f : jx_H → Option β} => bnd (f := f) (p0 D)
  have ps : ∀ (D : jR) (n : Nat), jx_put (hF h r t w a c (dG G D) X) r 4 3 (.int (Int32.ofNat n)) = some (hF h r t w a c (dG G (D.1, D.2.1, n, D.2.2.2.1, D.2.2.2.2)) X) := fun D n => pr_step
  have ps' := fun D n {β : Type} {f : jx_H → Option β} => bnd (f := f) (ps D n)
  have hs' : 1 ≤ st := hs
  unfold tVa
  cases mi
  · cases c1 : sSg c (Int32.ofNat 45)
    · rw [if_neg (fun q => by cases q.2)]
      by_cases c2 : c.2.2.1 = Int32.ofNat 3
      · rw [if_pos c2]
        simp (disch := omega) only [e_56_0, e_56_7, e_56_16, e_56_19, e_56_36, e_56_43, e_56_50, e_56_54, e_56_61, e_56_74, e_56_78, e_56_84, e_56_87, e_56_91, e_56_92, ↓fr_s_b, fs_rv, fr_rv, ↓fm', ↓p0', ↓S_isSignOf_b hra, ↓S_value_b hra, ↓S_sort_b hra, ↓tk', c1, c2, ↓Option.bind_some, ↓jzo_0b, ↓jzo_1b, ↓jzo_bb, Option.toList_some, Option.toList_none, List.cons_append, List.nil_append, ↓reduceIte, jzo_0, jzo_1, jzo_b, jbi_t, jbi_f, i_add, ↓i_ltP, ↓i_ltN, ↓i_eqP, ↓i_eqN, i_lt, i_eq, jbi_0, pt_lt, pf_lt, pt_eq, pf_eq, pt_le, pf_le, Nat.reduceEqDiff, eq_self, true_or, or_true, false_or, or_false, true_and, and_true, false_and, and_false, jE_sw, jE_sw0, cond_false]
      · rw [if_neg c2]
        simp (disch := omega) only [e_56_0, e_56_7, e_56_16, e_56_19, e_56_36, e_56_43, e_56_50, e_56_54, e_56_61, e_56_74, e_56_78, e_56_84, e_56_87, e_56_91, e_56_92, ↓fr_s_b, fs_rv, fr_rv, ↓fm', ↓p0', ↓S_isSignOf_b hra, ↓S_value_b hra, ↓S_sort_b hra, c1, c2, ↓Option.bind_some, ↓jzo_0b, ↓jzo_1b, ↓jzo_bb, Option.toList_some, Option.toList_none, List.cons_append, List.nil_append, ↓reduceIte, jzo_0, jzo_1, jzo_b, jbi_t, jbi_f, i_add, ↓i_ltP, ↓i_ltN, ↓i_eqP, ↓i_eqN, i_lt, i_eq, jbi_0, pt_lt, pf_lt, pt_eq, pf_eq, pt_le, pf_le, Nat.reduceEqDiff, eq_self, true_or, or_true, false_or, or_false, true_and, and_true, false_and, and_false, jE_sw, jE_sw0]
    · rw [if_pos ⟨rfl, rfl⟩]
      simp (disch := omega) only [e_56_0, e_56_7, e_56_16, e_56_19, e_56_36, e_56_43, e_56_50, e_56_54, e_56_61, e_56_74, e_56_78, e_56_84, e_56_87, e_56_91, e_56_92, ↓fr_s_b, fs_rv, fr_rv, ↓fm', ↓p1', ↓fp', ↓ps', ↓S_isSignOf_b hra, i_sub, c1, ↓Option.bind_some, ↓jzo_0b, ↓jzo_1b, ↓jzo_bb, Option.toList_some, Option.toList_none, List.cons_append, List.nil_append, ↓reduceIte, jzo_0, jzo_1, jzo_b, jbi_t, jbi_f, i_add, ↓i_ltP, ↓i_ltN, ↓i_eqP, ↓i_eqN, i_lt, i_eq, jbi_0, pt_lt, pf_lt, pt_eq, pf_eq, pt_le, pf_le, Nat.reduceEqDiff, eq_self, true_or, or_true, false_or, or_false, true_and, and_true, false_and, and_false, jE_sw, jE_sw0]
  · rw [if_neg (fun q => by cases q.1)]
    by_cases c2 : c.2.2.1 = Int32.ofNat 3
    · rw [if_pos c2]
      simp (disch := omega) only [e_56_0, e_56_7, e_56_16, e_56_19, e_56_36, e_56_43, e_56_50, e_56_54, e_56_61, e_56_74, e_56_78, e_56_84, e_56_87, e_56_91, e_56_92, ↓fr_s_b, fs_rv, fr_rv, ↓fm', ↓p0', ↓S_value_b hra, ↓S_sort_b hra, ↓tk', c2, ↓Option.bind_some, ↓jzo_0b, ↓jzo_1b, ↓jzo_bb, Option.toList_some, Option.toList_none, List.cons_append, List.nil_append, ↓reduceIte, jzo_0, jzo_1, jzo_b, jbi_t, jbi_f, i_add, ↓i_ltP, ↓i_ltN, ↓i_eqP, ↓i_eqN, i_lt, i_eq, jbi_0, pt_lt, pf_lt, pt_eq, pf_eq, pt_le, pf_le, Nat.reduceEqDiff, eq_self, true_or, or_true, false_or, or_false, true_and, and_true, false_and, and_false, jE_sw, jE_sw0, cond_true]
    · rw [if_neg c2]
      simp (disch := omega) only [e_56_0, e_56_7, e_56_16, e_56_19, e_56_36, e_56_43, e_56_50, e_56_54, e_56_61, e_56_74, e_56_78, e_56_84, e_56_87, e_56_91, e_56_92, ↓fr_s_b, fs_rv, fr_rv, ↓fm', ↓p0', ↓S_value_b hra, ↓S_sort_b hra, c2, ↓Option.bind_some, ↓jzo_0b, ↓jzo_1b, ↓jzo_bb, Option.toList_some, Option.toList_none, List.cons_append, List.nil_append, ↓reduceIte, jzo_0, jzo_1, jzo_b, jbi_t, jbi_f, i_add, ↓i_ltP, ↓i_ltN, ↓i_eqP, ↓i_eqN, i_lt, i_eq, jbi_0, pt_lt, pf_lt, pt_eq, pf_eq, pt_le, pf_le, Nat.reduceEqDiff, eq_self, true_or, or_true, false_or, or_false, true_and, and_true, false_and, and_false, jE_sw, jE_sw0]

theorem D_takeValue_b {G : jx_Gv} {h : jx_H} {r t w a : Nat} (hra : r + 1 < a) {c : jS} {D : jR} {X : jX} (hX : xRoom X) (hc : sOk c) (hs : 1 ≤ D.2.2.1) {β_ : Type} {f_ : jx_R → Option β_} : (jE G (56, 0, [some (.ref r), some (.ref a), none], [], hF h r t w a c (dG G D) X)).bind f_ = f_ ((some (.int (jbi (tVa c D X).1)), hF h r t w a c (dG G (tVa c D X).2.1) (tVa c D X).2.2)) := bnd (D_takeValue hra hX hc hs)