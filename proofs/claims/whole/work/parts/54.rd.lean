/-! THE READER'S STEPS -/
/-- the place of a name among so many, or none -/
def xnf (X : jX) (y : Int64) : Nat → Nat → Option Nat
  | 0, _ => none
  | d + 1, i => if xNa X i = y then some i else xnf X y d (i + 1)
def xnn (X : jX) (y : Int64) : Nat × jX := match xnf X y (xNc X) 0 with
  | some i => (i + 1, X)
  | none => if xNc X < 1000 then (xNc X + 1, xsNc (xsNa X (upL (xNa X) (xNc X) y)) (xNc X + 1)) else (0, X)
theorem E_nn_loop {G : jx_Gv} {h : jx_H} {r t w a : Nat} (hra : r + 1 < a) {c : jS} {d : jR} {X : jX} {y : Int64} (hn : xNc X ≤ 1000) : ∀ (n i : Nat) (z2 : Option Value), i + n = xNc X → jE G (54, 2, [some (.ref a), some (.long y), z2, some (.int (Int32.ofNat i))], [], hF h r t w a c d X) = match xnf X y n i with
    | some j => some (some (.int (Int32.ofNat (j + 1))), hF h r t w a c d X)
    | none => if xNc X < 1000 then some (some (.int (Int32.ofNat (xNc X + 1))), hF h r t w a c d (xsNc (xsNa X (upL (xNa X) (xNc X) y)) (xNc X + 1))) else some (some (.int (Int32.ofNat 0)), hF h r t w a c d X)
  | 0, i, z2, hi => by
    have hd := fun X' => hF_ed (h := h) (t := t) (w := w) (c := c) (d := d) (X := X') hra
    rw [e_54_2, xnf]
    by_cases c1 : xNc X < 1000
    · rw [if_pos c1]
      simp (disch := omega) only [e_54_0, e_54_10, e_54_21, e_54_25, e_54_31, e_54_41, e_54_43, ↓ed_f3_b (hd _), ↓ed_f4_b (hd _), ↓pa_Na_b, ↓px_Nc_b, xs_So_So, xs_So_Va, xs_So_Tc, xs_So_Na, xs_So_Nc, xs_So_Ki, xs_So_Bl, xs_So_St, xs_So_Le, xs_So_Ta, xs_So_Rc, xs_Va_So, xs_Va_Va, xs_Va_Tc, xs_Va_Na, xs_Va_Nc, xs_Va_Ki, xs_Va_Bl, xs_Va_St, xs_Va_Le, xs_Va_Ta, xs_Va_Rc, xs_Tc_So, xs_Tc_Va, xs_Tc_Tc, xs_Tc_Na, xs_Tc_Nc, xs_Tc_Ki, xs_Tc_Bl, xs_Tc_St, xs_Tc_Le, xs_Tc_Ta, xs_Tc_Rc, xs_Na_So, xs_Na_Va, xs_Na_Tc, xs_Na_Na, xs_Na_Nc, xs_Na_Ki, xs_Na_Bl, xs_Na_St, xs_Na_Le, xs_Na_Ta, xs_Na_Rc, xs_Nc_So, xs_Nc_Va, xs_Nc_Tc, xs_Nc_Na, xs_Nc_Nc, xs_Nc_Ki, xs_Nc_Bl, xs_Nc_St, xs_Nc_Le, xs_Nc_Ta, xs_Nc_Rc, xs_Ki_So, xs_Ki_Va, xs_Ki_Tc, xs_Ki_Na, xs_Ki_Nc, xs_Ki_Ki, xs_Ki_Bl, xs_Ki_St, xs_Ki_Le, xs_Ki_Ta, xs_Ki_Rc, xs_Bl_So, xs_Bl_Va, xs_Bl_Tc, xs_Bl_Na, xs_Bl_Nc, xs_Bl_Ki, xs_Bl_Bl, xs_Bl_St, xs_Bl_Le, xs_Bl_Ta, xs_Bl_Rc, xs_St_So, xs_St_Va, xs_St_Tc, xs_St_Na, xs_St_Nc, xs_St_Ki, xs_St_Bl, xs_St_St, xs_St_Le, xs_St_Ta, xs_St_Rc, xs_Le_So, xs_Le_Va, xs_Le_Tc, xs_Le_Na, xs_Le_Nc, xs_Le_Ki, xs_Le_Bl, xs_Le_St, xs_Le_Le, xs_Le_Ta, xs_Le_Rc, xs_Ta_So, xs_Ta_Va, xs_Ta_Tc, xs_Ta_Na, xs_Ta_Nc, xs_Ta_Ki, xs_Ta_Bl, xs_Ta_St, xs_Ta_Le, xs_Ta_Ta, xs_Ta_Rc, xs_Rc_So, xs_Rc_Va, xs_Rc_Tc, xs_Rc_Na, xs_Rc_Nc, xs_Rc_Ki, xs_Rc_Bl, xs_Rc_St, xs_Rc_Le, xs_Rc_Ta, xs_Rc_Rc, ↓Option.bind_some, ↓jzo_0b, ↓jzo_1b, ↓jzo_bb, Option.toList_some, Option.toList_none, List.cons_append, List.nil_append, ↓reduceIte, jzo_0, jzo_1, jzo_b, jbi_t, jbi_f, i_add, ↓i_ltP, ↓i_ltN, ↓i_eqP, ↓i_eqN, i_lt, i_eq, jbi_0, pt_lt, pf_lt, pt_eq, pf_eq, pt_le, pf_le, Nat.reduceEqDiff, eq_self, true_or, or_true, false_or, or_false, true_and, and_true, false_and, and_false, jE_sw, jE_sw0]
    · rw [if_neg c1]
      simp (disch := omega) only [e_54_0, e_54_10, e_54_21, e_54_25, e_54_31, e_54_41, e_54_43, ↓ed_f3_b (hd _), ↓ed_f4_b (hd _), ↓Option.bind_some, ↓jzo_0b, ↓jzo_1b, ↓jzo_bb, Option.toList_some, Option.toList_none, List.cons_append, List.nil_append, ↓reduceIte, jzo_0, jzo_1, jzo_b, jbi_t, jbi_f, i_add, ↓i_ltP, ↓i_ltN, ↓i_eqP, ↓i_eqN, i_lt, i_eq, jbi_0, pt_lt, pf_lt, pt_eq, pf_eq, pt_le, pf_le, Nat.reduceEqDiff, eq_self, true_or, or_true, false_or, or_false, true_and, and_true, false_and, and_false, jE_sw, jE_sw0]
  | n + 1, i, z2, hi => by
    have hd := fun X' => hF_ed (h := h) (t := t) (w := w) (c := c) (d := d) (X := X') hra
    rw [e_54_2, xnf]
    by_cases c1 : xNa X i = y
    · rw [if_pos c1]
      simp (disch := omega) only [e_54_0, e_54_10, e_54_21, e_54_25, e_54_31, e_54_41, e_54_43, ↓ed_f3_b (hd _), ↓ed_f4_b (hd _), ↓ed_a3_b (hd _), j_cmp0, c1, ↓Option.bind_some, ↓jzo_0b, ↓jzo_1b, ↓jzo_bb, Option.toList_some, Option.toList_none, List.cons_append, List.nil_append, ↓reduceIte, jzo_0, jzo_1, jzo_b, jbi_t, jbi_f, i_add, ↓i_ltP, ↓i_ltN, ↓i_eqP, ↓i_eqN, i_lt, i_eq, jbi_0, pt_lt, pf_lt, pt_eq, pf_eq, pt_le, pf_le, Nat.reduceEqDiff, eq_self, true_or, or_true, false_or, or_false, true_and, and_true, false_and, and_false, jE_sw, jE_sw0]
    · rw [if_neg c1]
      have ih := E_nn_loop (G := G) hra (h := h) (t := t) (w := w) (c := c) (d := d) (X := X) (y := y) hn n (i + 1) none (by omega)
      rw [← ih]
      simp (disch := omega) only [e_54_0, e_54_10, e_54_21, e_54_25, e_54_31, e_54_41, e_54_43, ↓ed_f3_b (hd _), ↓ed_f4_b (hd _), ↓ed_a3_b (hd _), j_cmp0, c1, ↓Option.bind_some, ↓jzo_0b, ↓jzo_1b, ↓jzo_bb, Option.toList_some, Option.toList_none, List.cons_append, List.nil_append, ↓reduceIte, jzo_0, jzo_1, jzo_b, jbi_t, jbi_f, i_add, ↓i_ltP, ↓i_ltN, ↓i_eqP, ↓i_eqN, i_lt, i_eq, jbi_0, pt_lt, pf_lt, pt_eq, pf_eq, pt_le, pf_le, Nat.reduceEqDiff, eq_self, true_or, or_true, false_or, or_false, true_and, and_true, false_and, and_false, jE_sw, jE_sw0]
theorem E_nameNumber {G : jx_Gv} {h : jx_H} {r t w a : Nat} (hra : r + 1 < a) {c : jS} {d : jR} {X : jX} {y : Int64} (hn : xNc X ≤ 1000) : jE G (54, 0, [some (.ref a), some (.long y), none, none], [], hF h r t w a c d X) = some (some (.int (Int32.ofNat (xnn X y).1)), hF h r t w a c d (xnn X y).2) := by
  have q := E_nn_loop (G := G) hra (h := h) (t := t) (w := w) (c := c) (d := d) (X := X) (y := y) hn (xNc X) 0 none (by omega)
  simp (disch := omega) only [e_54_0, e_54_10, e_54_21, e_54_25, e_54_31, e_54_41, e_54_43]
  refine q.trans ?_
  unfold xnn
  cases xnf X y (xNc X) 0 with
  | some j => rfl
  | none =>
    by_cases c1 : xNc X < 1000
    · simp only [if_pos c1]
    · simp only [if_neg c1]
theorem E_nameNumber_b {G : jx_Gv} {h : jx_H} {r t w a : Nat} (hra : r + 1 < a) {c : jS} {d : jR} {X : jX} {y : Int64} (hn : xNc X ≤ 1000) {β_ : Type} {f_ : jx_R → Option β_} : (jE G (54, 0, [some (.ref a), some (.long y), none, none], [], hF h r t w a c d X)).bind f_ = f_ ((some (.int (Int32.ofNat (xnn X y).1)), hF h r t w a c d (xnn X y).2)) := bnd (E_nameNumber hra hn)
/-- the reader's state, its form by the string's number -/
def dG (G : jx_Gv) (D : jR) : jR := (D.1, G.1 D.2.1, D.2.2)
theorem D_isRowOver {G : jx_Gv} {h : jx_H} {r t w a : Nat} (hra : r + 1 < a) {c : jS} {D : jR} {X : jX} (hG : jLt G) (hD : D.2.1 < 11) (hs : D.2.2.1 < 2147483648) : jE G (41, 0, [some (.ref r)], [], hF h r t w a c (dG G D) X) = some (some (.int (jbi (decide (jlen.getD D.2.1 0 ≤ D.2.2.1)))), hF h r t w a c (dG G D) X) := by
  have e := hG.1 D.2.1 hD
  have e' := fun {β : Type} {f : Nat → Option β} => bnd (f := f) e
  have hl := jlen_le D.2.1 hD
  by_cases c1 : jlen.getD D.2.1 0 ≤ D.2.2.1
  · rw [decide_eq_true c1]
    simp (disch := omega) only [e_41_0, e_41_11, e_41_14, e_41_18, e_41_19, ↓fr_step_b, ↓fr_form_b, dG, ↓e', ↓L_length_b hG, ↓Option.bind_some, ↓jzo_0b, ↓jzo_1b, ↓jzo_bb, Option.toList_some, Option.toList_none, List.cons_append, List.nil_append, ↓reduceIte, jzo_0, jzo_1, jzo_b, jbi_t, jbi_f, i_add, ↓i_ltP, ↓i_ltN, ↓i_eqP, ↓i_eqN, i_lt, i_eq, jbi_0, pt_lt, pf_lt, pt_eq, pf_eq, pt_le, pf_le, Nat.reduceEqDiff, eq_self, true_or, or_true, false_or, or_false, true_and, and_true, false_and, and_false, jE_sw, jE_sw0]
  · rw [decide_eq_false c1]
    simp (disch := omega) only [e_41_0, e_41_11, e_41_14, e_41_18, e_41_19, ↓fr_step_b, ↓fr_form_b, dG, ↓e', ↓L_length_b hG, ↓Option.bind_some, ↓jzo_0b, ↓jzo_1b, ↓jzo_bb, Option.toList_some, Option.toList_none, List.cons_append, List.nil_append, ↓reduceIte, jzo_0, jzo_1, jzo_b, jbi_t, jbi_f, i_add, ↓i_ltP, ↓i_ltN, ↓i_eqP, ↓i_eqN, i_lt, i_eq, jbi_0, pt_lt, pf_lt, pt_eq, pf_eq, pt_le, pf_le, Nat.reduceEqDiff, eq_self, true_or, or_true, false_or, or_false, true_and, and_true, false_and, and_false, jE_sw, jE_sw0]
theorem D_isRowOver_b {G : jx_Gv} {h : jx_H} {r t w a : Nat} (hra : r + 1 < a) {c : jS} {D : jR} {X : jX} (hG : jLt G) (hD : D.2.1 < 11) (hs : D.2.2.1 < 2147483648) {β_ : Type} {f_ : jx_R → Option β_} : (jE G (41, 0, [some (.ref r)], [], hF h r t w a c (dG G D) X)).bind f_ = f_ ((some (.int (jbi (decide (jlen.getD D.2.1 0 ≤ D.2.2.1)))), hF h r t w a c (dG G D) X)) := bnd (D_isRowOver hra hG hD hs)
theorem D_follow {G : jx_Gv} {h : jx_H} {r t w a : Nat} (hra : r + 1 < a) {c : jS} {D : jR} {X : jX} {i : Nat} : jE G (26, 0, [some (.ref r), some (.ref (G.1 i))], [], hF h r t w a c (dG G D) X) = some (none, hF h r t w a c (dG G (D.1, i, 0, D.2.2.2)) X) := by
  simp (disch := omega) only [e_26_0, ↓pr_form_b, ↓pr_step_b, dG, ↓Option.bind_some, ↓jzo_0b, ↓jzo_1b, ↓jzo_bb, Option.toList_some, Option.toList_none, List.cons_append, List.nil_append, ↓reduceIte, jzo_0, jzo_1, jzo_b, jbi_t, jbi_f, i_add, ↓i_ltP, ↓i_ltN, ↓i_eqP, ↓i_eqN, i_lt, i_eq, jbi_0, pt_lt, pf_lt, pt_eq, pf_eq, pt_le, pf_le, Nat.reduceEqDiff, eq_self, true_or, or_true, false_or, or_false, true_and, and_true, false_and, and_false, jE_sw, jE_sw0]
theorem D_follow_b {G : jx_Gv} {h : jx_H} {r t w a : Nat} (hra : r + 1 < a) {c : jS} {D : jR} {X : jX} {i : Nat} {β_ : Type} {f_ : jx_R → Option β_} : (jE G (26, 0, [some (.ref r), some (.ref (G.1 i))], [], hF h r t w a c (dG G D) X)).bind f_ = f_ ((none, hF h r t w a c (dG G (D.1, i, 0, D.2.2.2)) X)) := bnd (D_follow hra)
/-- a token's sort is small; the row and the tokens have room -/
def xRoom (X : jX) : Prop := 1 ≤ xRc X ∧ xRc X ≤ 120 ∧ xTc X < 2000
def sOk (c : jS) : Prop := c.2.2.1.toInt8.toInt32 = c.2.2.1
theorem D_take {G : jx_Gv} {h : jx_H} {r t w a : Nat} (hra : r + 1 < a) {c : jS} {d : jR} {X : jX} {v : Int32} (hX : xRoom X) (hc : sOk c) : jE G (46, 0, [some (.ref r), some (.ref a), some (.int v)], [], hF h r t w a c d X) = some (some (.int (Int32.ofNat 1)), hF h r t w a c d (xaddTok X c.2.2.1 v)) := by
  obtain ⟨h1, h2, h3⟩ := hX
  have hd := hF_ed (h := h) (t := t) (w := w) (c := c) (d := d) (X := X) hra
  have q := E_addToken (G := G) hra (h := h) (t := t) (w := w) (c := c) (d := d) (X := X) (v := v) h1 h2 h3 hc
  have q' := fun {β : Type} {f : jx_R → Option β} => bnd (f := f) q
  simp (disch := omega) only [e_46_0, e_46_8, e_46_12, ↓fr_s_b, fs_rv, ↓S_sort_b hra, ed_rv hd, ↓q', ↓Option.bind_some, ↓jzo_0b, ↓jzo_1b, ↓jzo_bb, Option.toList_some, Option.toList_none, List.cons_append, List.nil_append, ↓reduceIte, jzo_0, jzo_1, jzo_b, jbi_t, jbi_f, i_add, ↓i_ltP, ↓i_ltN, ↓i_eqP, ↓i_eqN, i_lt, i_eq, jbi_0, pt_lt, pf_lt, pt_eq, pf_eq, pt_le, pf_le, Nat.reduceEqDiff, eq_self, true_or, or_true, false_or, or_false, true_and, and_true, false_and, and_false, jE_sw, jE_sw0]
theorem D_take_b {G : jx_Gv} {h : jx_H} {r t w a : Nat} (hra : r + 1 < a) {c : jS} {d : jR} {X : jX} {v : Int32} (hX : xRoom X) (hc : sOk c) {β_ : Type} {f_ : jx_R → Option β_} : (jE G (46, 0, [some (.ref r), some (.ref a), some (.int v)], [], hF h r t w a c d X)).bind f_ = f_ ((some (.int (Int32.ofNat 1)), hF h r t w a c d (xaddTok X c.2.2.1 v))) := bnd (D_take hra hX hc)
def tAc (c : jS) (D : jR) (X : jX) : Bool × jR × jX := if D.2.2.2.1 < 8 ∧ sWd c (Int32.ofNat 6144) = true then (true, (D.1, 10, 0, D.2.2.2.1 + 1, D.2.2.2.2), xaddTok X c.2.2.1 c.2.2.2.1) else if sSg c (Int32.ofNat 59) = true then (true, D, xaddTok X c.2.2.1 (Int32.ofNat 59)) else (false, D, X)
theorem D_takeAccess {G : jx_Gv} {h : jx_H} {r t w a : Nat} (hra : r + 1 < a) {c : jS} {D : jR} {X : jX} (hX : xRoom X) (hc : sOk c) (ha : D.2.2.2.1 < 2147483648) : jE G (57, 0, [some (.ref r), some (.ref a)], [], hF h r t w a c (dG G D) X) = some (some (.int (jbi (tAc c D X).1)), hF h r t w a c (dG G (tAc c D X).2.1) (tAc c D X).2.2) := by
  have hd := hF_ed (h := h) (t := t) (w := w) (c := c) (d := dG G D) (X := X) hra
  unfold tAc
  have tk := fun D v => D_take (G := G) hra (h := h) (t := t) (w := w) (c := c) (d := dG G D) (X := X) (v := v) hX hc
  have tk' := fun D v {β : Type} {f : jx_R → Option β} => bnd (f := f) (tk D v)
  have fo := fun D i => D_follow (G := G) hra (h := h) (t := t) (w := w) (c := c) (D := D) (X := X) (i := i)
  have fo' := fun D i {β : Type} {f : jx_R → Option β} => bnd (f := f) (fo D i)
  have pa : ∀ n, jx_put (hF h r t w a c (dG G D) X) r 4 4 (.int (Int32.ofNat n)) = some (hF h r t w a c (dG G (D.1, D.2.1, D.2.2.1, n, D.2.2.2.2)) X) := fun n => pr_acc
  have pa' := fun n {β : Type} {f : jx_H → Option β} => bnd (f := f) (pa n)
  have fa : jx_fI (hF h r t w a c (dG G D) X) r 4 4 = some (Int32.ofNat D.2.2.2.1) := fr_acc
  have fa' := fun {β : Type} {f : Int32 → Option β} => bnd (f := f) fa
  by_cases c1 : D.2.2.2.1 < 8
  · cases c2 : sWd c (Int32.ofNat 6144)
    · rw [if_neg (fun q => by cases q.2)]
      cases c3 : sSg c (Int32.ofNat 59)
      · rw [if_neg (by decide)]
        simp (disch := omega) only [e_57_0, e_57_9, e_57_19, e_57_22, e_57_38, e_57_47, e_57_50, e_57_51, e_57_60, e_57_63, e_57_70, e_57_73, e_57_77, e_57_78, ↓fr_s_b, fs_rv, fr_rv, ↓fa', ↓S_isWordOf_b hra, ↓S_isSignOf_b hra, c2, c3, ↓Option.bind_some, ↓jzo_0b, ↓jzo_1b, ↓jzo_bb, Option.toList_some, Option.toList_none, List.cons_append, List.nil_append, ↓reduceIte, jzo_0, jzo_1, jzo_b, jbi_t, jbi_f, i_add, ↓i_ltP, ↓i_ltN, ↓i_eqP, ↓i_eqN, i_lt, i_eq, jbi_0, pt_lt, pf_lt, pt_eq, pf_eq, pt_le, pf_le, Nat.reduceEqDiff, eq_self, true_or, or_true, false_or, or_false, true_and, and_true, false_and, and_false, jE_sw, jE_sw0]
      · rw [if_pos rfl]
        simp (disch := omega) only [e_57_0, e_57_9, e_57_19, e_57_22, e_57_38, e_57_47, e_57_50, e_57_51, e_57_60, e_57_63, e_57_70, e_57_73, e_57_77, e_57_78, ↓fr_s_b, fs_rv, fr_rv, ↓fa', ↓S_isWordOf_b hra, ↓S_isSignOf_b hra, ↓tk', c2, c3, ↓Option.bind_some, ↓jzo_0b, ↓jzo_1b, ↓jzo_bb, Option.toList_some, Option.toList_none, List.cons_append, List.nil_append, ↓reduceIte, jzo_0, jzo_1, jzo_b, jbi_t, jbi_f, i_add, ↓i_ltP, ↓i_ltN, ↓i_eqP, ↓i_eqN, i_lt, i_eq, jbi_0, pt_lt, pf_lt, pt_eq, pf_eq, pt_le, pf_le, Nat.reduceEqDiff, eq_self, true_or, or_true, false_or, or_false, true_and, and_true, false_and, and_false, jE_sw, jE_sw0]
    · rw [if_pos ⟨c1, rfl⟩]
      simp (disch := omega) only [e_57_0, e_57_9, e_57_19, e_57_22, e_57_38, e_57_47, e_57_50, e_57_51, e_57_60, e_57_63, e_57_70, e_57_73, e_57_77, e_57_78, ↓fr_s_b, fs_rv, fr_rv, ↓fa', ↓pa', ↓fo', ↓S_isWordOf_b hra, ↓S_value_b hra, ↓tk', c2, ↓Option.bind_some, ↓jzo_0b, ↓jzo_1b, ↓jzo_bb, Option.toList_some, Option.toList_none, List.cons_append, List.nil_append, ↓reduceIte, jzo_0, jzo_1, jzo_b, jbi_t, jbi_f, i_add, ↓i_ltP, ↓i_ltN, ↓i_eqP, ↓i_eqN, i_lt, i_eq, jbi_0, pt_lt, pf_lt, pt_eq, pf_eq, pt_le, pf_le, Nat.reduceEqDiff, eq_self, true_or, or_true, false_or, or_false, true_and, and_true, false_and, and_false, jE_sw, jE_sw0]
  · rw [if_neg (fun q => c1 q.1)]
    cases c3 : sSg c (Int32.ofNat 59)
    · rw [if_neg (by decide)]
      simp (disch := omega) only [e_57_0, e_57_9, e_57_19, e_57_22, e_57_38, e_57_47, e_57_50, e_57_51, e_57_60, e_57_63, e_57_70, e_57_73, e_57_77, e_57_78, ↓fr_s_b, fs_rv, fr_rv, ↓fa', ↓S_isSignOf_b hra, c3, ↓Option.bind_some, ↓jzo_0b, ↓jzo_1b, ↓jzo_bb, Option.toList_some, Option.toList_none, List.cons_append, List.nil_append, ↓reduceIte, jzo_0, jzo_1, jzo_b, jbi_t, jbi_f, i_add, ↓i_ltP, ↓i_ltN, ↓i_eqP, ↓i_eqN, i_lt, i_eq, jbi_0, pt_lt, pf_lt, pt_eq, pf_eq, pt_le, pf_le, Nat.reduceEqDiff, eq_self, true_or, or_true, false_or, or_false, true_and, and_true, false_and, and_false, jE_sw, jE_sw0]
    · rw [if_pos rfl]
      simp (disch := omega) only [e_57_0, e_57_9, e_57_19, e_57_22, e_57_38, e_57_47, e_57_50, e_57_51, e_57_60, e_57_63, e_57_70, e_57_73, e_57_77, e_57_78, ↓fr_s_b, fs_rv, fr_rv, ↓fa', ↓S_isSignOf_b hra, ↓tk', c3, ↓Option.bind_some, ↓jzo_0b, ↓jzo_1b, ↓jzo_bb, Option.toList_some, Option.toList_none, List.cons_append, List.nil_append, ↓reduceIte, jzo_0, jzo_1, jzo_b, jbi_t, jbi_f, i_add, ↓i_ltP, ↓i_ltN, ↓i_eqP, ↓i_eqN, i_lt, i_eq, jbi_0, pt_lt, pf_lt, pt_eq, pf_eq, pt_le, pf_le, Nat.reduceEqDiff, eq_self, true_or, or_true, false_or, or_false, true_and, and_true, false_and, and_false, jE_sw, jE_sw0]

theorem D_takeAccess_b {G : jx_Gv} {h : jx_H} {r t w a : Nat} (hra : r + 1 < a) {c : jS} {D : jR} {X : jX} (hX : xRoom X) (hc : sOk c) (ha : D.2.2.2.1 < 2147483648) {β_ : Type} {f_ : jx_R → Option β_} : (jE G (57, 0, [some (.ref r), some (.ref a)], [], hF h r t w a c (dG G D) X)).bind f_ = f_ ((some (.int (jbi (tAc c D X).1)), hF h r t w a c (dG G (tAc c D X).2.1) (tAc c D X).2.2)) := bnd (D_takeAccess hra hX hc ha)