/-! WHAT NAMES MEAN IS LOOKED UP -/
def xas (k : Int32) : Bool := decide (k = Int32.ofNat 2) || (decide (k = Int32.ofNat 8) || (decide (k = Int32.ofNat 128) || (!decide (k &&& Int32.ofNat 96 = Int32.ofNat 0) || decide (k = Int32.ofNat 65536))))
def xrl (X : jX) : Nat → Nat → (Nat → Nat) → Nat → Nat
  | 0, _, V => V
  | d + 1, j, V => xrl X d (j + 1) (cond (xas (xKi X (j + 1))) (upN V (j + 1) (xres X (j + 1))) V)
theorem xmeant_rc {X : jX} {m b n : Int32} : xmeant X m b n ≤ xRc X := by
  have h2 := jfst_le (fun r => xfit X m b r && decide (xval X r 1 = n)) (xRc X) 0
  unfold xmeant
  omega
theorem xres_le {X : jX} {r : Nat} : xres X r ≤ xRc X := by
  unfold xres
  repeat' split
  all_goals first
    | exact xmeant_rc
    | exact Nat.zero_le _
def vOk (X : jX) (V : Nat → Nat) : Prop := ∀ r : Nat, 1 ≤ r → r ≤ xRc X → V r ≤ xRc X
theorem vOk_up {X : jX} {V : Nat → Nat} {k : Nat} (h : vOk X V) : vOk X (upN V k (xres X k)) := by
  intro r h1 h2
  unfold upN
  split
  · exact xres_le
  · exact h r h1 h2
theorem xsTa_WF {X : jX} {V : Nat → Nat} (hW : xWF X) (h : vOk X V) : xWF (xsTa X V) := ⟨hW.1, hW.2.1, hW.2.2.1, fun r h1 h2 => ⟨(hW.2.2.2 r h1 h2).1, (hW.2.2.2 r h1 h2).2.1, h r h1 h2⟩⟩
theorem xmeant_Ta {X : jX} {V : Nat → Nat} {m b n : Int32} : xmeant (xsTa X V) m b n = xmeant X m b n := rfl
theorem xval_Ta {X : jX} {V : Nat → Nat} {r k : Nat} : xval (xsTa X V) r k = xval X r k := rfl
theorem upN_Ta {X : jX} {V W : Nat → Nat} : xsTa (xsTa X V) W = xsTa X W := rfl
theorem E_res_loop {G : jx_Gv} {h : jx_H} {r t w a : Nat} (hra : r + 1 < a) {c : jS} {d : jR} {X : jX} (hW : xWF X) : ∀ (n j : Nat) (V : Nat → Nat) (z2 : Option Value), j + n = xRc X → vOk X V → jE G (67, 2, [some (.ref a), some (.int (Int32.ofNat (j + 1))), z2], [], hF h r t w a c d (xsTa X V)) = some (none, hF h r t w a c d (xsTa X (xrl X n j V)))
  | 0, j, V, z2, hj, hV => by
    have h1 := hW.1
    have hd := hF_ed (h := h) (t := t) (w := w) (c := c) (d := d) (X := xsTa X V) hra
    rw [e_67_2, xrl]
    simp (disch := omega) only [e_67_0, e_67_10, e_67_22, e_67_37, e_67_40, e_67_44, e_67_50, e_67_57, e_67_71, e_67_74, e_67_78, e_67_85, e_67_99, e_67_102, e_67_106, e_67_112, e_67_128, e_67_131, e_67_132, e_67_138, ↓ed_f10_b hd, xs_Ta_Rc, ↓Option.bind_some, ↓jzo_0b, ↓jzo_1b, ↓jzo_bb, Option.toList_some, Option.toList_none, List.cons_append, List.nil_append, ↓reduceIte, jzo_0, jzo_1, jzo_b, jbi_t, jbi_f, i_add, ↓i_ltP, ↓i_ltN, ↓i_eqP, ↓i_eqN, i_lt, i_eq, jbi_0, pt_lt, pf_lt, pt_eq, pf_eq, pt_le, pf_le, Nat.reduceEqDiff, eq_self, true_or, or_true, false_or, or_false, true_and, and_true, false_and, and_false, jE_sw, jE_sw0]
  | n + 1, j, V, z2, hj, hV => by
    have h1 := hW.1
    have hd := hF_ed (h := h) (t := t) (w := w) (c := c) (d := d) (X := xsTa X V) hra
    have hW' := xsTa_WF hW hV
    have ih := fun V z2 => E_res_loop (G := G) hra (h := h) (t := t) (w := w) (c := c) (d := d) (X := X) hW n (j + 1) V z2 (by omega)
    rw [e_67_2, xrl]
    by_cases c1 : xKi X (j + 1) = Int32.ofNat 2
    · have er : xres X (j + 1) = xmeant X (Int32.ofNat 1) (Int32.ofNat 0) (xval X (j + 1) 6) := if_pos c1
      have ea : xas (xKi X (j + 1)) = true := by unfold xas; rw [decide_eq_true c1]; rfl
      rw [ea, cond_true, ← ih _ (some (.int (Int32.ofNat 2))) (vOk_up hV), er]
      simp (disch := omega) only [e_67_0, e_67_10, e_67_22, e_67_37, e_67_40, e_67_44, e_67_50, e_67_57, e_67_71, e_67_74, e_67_78, e_67_85, e_67_99, e_67_102, e_67_106, e_67_112, e_67_128, e_67_131, e_67_132, e_67_138, ed_rv hd, ↓ed_f10_b hd, ↓ed_f5_b hd, ↓ed_f9_b hd, ↓ed_a4_b hd, ↓E_value_b hd hW', ↓E_meant_b hd hW', ↓pa_Ta_b, xs_Ta_Rc, xs_Ta_Ki, xs_Ta_Ta, xmeant_Ta, xval_Ta, upN_Ta, c1, ↓Option.bind_some, ↓jzo_0b, ↓jzo_1b, ↓jzo_bb, Option.toList_some, Option.toList_none, List.cons_append, List.nil_append, ↓reduceIte, jzo_0, jzo_1, jzo_b, jbi_t, jbi_f, i_add, ↓i_ltP, ↓i_ltN, ↓i_eqP, ↓i_eqN, i_lt, i_eq, jbi_0, pt_lt, pf_lt, pt_eq, pf_eq, pt_le, pf_le, Nat.reduceEqDiff, eq_self, true_or, or_true, false_or, or_false, true_and, and_true, false_and, and_false, jE_sw, jE_sw0]
    by_cases c2 : xKi X (j + 1) = Int32.ofNat 8
    · have er : xres X (j + 1) = xmeant X (Int32.ofNat 2) (Int32.ofNat 0) (xval X (j + 1) 3) := by unfold xres; rw [if_neg c1, if_pos (Or.inl c2)]
      have ea : xas (xKi X (j + 1)) = true := by unfold xas; rw [c2]; decide
      rw [ea, cond_true, ← ih _ (some (.int (Int32.ofNat 8))) (vOk_up hV), er]
      simp (disch := omega) only [e_67_0, e_67_10, e_67_22, e_67_37, e_67_40, e_67_44, e_67_50, e_67_57, e_67_71, e_67_74, e_67_78, e_67_85, e_67_99, e_67_102, e_67_106, e_67_112, e_67_128, e_67_131, e_67_132, e_67_138, ed_rv hd, ↓ed_f10_b hd, ↓ed_f5_b hd, ↓ed_f9_b hd, ↓ed_a4_b hd, ↓E_value_b hd hW', ↓E_meant_b hd hW', ↓pa_Ta_b, xs_Ta_Rc, xs_Ta_Ki, xs_Ta_Ta, xmeant_Ta, xval_Ta, upN_Ta, c2, ↓Option.bind_some, ↓jzo_0b, ↓jzo_1b, ↓jzo_bb, Option.toList_some, Option.toList_none, List.cons_append, List.nil_append, ↓reduceIte, jzo_0, jzo_1, jzo_b, jbi_t, jbi_f, i_add, ↓i_ltP, ↓i_ltN, ↓i_eqP, ↓i_eqN, i_lt, i_eq, jbi_0, pt_lt, pf_lt, pt_eq, pf_eq, pt_le, pf_le, Nat.reduceEqDiff, eq_self, true_or, or_true, false_or, or_false, true_and, and_true, false_and, and_false, jE_sw, jE_sw0]
    by_cases c3 : xKi X (j + 1) = Int32.ofNat 128
    · have er : xres X (j + 1) = xmeant X (Int32.ofNat 2) (Int32.ofNat 0) (xval X (j + 1) 3) := by unfold xres; rw [if_neg c1, if_pos (Or.inr c3)]
      have ea : xas (xKi X (j + 1)) = true := by unfold xas; rw [c3]; decide
      rw [ea, cond_true, ← ih _ (some (.int (Int32.ofNat 128))) (vOk_up hV), er]
      simp (disch := omega) only [e_67_0, e_67_10, e_67_22, e_67_37, e_67_40, e_67_44, e_67_50, e_67_57, e_67_71, e_67_74, e_67_78, e_67_85, e_67_99, e_67_102, e_67_106, e_67_112, e_67_128, e_67_131, e_67_132, e_67_138, ed_rv hd, ↓ed_f10_b hd, ↓ed_f5_b hd, ↓ed_f9_b hd, ↓ed_a4_b hd, ↓E_value_b hd hW', ↓E_meant_b hd hW', ↓pa_Ta_b, xs_Ta_Rc, xs_Ta_Ki, xs_Ta_Ta, xmeant_Ta, xval_Ta, upN_Ta, c3, ↓Option.bind_some, ↓jzo_0b, ↓jzo_1b, ↓jzo_bb, Option.toList_some, Option.toList_none, List.cons_append, List.nil_append, ↓reduceIte, jzo_0, jzo_1, jzo_b, jbi_t, jbi_f, i_add, ↓i_ltP, ↓i_ltN, ↓i_eqP, ↓i_eqN, i_lt, i_eq, jbi_0, pt_lt, pf_lt, pt_eq, pf_eq, pt_le, pf_le, Nat.reduceEqDiff, eq_self, true_or, or_true, false_or, or_false, true_and, and_true, false_and, and_false, jE_sw, jE_sw0]
    by_cases c4 : xKi X (j + 1) &&& Int32.ofNat 96 = Int32.ofNat 0
    · by_cases c5 : xKi X (j + 1) = Int32.ofNat 65536
      · have er : xres X (j + 1) = xmeant X (Int32.ofNat 8208) (Int32.ofNat 0) (xval X (j + 1) 3) := by unfold xres; rw [if_neg c1, if_neg (fun q => q.elim c2 c3), if_pos c4, if_pos c5]
        have ea : xas (xKi X (j + 1)) = true := by unfold xas; rw [c5]; decide
        have k5 : (Int32.ofNat 65536 &&& Int32.ofNat 96 = Int32.ofNat 0) = True := eq_true (by decide)
        rw [ea, cond_true, ← ih _ (some (.int (Int32.ofNat 65536))) (vOk_up hV), er]
        simp (disch := omega) only [e_67_0, e_67_10, e_67_22, e_67_37, e_67_40, e_67_44, e_67_50, e_67_57, e_67_71, e_67_74, e_67_78, e_67_85, e_67_99, e_67_102, e_67_106, e_67_112, e_67_128, e_67_131, e_67_132, e_67_138, ed_rv hd, ↓ed_f10_b hd, ↓ed_f5_b hd, ↓ed_f9_b hd, ↓ed_a4_b hd, ↓E_value_b hd hW', ↓E_meant_b hd hW', ↓pa_Ta_b, xs_Ta_Rc, xs_Ta_Ki, xs_Ta_Ta, xmeant_Ta, xval_Ta, upN_Ta, k5, c5, ↓Option.bind_some, ↓jzo_0b, ↓jzo_1b, ↓jzo_bb, Option.toList_some, Option.toList_none, List.cons_append, List.nil_append, ↓reduceIte, jzo_0, jzo_1, jzo_b, jbi_t, jbi_f, i_add, ↓i_ltP, ↓i_ltN, ↓i_eqP, ↓i_eqN, i_lt, i_eq, jbi_0, pt_lt, pf_lt, pt_eq, pf_eq, pt_le, pf_le, Nat.reduceEqDiff, eq_self, true_or, or_true, false_or, or_false, true_and, and_true, false_and, and_false, jE_sw, jE_sw0]
      · have ea : xas (xKi X (j + 1)) = false := by unfold xas; rw [decide_eq_false c1, decide_eq_false c2, decide_eq_false c3, decide_eq_true c4, decide_eq_false c5]; rfl
        rw [ea, cond_false, ← ih _ (some (.int (xKi X (j + 1)))) hV]
        simp (disch := omega) only [e_67_0, e_67_10, e_67_22, e_67_37, e_67_40, e_67_44, e_67_50, e_67_57, e_67_71, e_67_74, e_67_78, e_67_85, e_67_99, e_67_102, e_67_106, e_67_112, e_67_128, e_67_131, e_67_132, e_67_138, ed_rv hd, ↓ed_f10_b hd, ↓ed_f5_b hd, ↓ed_a4_b hd, xs_Ta_Rc, xs_Ta_Ki, c1, c2, c3, c4, c5, ↓Option.bind_some, ↓jzo_0b, ↓jzo_1b, ↓jzo_bb, Option.toList_some, Option.toList_none, List.cons_append, List.nil_append, ↓reduceIte, jzo_0, jzo_1, jzo_b, jbi_t, jbi_f, i_add, ↓i_ltP, ↓i_ltN, ↓i_eqP, ↓i_eqN, i_lt, i_eq, jbi_0, pt_lt, pf_lt, pt_eq, pf_eq, pt_le, pf_le, Nat.reduceEqDiff, eq_self, true_or, or_true, false_or, or_false, true_and, and_true, false_and, and_false, jE_sw, jE_sw0]
    · have er : xres X (j + 1) = xmeant X (Int32.ofNat 4) (Int32.ofNat 0) (xval X (j + 1) 3) := by unfold xres; rw [if_neg c1, if_neg (fun q => q.elim c2 c3), if_neg c4]
      have ea : xas (xKi X (j + 1)) = true := by unfold xas; rw [decide_eq_false c1, decide_eq_false c2, decide_eq_false c3, decide_eq_false c4]; rfl
      rw [ea, cond_true, ← ih _ (some (.int (xKi X (j + 1)))) (vOk_up hV), er]
      simp (disch := omega) only [e_67_0, e_67_10, e_67_22, e_67_37, e_67_40, e_67_44, e_67_50, e_67_57, e_67_71, e_67_74, e_67_78, e_67_85, e_67_99, e_67_102, e_67_106, e_67_112, e_67_128, e_67_131, e_67_132, e_67_138, ed_rv hd, ↓ed_f10_b hd, ↓ed_f5_b hd, ↓ed_f9_b hd, ↓ed_a4_b hd, ↓E_value_b hd hW', ↓E_meant_b hd hW', ↓pa_Ta_b, xs_Ta_Rc, xs_Ta_Ki, xs_Ta_Ta, xmeant_Ta, xval_Ta, upN_Ta, c1, c2, c3, c4, ↓Option.bind_some, ↓jzo_0b, ↓jzo_1b, ↓jzo_bb, Option.toList_some, Option.toList_none, List.cons_append, List.nil_append, ↓reduceIte, jzo_0, jzo_1, jzo_b, jbi_t, jbi_f, i_add, ↓i_ltP, ↓i_ltN, ↓i_eqP, ↓i_eqN, i_lt, i_eq, jbi_0, pt_lt, pf_lt, pt_eq, pf_eq, pt_le, pf_le, Nat.reduceEqDiff, eq_self, true_or, or_true, false_or, or_false, true_and, and_true, false_and, and_false, jE_sw, jE_sw0]
def xResolve (X : jX) : jX := xsTa X (xrl X (xRc X) 0 (xTa X))
theorem E_resolve {G : jx_Gv} {h : jx_H} {r t w a : Nat} (hra : r + 1 < a) {c : jS} {d : jR} {X : jX} (hW : xWF X) : jE G (67, 0, [some (.ref a), none, none], [], hF h r t w a c d X) = some (none, hF h r t w a c d (xResolve X)) := by
  have q := E_res_loop (G := G) hra (h := h) (t := t) (w := w) (c := c) (d := d) (X := X) hW (xRc X) 0 (xTa X) none (by omega) (fun r h1 h2 => (hW.2.2.2 r h1 h2).2.2)
  rw [show xsTa X (xTa X) = X from rfl] at q
  simp (disch := omega) only [e_67_0, e_67_10, e_67_22, e_67_37, e_67_40, e_67_44, e_67_50, e_67_57, e_67_71, e_67_74, e_67_78, e_67_85, e_67_99, e_67_102, e_67_106, e_67_112, e_67_128, e_67_131, e_67_132, e_67_138]
  exact q
theorem E_resolve_b {G : jx_Gv} {h : jx_H} {r t w a : Nat} (hra : r + 1 < a) {c : jS} {d : jR} {X : jX} (hW : xWF X) {β_ : Type} {f_ : jx_R → Option β_} : (jE G (67, 0, [some (.ref a), none, none], [], hF h r t w a c d X)).bind f_ = f_ ((none, hF h r t w a c d (xResolve X))) := bnd (E_resolve hra hW)
theorem xrl_at {X : jX} : ∀ (n j : Nat) (V : Nat → Nat) (r : Nat), (r ≤ j ∨ j + n < r → xrl X n j V r = V r) ∧ (j < r → r ≤ j + n → xrl X n j V r = cond (xas (xKi X r)) (xres X r) (V r))
  | 0, j, V, r => ⟨fun _ => rfl, fun h1 h2 => by omega⟩
  | n + 1, j, V, r => by
    have ih := xrl_at (X := X) n (j + 1) (cond (xas (xKi X (j + 1))) (upN V (j + 1) (xres X (j + 1))) V) r
    unfold xrl
    refine ⟨fun h => ?_, fun h1 h2 => ?_⟩
    · rw [ih.1 (by omega)]
      cases xas (xKi X (j + 1))
      · rfl
      · exact upN_of (by omega)
    · by_cases e : r = j + 1
      · rw [ih.1 (by omega), e]
        cases xas (xKi X (j + 1))
        · rfl
        · exact upN_at
      · rw [ih.2 (by omega) (by omega)]
        cases xas (xKi X (j + 1))
        · rfl
        · rw [show (cond true (upN V (j + 1) (xres X (j + 1))) V) r = V r from upN_of e]
/-- once looked up, each row means what it means -/
theorem xRes_of {X : jX} (h0 : ∀ r : Nat, 1 ≤ r → r ≤ xRc X → xTa X r = 0) : xRes (xResolve X) := by
  intro r h1 h2
  have h2' : r ≤ xRc X := h2
  show xrl X (xRc X) 0 (xTa X) r = xres X r
  rw [(xrl_at (xRc X) 0 (xTa X) r).2 (by omega) (by omega)]
  cases e : xas (xKi X r)
  · rw [cond_false, h0 r h1 h2']
    unfold xas at e
    rw [Bool.or_eq_false_iff, Bool.or_eq_false_iff, Bool.or_eq_false_iff, Bool.or_eq_false_iff] at e
    obtain ⟨e1, e2, e3, e4, e5⟩ := e
    have e4' : xKi X r &&& Int32.ofNat 96 = Int32.ofNat 0 := by
      apply Classical.byContradiction
      intro q
      rw [decide_eq_false q] at e4
      cases e4
    unfold xres
    rw [if_neg (of_decide_eq_false e1), if_neg (fun q => q.elim (of_decide_eq_false e2) (of_decide_eq_false e3)), if_pos e4', if_neg (of_decide_eq_false e5)]
  · rfl
