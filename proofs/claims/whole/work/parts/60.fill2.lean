/-! A TEXT IS READ TO ITS END OR TO ITS FIRST FAULT -/
theorem D_fill_loop {G : jx_Gv} {h : jx_H} {r t w a : Nat} {f : Nat → Int32} {len : Nat} {ov : Bool} (hT : jTx h t f len ov) (htr : t + 1 < r) (hra : r + 1 < a) (hG : jLt G) {wn : Nat → Int64} (hD : jWd h w wn) (hwr : w + 1 < r) (hO : fOct f len) : ∀ (n k : Nat) (c : jS) (D : jR) (X : jX) (z3 : Option Value), k + n = 2001 → fI len c D X → jE G (60, 29, [some (.ref r), some (.ref a), some (.int (Int32.ofNat k)), z3], [], hF h r t w a c (dG G D) X) = some (some (.int (jbi (fl wn f len n c D X).1)), hF h r t w a (fl wn f len n c D X).2.1 (dG G (fl wn f len n c D X).2.2.1) (fl wn f len n c D X).2.2.2)
  | 0, k, c, D, X, z3, hk, hi => by
    rw [e_60_29, fl]
    simp (disch := omega) only [e_60_0, e_60_4, e_60_11, e_60_27, e_60_36, e_60_43, e_60_50, e_60_55, e_60_62, e_60_66, e_60_69, e_60_73, e_60_74, e_60_75, e_60_79, e_60_82, e_60_87, e_60_90, e_60_95, e_60_100, e_60_102, e_60_108, ↓Option.bind_some, ↓jzo_0b, ↓jzo_1b, ↓jzo_bb, Option.toList_some, Option.toList_none, List.cons_append, List.nil_append, ↓reduceIte, jzo_0, jzo_1, jzo_b, jbi_t, jbi_f, i_add, ↓i_ltP, ↓i_ltN, ↓i_eqP, ↓i_eqN, i_lt, i_eq, jbi_0, pt_lt, pf_lt, pt_eq, pf_eq, pt_le, pf_le, Nat.reduceEqDiff, eq_self, true_or, or_true, false_or, or_false, true_and, and_true, false_and, and_false, jE_sw, jE_sw0]
  | n + 1, k, c, D, X, z3, hk, hi => by
    have hl := hT.2.2
    have hi' := hi
    have a21 := hi.2.1.1
    obtain ⟨a1, a2, a3, a4, a5, a6, a7, a8⟩ := hi
    obtain ⟨b1, b2, b3⟩ := adv_ok (wn := wn) hO a1
    have ad := S_advance (G := G) hT htr hra (d := dG G D) (X := X) hG hD hwr hO a1
    have ad' := fun {β : Type} {f : jx_R → Option β} => bnd (f := f) ad
    have st := fun hs hq => fI_step (wn := wn) (c := c) (D := D) (X := X) hO hl hi' hs hq
    have ro := D_isRowOver (G := G) hra (h := h) (t := t) (w := w) (c := adv wn f len c) (D := D) (X := X) hG a4 (by omega)
    have ro' := fun {β : Type} {f : jx_R → Option β} => bnd (f := f) ro
    have eo : decide (jlen.getD D.2.1 0 ≤ D.2.2.1) = dOv D := rfl
    rw [e_60_29, fl]
    generalize hc1 : adv wn f len c = c1 at *
    by_cases c6 : c1.2.2.1 = Int32.ofNat 6
    · rw [if_pos c6]
      by_cases cb : D.1 = 0
      · rw [decide_eq_true cb, Bool.true_and]
        cases ov : dOv D
        · rw [eo, ov] at ro'
          simp (disch := omega) only [e_60_0, e_60_4, e_60_11, e_60_27, e_60_36, e_60_43, e_60_50, e_60_55, e_60_62, e_60_66, e_60_69, e_60_73, e_60_74, e_60_75, e_60_79, e_60_82, e_60_87, e_60_90, e_60_95, e_60_100, e_60_102, e_60_108, fr_rv, ↓fr_s_b, fs_rv, ↓ad', ↓S_sort_b hra, ↓gr_block_b, ↓ro', c6, ↓Option.bind_some, ↓jzo_0b, ↓jzo_1b, ↓jzo_bb, Option.toList_some, Option.toList_none, List.cons_append, List.nil_append, ↓reduceIte, jzo_0, jzo_1, jzo_b, jbi_t, jbi_f, i_add, ↓i_ltP, ↓i_ltN, ↓i_eqP, ↓i_eqN, i_lt, i_eq, jbi_0, pt_lt, pf_lt, pt_eq, pf_eq, pt_le, pf_le, Nat.reduceEqDiff, eq_self, true_or, or_true, false_or, or_false, true_and, and_true, false_and, and_false, jE_sw, jE_sw0]
        · rw [eo, ov] at ro'
          simp (disch := omega) only [e_60_0, e_60_4, e_60_11, e_60_27, e_60_36, e_60_43, e_60_50, e_60_55, e_60_62, e_60_66, e_60_69, e_60_73, e_60_74, e_60_75, e_60_79, e_60_82, e_60_87, e_60_90, e_60_95, e_60_100, e_60_102, e_60_108, fr_rv, ↓fr_s_b, fs_rv, ↓ad', ↓S_sort_b hra, ↓gr_block_b, ↓ro', c6, ↓Option.bind_some, ↓jzo_0b, ↓jzo_1b, ↓jzo_bb, Option.toList_some, Option.toList_none, List.cons_append, List.nil_append, ↓reduceIte, jzo_0, jzo_1, jzo_b, jbi_t, jbi_f, i_add, ↓i_ltP, ↓i_ltN, ↓i_eqP, ↓i_eqN, i_lt, i_eq, jbi_0, pt_lt, pf_lt, pt_eq, pf_eq, pt_le, pf_le, Nat.reduceEqDiff, eq_self, true_or, or_true, false_or, or_false, true_and, and_true, false_and, and_false, jE_sw, jE_sw0]
      · rw [decide_eq_false cb, Bool.false_and]
        simp (disch := omega) only [e_60_0, e_60_4, e_60_11, e_60_27, e_60_36, e_60_43, e_60_50, e_60_55, e_60_62, e_60_66, e_60_69, e_60_73, e_60_74, e_60_75, e_60_79, e_60_82, e_60_87, e_60_90, e_60_95, e_60_100, e_60_102, e_60_108, fr_rv, ↓fr_s_b, fs_rv, ↓ad', ↓S_sort_b hra, ↓gr_block_b, c6, ↓Option.bind_some, ↓jzo_0b, ↓jzo_1b, ↓jzo_bb, Option.toList_some, Option.toList_none, List.cons_append, List.nil_append, ↓reduceIte, jzo_0, jzo_1, jzo_b, jbi_t, jbi_f, i_add, ↓i_ltP, ↓i_ltN, ↓i_eqP, ↓i_eqN, i_lt, i_eq, jbi_0, pt_lt, pf_lt, pt_eq, pf_eq, pt_le, pf_le, Nat.reduceEqDiff, eq_self, true_or, or_true, false_or, or_false, true_and, and_true, false_and, and_false, jE_sw, jE_sw0]
    · rw [if_neg c6]
      have b4 := b3 c6
      cases ov : dOv D
      · rw [eo, ov] at ro'
        rw [ov, cond_false] at st
        rw [cond_false]
        have hjl := jlen_le D.2.1 a4
        have ts := D_takeStep (G := G) hra (h := h) (t := t) (w := w) (c := c1) (D := D) (X := X) hG a4 (by omega) ⟨a8 ov, a2.1, by omega⟩ a2.2.2.1 b2 (by omega)
        generalize tSt c1 D X = q at *
        obtain ⟨q1, q2, q3⟩ := q
        cases q1
        · rw [if_neg (show ¬ false = true by decide)]
          have ts' := fun {β : Type} {f : jx_R → Option β} => bnd (f := f) ts
          simp (disch := omega) only [e_60_0, e_60_4, e_60_11, e_60_27, e_60_36, e_60_43, e_60_50, e_60_55, e_60_62, e_60_66, e_60_69, e_60_73, e_60_74, e_60_75, e_60_79, e_60_82, e_60_87, e_60_90, e_60_95, e_60_100, e_60_102, e_60_108, fr_rv, ↓fr_s_b, fs_rv, ↓ad', ↓S_sort_b hra, ↓ro', ↓ts', c6, ↓Option.bind_some, ↓jzo_0b, ↓jzo_1b, ↓jzo_bb, Option.toList_some, Option.toList_none, List.cons_append, List.nil_append, ↓reduceIte, jzo_0, jzo_1, jzo_b, jbi_t, jbi_f, i_add, ↓i_ltP, ↓i_ltN, ↓i_eqP, ↓i_eqN, i_lt, i_eq, jbi_0, pt_lt, pf_lt, pt_eq, pf_eq, pt_le, pf_le, Nat.reduceEqDiff, eq_self, true_or, or_true, false_or, or_false, true_and, and_true, false_and, and_false, jE_sw, jE_sw0]
        · rw [if_pos (show true = true from rfl)]
          have ts' := fun {β : Type} {f : jx_R → Option β} => bnd (f := f) ts
          have ih := D_fill_loop (G := G) hT htr hra hG hD hwr hO n (k + 1) c1 q2 q3 (some (.int (Int32.ofNat 1))) (by omega) (st c6 rfl)
          rw [← ih]
          simp (disch := omega) only [e_60_0, e_60_4, e_60_11, e_60_27, e_60_36, e_60_43, e_60_50, e_60_55, e_60_62, e_60_66, e_60_69, e_60_73, e_60_74, e_60_75, e_60_79, e_60_82, e_60_87, e_60_90, e_60_95, e_60_100, e_60_102, e_60_108, fr_rv, ↓fr_s_b, fs_rv, ↓ad', ↓S_sort_b hra, ↓ro', ↓ts', c6, ↓Option.bind_some, ↓jzo_0b, ↓jzo_1b, ↓jzo_bb, Option.toList_some, Option.toList_none, List.cons_append, List.nil_append, ↓reduceIte, jzo_0, jzo_1, jzo_b, jbi_t, jbi_f, i_add, ↓i_ltP, ↓i_ltN, ↓i_eqP, ↓i_eqN, i_lt, i_eq, jbi_0, pt_lt, pf_lt, pt_eq, pf_eq, pt_le, pf_le, Nat.reduceEqDiff, eq_self, true_or, or_true, false_or, or_false, true_and, and_true, false_and, and_false, jE_sw, jE_sw0]
      · rw [eo, ov] at ro'
        rw [ov, cond_true] at st
        rw [cond_true]
        have ts := D_beginRow (G := G) hra (h := h) (t := t) (w := w) (c := c1) (D := D) (X := X) (xI_WF a2) (by omega) b2 (by have := a2.1; omega)
        generalize tBe c1 D X = q at *
        obtain ⟨q1, q2, q3⟩ := q
        cases q1
        · rw [if_neg (show ¬ false = true by decide)]
          have ts' := fun {β : Type} {f : jx_R → Option β} => bnd (f := f) ts
          simp (disch := omega) only [e_60_0, e_60_4, e_60_11, e_60_27, e_60_36, e_60_43, e_60_50, e_60_55, e_60_62, e_60_66, e_60_69, e_60_73, e_60_74, e_60_75, e_60_79, e_60_82, e_60_87, e_60_90, e_60_95, e_60_100, e_60_102, e_60_108, fr_rv, ↓fr_s_b, fs_rv, ↓ad', ↓S_sort_b hra, ↓ro', ↓ts', c6, ↓Option.bind_some, ↓jzo_0b, ↓jzo_1b, ↓jzo_bb, Option.toList_some, Option.toList_none, List.cons_append, List.nil_append, ↓reduceIte, jzo_0, jzo_1, jzo_b, jbi_t, jbi_f, i_add, ↓i_ltP, ↓i_ltN, ↓i_eqP, ↓i_eqN, i_lt, i_eq, jbi_0, pt_lt, pf_lt, pt_eq, pf_eq, pt_le, pf_le, Nat.reduceEqDiff, eq_self, true_or, or_true, false_or, or_false, true_and, and_true, false_and, and_false, jE_sw, jE_sw0]
        · rw [if_pos (show true = true from rfl)]
          have ts' := fun {β : Type} {f : jx_R → Option β} => bnd (f := f) ts
          have ih := D_fill_loop (G := G) hT htr hra hG hD hwr hO n (k + 1) c1 q2 q3 (some (.int (Int32.ofNat 1))) (by omega) (st c6 rfl)
          rw [← ih]
          simp (disch := omega) only [e_60_0, e_60_4, e_60_11, e_60_27, e_60_36, e_60_43, e_60_50, e_60_55, e_60_62, e_60_66, e_60_69, e_60_73, e_60_74, e_60_75, e_60_79, e_60_82, e_60_87, e_60_90, e_60_95, e_60_100, e_60_102, e_60_108, fr_rv, ↓fr_s_b, fs_rv, ↓ad', ↓S_sort_b hra, ↓ro', ↓ts', c6, ↓Option.bind_some, ↓jzo_0b, ↓jzo_1b, ↓jzo_bb, Option.toList_some, Option.toList_none, List.cons_append, List.nil_append, ↓reduceIte, jzo_0, jzo_1, jzo_b, jbi_t, jbi_f, i_add, ↓i_ltP, ↓i_ltN, ↓i_eqP, ↓i_eqN, i_lt, i_eq, jbi_0, pt_lt, pf_lt, pt_eq, pf_eq, pt_le, pf_le, Nat.reduceEqDiff, eq_self, true_or, or_true, false_or, or_false, true_and, and_true, false_and, and_false, jE_sw, jE_sw0]
/-- the state in which a text's reading begins -/
def fl0 (wn : Nat → Int64) (f : Nat → Int32) (len : Nat) (c : jS) (D : jR) (X : jX) : Bool × jS × jR × jX := fl wn f len 2001 (0, 1, c.2.2) (0, 1, 0, D.2.2.2.1, false) (xsRc (xsNc (xsTc X 0) 0) 0)
theorem fI_0 {len : Nat} {c : jS} {D : jR} {X : jX} (ha : D.2.2.2.1 ≤ 8) : fI len (0, 1, c.2.2) (0, 1, 0, D.2.2.2.1, false) (xsRc (xsNc (xsTc X 0) 0) 0) := by
  refine ⟨Nat.zero_le _, ⟨Nat.zero_le _, Nat.zero_le _, Nat.zero_le _, fun r h1 h2 => ?_, fun h => ?_⟩, Nat.zero_le _, (by decide : 1 < 11), Nat.zero_le _, ha, Nat.le_refl 0, fun h => ?_⟩
  · have : r ≤ 0 := h2
    omega
  · have : 1 ≤ 0 := h
    omega
  · cases h
theorem D_fill {G : jx_Gv} {h : jx_H} {r t w a : Nat} {f : Nat → Int32} {len : Nat} {ov : Bool} (hT : jTx h t f len ov) (htr : t + 1 < r) (hra : r + 1 < a) (hG : jLt G) {wn : Nat → Int64} (hD : jWd h w wn) (hwr : w + 1 < r) (hO : fOct f len) {c : jS} {D : jR} {X : jX} (ha : D.2.2.2.1 ≤ 8) : jE G (60, 0, [some (.ref r), some (.ref a), none, none], [], hF h r t w a c (dG G D) X) = some (some (.int (jbi (fl0 wn f len c D X).1)), hF h r t w a (fl0 wn f len c D X).2.1 (dG G (fl0 wn f len c D X).2.2.1) (fl0 wn f len c D X).2.2.2) := by
  have hd := fun D X' => hF_ed (h := h) (t := t) (w := w) (c := c) (d := dG G D) (X := X') hra
  refine Eq.trans ?_ (D_fill_loop hT htr hra hG hD hwr hO 2001 0 (0, 1, c.2.2) (0, 1, 0, D.2.2.2.1, false) (xsRc (xsNc (xsTc X 0) 0) 0) none (by omega) (fI_0 ha))
  simp (disch := omega) only [e_60_0, e_60_4, e_60_11, e_60_27, e_60_36, e_60_43, e_60_50, e_60_55, e_60_62, e_60_66, e_60_69, e_60_73, e_60_74, e_60_75, e_60_79, e_60_82, e_60_87, e_60_90, e_60_95, e_60_100, e_60_102, e_60_108, ed_rv (hd _ _), ↓E_clear_b hra, ↓fr_s_b, fs_rv, fr_rv, ↓S_restart_b hra, ↓gp_block_b, ↓gp_minus0_b, ↓D_follow_b hra, ↓Option.bind_some, ↓jzo_0b, ↓jzo_1b, ↓jzo_bb, Option.toList_some, Option.toList_none, List.cons_append, List.nil_append, ↓reduceIte, jzo_0, jzo_1, jzo_b, jbi_t, jbi_f, i_add, ↓i_ltP, ↓i_ltN, ↓i_eqP, ↓i_eqN, i_lt, i_eq, jbi_0, pt_lt, pf_lt, pt_eq, pf_eq, pt_le, pf_le, Nat.reduceEqDiff, eq_self, true_or, or_true, false_or, or_false, true_and, and_true, false_and, and_false, jE_sw, jE_sw0]

theorem D_fill_b {G : jx_Gv} {h : jx_H} {r t w a : Nat} {f : Nat → Int32} {len : Nat} {ov : Bool} (hT : jTx h t f len ov) (htr : t + 1 < r) (hra : r + 1 < a) (hG : jLt G) {wn : Nat → Int64} (hD : jWd h w wn) (hwr : w + 1 < r) (hO : fOct f len) {c : jS} {D : jR} {X : jX} (ha : D.2.2.2.1 ≤ 8) {β_ : Type} {f_ : jx_R → Option β_} : (jE G (60, 0, [some (.ref r), some (.ref a), none, none], [], hF h r t w a c (dG G D) X)).bind f_ = f_ ((some (.int (jbi (fl0 wn f len c D X).1)), hF h r t w a (fl0 wn f len c D X).2.1 (dG G (fl0 wn f len c D X).2.2.1) (fl0 wn f len c D X).2.2.2)) := bnd (D_fill hT htr hra hG hD hwr hO ha)