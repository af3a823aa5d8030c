/-! THE REFERENCE COMPARES -/
def rIs (A : Nat → Nat → Int32) (ha ea hb eb : Nat → Nat) (e r q : Nat) : Bool := rAl A ha ea r e q && (if hb (r + 1) = 0 then decide (eb (q + 1) = 0) else !decide (eb (q + 1) = 0) && rAl A ha ea (hb (r + 1) - 1) e (eb (q + 1) - 1))
def rAny (P : Nat → Bool) : Nat → Nat → Bool
  | 0, _ => false
  | d + 1, q => P q || rAny P d (q + 1)
theorem N_cm_in {G : jx_Gv} {h : jx_H} {b : Nat} {S : Nat → Int32} {A : Nat → Nat → Int32} {ha ea hb eb : Nat → Nat} {n m r e : Nat} {x1 : Int32} (hH : aOk A 37 0 n ha) (hK : aOk A 40 (121 * e) m ea) (hn : n ≤ 120) (hm : m ≤ 120) (he : e < 8) (hr1 : r < n) (hM : A 38 e = Int32.ofNat m) (hB : ∀ i : Nat, i < n → A 22 i = jm (hb (i + 1)) ∧ hb (i + 1) ≤ i) (hE : ∀ i : Nat, i < m → A 39 (120 * e + i) = jm (eb (i + 1)) ∧ eb (i + 1) ≤ i) {cn : Nat} : ∀ (d q : Nat) (s : Bool) (z7 : Option Value), q + d = m → ∃ z5 z6 z7', jE G (190, 45, [some (.ref b), some (.int x1), some (.int (Int32.ofNat e)), some (.int (Int32.ofNat cn)), some (.int (Int32.ofNat r)), some (.int (jbi s)), some (.int (Int32.ofNat q)), z7], [], hR h b S A) = jE G (190, 30, [some (.ref b), some (.int x1), some (.int (Int32.ofNat e)), some (.int (Int32.ofNat (cn + cond (s || rAny (rIs A ha ea hb eb e r) d q) 0 1))), some (.int (Int32.ofNat (r + 1))), z5, z6, z7'], [], hR h b S A)
  | 0, q, s, z7, hq => by
    refine ⟨some (.int (jbi s)), some (.int (Int32.ofNat q)), z7, ?_⟩
    rw [e_190_45, rAny, Bool.or_false]
    cases s <;> simp (disch := omega) only [e_190_0, e_190_9, e_190_15, e_190_23, e_190_25, e_190_39, e_190_56, e_190_61, e_190_84, e_190_87, e_190_97, e_190_102, e_190_105, e_190_110, e_190_124, e_190_127, e_190_131, e_190_132, e_190_140, e_190_146, e_190_150, e_190_151, e_190_159, ↓ra_eRows_b, ↓rl_eRows_b, hM, cond_true, cond_false, Nat.add_zero, ↓Option.bind_some, ↓jzo_0b, ↓jzo_1b, ↓jzo_bb, Option.toList_some, Option.toList_none, List.cons_append, List.nil_append, ↓reduceIte, jzo_0, jzo_1, jzo_b, jbi_t, jbi_f, i_add, ↓i_ltP, ↓i_ltN, ↓i_eqP, ↓i_eqN, i_lt, i_eq, jbi_0, pt_lt, pf_lt, pt_eq, pf_eq, pt_le, pf_le, Nat.reduceEqDiff, eq_self, true_or, or_true, false_or, or_false, true_and, and_true, false_and, and_false, jE_sw, jE_sw0]
  | d + 1, q, s, z7, hq => by
    cases s
    case true =>
      refine ⟨some (.int (jbi true)), some (.int (Int32.ofNat q)), z7, ?_⟩
      rw [e_190_45, Bool.true_or]
      simp (disch := omega) only [e_190_0, e_190_9, e_190_15, e_190_23, e_190_25, e_190_39, e_190_56, e_190_61, e_190_84, e_190_87, e_190_97, e_190_102, e_190_105, e_190_110, e_190_124, e_190_127, e_190_131, e_190_132, e_190_140, e_190_146, e_190_150, e_190_151, e_190_159, ↓ra_eRows_b, ↓rl_eRows_b, hM, cond_true, Nat.add_zero, ↓Option.bind_some, ↓jzo_0b, ↓jzo_1b, ↓jzo_bb, Option.toList_some, Option.toList_none, List.cons_append, List.nil_append, ↓reduceIte, jzo_0, jzo_1, jzo_b, jbi_t, jbi_f, i_add, ↓i_ltP, ↓i_ltN, ↓i_eqP, ↓i_eqN, i_lt, i_eq, jbi_0, pt_lt, pf_lt, pt_eq, pf_eq, pt_le, pf_le, Nat.reduceEqDiff, eq_self, true_or, or_true, false_or, or_false, true_and, and_true, false_and, and_false, jE_sw, jE_sw0]
    rw [Bool.false_or, rAny]
    have h1 := hB r hr1
    have h2 := hE q (by omega)
    have al := N_isAlike (G := G) (h := h) (b := b) (S := S) hH hK hn hm he hr1 (show q < m by omega)
    have al' := fun {β : Type} {f : jx_R → Option β} => bnd (f := f) al
    have go : ∃ z7', jE G (190, 45, [some (.ref b), some (.int x1), some (.int (Int32.ofNat e)), some (.int (Int32.ofNat cn)), some (.int (Int32.ofNat r)), some (.int (jbi false)), some (.int (Int32.ofNat q)), z7], [], hR h b S A) = jE G (190, 45, [some (.ref b), some (.int x1), some (.int (Int32.ofNat e)), some (.int (Int32.ofNat cn)), some (.int (Int32.ofNat r)), some (.int (jbi (rIs A ha ea hb eb e r q))), some (.int (Int32.ofNat (q + 1))), z7'], [], hR h b S A) := by
      refine ⟨some (.int (jm (eb (q + 1)))), ?_⟩
      rw [e_190_45]
      unfold rIs
      cases c1 : rAl A ha ea r e q
      · rw [Bool.false_and]
        rw [c1] at al'
        simp (disch := omega) only [e_190_0, e_190_9, e_190_15, e_190_23, e_190_25, e_190_39, e_190_56, e_190_61, e_190_84, e_190_87, e_190_97, e_190_102, e_190_105, e_190_110, e_190_124, e_190_127, e_190_131, e_190_132, e_190_140, e_190_146, e_190_150, e_190_151, e_190_159, rr_v, ↓ra_eRows_b, ↓rl_eRows_b, hM, ↓ra_eBlock_b, ↓rl_eBlock_b, i_mul, h2.1, ↓al', ↓Option.bind_some, ↓jzo_0b, ↓jzo_1b, ↓jzo_bb, Option.toList_some, Option.toList_none, List.cons_append, List.nil_append, ↓reduceIte, jzo_0, jzo_1, jzo_b, jbi_t, jbi_f, i_add, ↓i_ltP, ↓i_ltN, ↓i_eqP, ↓i_eqN, i_lt, i_eq, jbi_0, pt_lt, pf_lt, pt_eq, pf_eq, pt_le, pf_le, Nat.reduceEqDiff, eq_self, true_or, or_true, false_or, or_false, true_and, and_true, false_and, and_false, jE_sw, jE_sw0]
      · rw [Bool.true_and]
        rw [c1] at al'
        by_cases c2 : hb (r + 1) = 0
        · rw [if_pos c2]
          by_cases c3 : eb (q + 1) = 0
          · rw [decide_eq_true c3]
            simp (disch := omega) only [e_190_0, e_190_9, e_190_15, e_190_23, e_190_25, e_190_39, e_190_56, e_190_61, e_190_84, e_190_87, e_190_97, e_190_102, e_190_105, e_190_110, e_190_124, e_190_127, e_190_131, e_190_132, e_190_140, e_190_146, e_190_150, e_190_151, e_190_159, rr_v, ↓ra_eRows_b, ↓rl_eRows_b, hM, ↓ra_eBlock_b, ↓rl_eBlock_b, ↓ra_hBlock_b, ↓rl_hBlock_b, i_mul, h1.1, h2.1, ↓al', ↓jm_eqP, ↓jm_eqN, ↓jm_lP, ↓jm_lN, ↓jm_nP, ↓jm_nN, ↓jm_gP, ↓jm_gN, ↓Option.bind_some, ↓jzo_0b, ↓jzo_1b, ↓jzo_bb, Option.toList_some, Option.toList_none, List.cons_append, List.nil_append, ↓reduceIte, jzo_0, jzo_1, jzo_b, jbi_t, jbi_f, i_add, ↓i_ltP, ↓i_ltN, ↓i_eqP, ↓i_eqN, i_lt, i_eq, jbi_0, pt_lt, pf_lt, pt_eq, pf_eq, pt_le, pf_le, Nat.reduceEqDiff, eq_self, true_or, or_true, false_or, or_false, true_and, and_true, false_and, and_false, jE_sw, jE_sw0]
          · rw [decide_eq_false c3]
            simp (disch := omega) only [e_190_0, e_190_9, e_190_15, e_190_23, e_190_25, e_190_39, e_190_56, e_190_61, e_190_84, e_190_87, e_190_97, e_190_102, e_190_105, e_190_110, e_190_124, e_190_127, e_190_131, e_190_132, e_190_140, e_190_146, e_190_150, e_190_151, e_190_159, rr_v, ↓ra_eRows_b, ↓rl_eRows_b, hM, ↓ra_eBlock_b, ↓rl_eBlock_b, ↓ra_hBlock_b, ↓rl_hBlock_b, i_mul, h1.1, h2.1, ↓al', ↓jm_eqP, ↓jm_eqN, ↓jm_lP, ↓jm_lN, ↓jm_nP, ↓jm_nN, ↓jm_gP, ↓jm_gN, ↓Option.bind_some, ↓jzo_0b, ↓jzo_1b, ↓jzo_bb, Option.toList_some, Option.toList_none, List.cons_append, List.nil_append, ↓reduceIte, jzo_0, jzo_1, jzo_b, jbi_t, jbi_f, i_add, ↓i_ltP, ↓i_ltN, ↓i_eqP, ↓i_eqN, i_lt, i_eq, jbi_0, pt_lt, pf_lt, pt_eq, pf_eq, pt_le, pf_le, Nat.reduceEqDiff, eq_self, true_or, or_true, false_or, or_false, true_and, and_true, false_and, and_false, jE_sw, jE_sw0]
        · rw [if_neg c2]
          by_cases c3 : eb (q + 1) = 0
          · rw [decide_eq_true c3, Bool.not_true, Bool.false_and]
            simp (disch := omega) only [e_190_0, e_190_9, e_190_15, e_190_23, e_190_25, e_190_39, e_190_56, e_190_61, e_190_84, e_190_87, e_190_97, e_190_102, e_190_105, e_190_110, e_190_124, e_190_127, e_190_131, e_190_132, e_190_140, e_190_146, e_190_150, e_190_151, e_190_159, rr_v, ↓ra_eRows_b, ↓rl_eRows_b, hM, ↓ra_eBlock_b, ↓rl_eBlock_b, ↓ra_hBlock_b, ↓rl_hBlock_b, i_mul, h1.1, h2.1, ↓al', ↓jm_eqP, ↓jm_eqN, ↓jm_lP, ↓jm_lN, ↓jm_nP, ↓jm_nN, ↓jm_gP, ↓jm_gN, ↓Option.bind_some, ↓jzo_0b, ↓jzo_1b, ↓jzo_bb, Option.toList_some, Option.toList_none, List.cons_append, List.nil_append, ↓reduceIte, jzo_0, jzo_1, jzo_b, jbi_t, jbi_f, i_add, ↓i_ltP, ↓i_ltN, ↓i_eqP, ↓i_eqN, i_lt, i_eq, jbi_0, pt_lt, pf_lt, pt_eq, pf_eq, pt_le, pf_le, Nat.reduceEqDiff, eq_self, true_or, or_true, false_or, or_false, true_and, and_true, false_and, and_false, jE_sw, jE_sw0]
          · rw [decide_eq_false c3, Bool.not_false, Bool.true_and]
            have a2 := N_isAlike (G := G) (h := h) (b := b) (S := S) (r := hb (r + 1) - 1) (q := eb (q + 1) - 1) hH hK hn hm he (by omega) (by omega)
            rw [← jm_ofNat (show 1 ≤ hb (r + 1) by omega), ← jm_ofNat (show 1 ≤ eb (q + 1) by omega)] at a2
            have a2' := fun {β : Type} {f : jx_R → Option β} => bnd (f := f) a2
            cases c4 : rAl A ha ea (hb (r + 1) - 1) e (eb (q + 1) - 1)
            · rw [c4] at a2'
              simp (disch := omega) only [e_190_0, e_190_9, e_190_15, e_190_23, e_190_25, e_190_39, e_190_56, e_190_61, e_190_84, e_190_87, e_190_97, e_190_102, e_190_105, e_190_110, e_190_124, e_190_127, e_190_131, e_190_132, e_190_140, e_190_146, e_190_150, e_190_151, e_190_159, rr_v, ↓ra_eRows_b, ↓rl_eRows_b, hM, ↓ra_eBlock_b, ↓rl_eBlock_b, ↓ra_hBlock_b, ↓rl_hBlock_b, i_mul, h1.1, h2.1, ↓al', ↓a2', ↓jm_eqP, ↓jm_eqN, ↓jm_lP, ↓jm_lN, ↓jm_nP, ↓jm_nN, ↓jm_gP, ↓jm_gN, ↓Option.bind_some, ↓jzo_0b, ↓jzo_1b, ↓jzo_bb, Option.toList_some, Option.toList_none, List.cons_append, List.nil_append, ↓reduceIte, jzo_0, jzo_1, jzo_b, jbi_t, jbi_f, i_add, ↓i_ltP, ↓i_ltN, ↓i_eqP, ↓i_eqN, i_lt, i_eq, jbi_0, pt_lt, pf_lt, pt_eq, pf_eq, pt_le, pf_le, Nat.reduceEqDiff, eq_self, true_or, or_true, false_or, or_false, true_and, and_true, false_and, and_false, jE_sw, jE_sw0]
            · rw [c4] at a2'
              simp (disch := omega) only [e_190_0, e_190_9, e_190_15, e_190_23, e_190_25, e_190_39, e_190_56, e_190_61, e_190_84, e_190_87, e_190_97, e_190_102, e_190_105, e_190_110, e_190_124, e_190_127, e_190_131, e_190_132, e_190_140, e_190_146, e_190_150, e_190_151, e_190_159, rr_v, ↓ra_eRows_b, ↓rl_eRows_b, hM, ↓ra_eBlock_b, ↓rl_eBlock_b, ↓ra_hBlock_b, ↓rl_hBlock_b, i_mul, h1.1, h2.1, ↓al', ↓a2', ↓jm_eqP, ↓jm_eqN, ↓jm_lP, ↓jm_lN, ↓jm_nP, ↓jm_nN, ↓jm_gP, ↓jm_gN, ↓Option.bind_some, ↓jzo_0b, ↓jzo_1b, ↓jzo_bb, Option.toList_some, Option.toList_none, List.cons_append, List.nil_append, ↓reduceIte, jzo_0, jzo_1, jzo_b, jbi_t, jbi_f, i_add, ↓i_ltP, ↓i_ltN, ↓i_eqP, ↓i_eqN, i_lt, i_eq, jbi_0, pt_lt, pf_lt, pt_eq, pf_eq, pt_le, pf_le, Nat.reduceEqDiff, eq_self, true_or, or_true, false_or, or_false, true_and, and_true, false_and, and_false, jE_sw, jE_sw0]
    obtain ⟨z7', g1⟩ := go
    obtain ⟨z5, z6, z7'', ih⟩ := N_cm_in (G := G) (h := h) (b := b) (S := S) (x1 := x1) hH hK hn hm he hr1 hM hB hE (cn := cn) d (q + 1) (rIs A ha ea hb eb e r q) z7' (by omega)
    exact ⟨z5, z6, z7'', g1.trans ih⟩
