/-! THE REFERENCE HOLDS A ROW AGAINST A KEPT ONE -/
/-- rows' places: of the hand; of a kept edition -/
def aOk (A : Nat → Nat → Int32) (o base n : Nat) (at' : Nat → Nat) : Prop := (∀ i : Nat, i ≤ n → A o (base + i) = Int32.ofNat (at' i) ∧ at' i ≤ 6000) ∧ ∀ i : Nat, i < n → at' i ≤ at' (i + 1)
def rAl (A : Nat → Nat → Int32) (ha ea : Nat → Nat) (r e q : Nat) : Bool := decide (ea (q + 1) - ea q = ha (r + 1) - ha r) && jall (fun k => decide (A 36 (ha r + k) = A 41 (6000 * e + ea q + k))) (ha (r + 1) - ha r) 0
theorem N_al_loop {G : jx_Gv} {h : jx_H} {b : Nat} {S : Nat → Int32} {A : Nat → Nat → Int32} {ha ea : Nat → Nat} {n m r e q : Nat} (hH : aOk A 37 0 n ha) (hK : aOk A 40 (121 * e) m ea) (hn : n ≤ 120) (hm : m ≤ 120) (he : e < 8) (hr1 : r < n) (hq1 : q < m) (hd1 : ea (q + 1) - ea q = ha (r + 1) - ha r) : ∀ (d k : Nat) (s : Bool), k + d = ha (r + 1) - ha r → jE G (189, 57, [some (.ref b), some (.int (Int32.ofNat r)), some (.int (Int32.ofNat e)), some (.int (Int32.ofNat q)), some (.int (Int32.ofNat (ha (r + 1) - ha r))), some (.int (jbi s)), some (.int (Int32.ofNat k))], [], hR h b S A) = some (some (.int (jbi (s && jall (fun k => decide (A 36 (ha r + k) = A 41 (6000 * e + ea q + k))) d k))), hR h b S A)
  | 0, k, s, hk => by
    have a1 := hH.1 (r + 1) (by omega)
    rw [e_189_57, jall, Bool.and_true]
    simp (disch := omega) only [e_189_0, e_189_34, e_189_47, e_189_51, e_189_52, e_189_64, e_189_69, e_189_106, e_189_111, e_189_115, e_189_116, e_189_124, ↓Option.bind_some, ↓jzo_0b, ↓jzo_1b, ↓jzo_bb, Option.toList_some, Option.toList_none, List.cons_append, List.nil_append, ↓reduceIte, jzo_0, jzo_1, jzo_b, jbi_t, jbi_f, i_add, ↓i_ltP, ↓i_ltN, ↓i_eqP, ↓i_eqN, i_lt, i_eq, jbi_0, pt_lt, pf_lt, pt_eq, pf_eq, pt_le, pf_le, Nat.reduceEqDiff, eq_self, true_or, or_true, false_or, or_false, true_and, and_true, false_and, and_false, jE_sw, jE_sw0]
  | d + 1, k, s, hk => by
    have a0 := hH.1 r (by omega)
    have a1 := hH.1 (r + 1) (by omega)
    have am := hH.2 r hr1
    have b0 := hK.1 q (by omega)
    have b1 := hK.1 (q + 1) (by omega)
    have bm := hK.2 q hq1
    rw [Nat.zero_add] at a0
    rw [e_189_57, jall]
    cases s
    · rw [Bool.false_and]
      simp (disch := omega) only [e_189_0, e_189_34, e_189_47, e_189_51, e_189_52, e_189_64, e_189_69, e_189_106, e_189_111, e_189_115, e_189_116, e_189_124, ↓Option.bind_some, ↓jzo_0b, ↓jzo_1b, ↓jzo_bb, Option.toList_some, Option.toList_none, List.cons_append, List.nil_append, ↓reduceIte, jzo_0, jzo_1, jzo_b, jbi_t, jbi_f, i_add, ↓i_ltP, ↓i_ltN, ↓i_eqP, ↓i_eqN, i_lt, i_eq, jbi_0, pt_lt, pf_lt, pt_eq, pf_eq, pt_le, pf_le, Nat.reduceEqDiff, eq_self, true_or, or_true, false_or, or_false, true_and, and_true, false_and, and_false, jE_sw, jE_sw0]
    · rw [Bool.true_and]
      by_cases c : A 36 (ha r + k) = A 41 (6000 * e + ea q + k)
      · have ih := N_al_loop (G := G) (h := h) (b := b) (S := S) hH hK hn hm he hr1 hq1 hd1 d (k + 1) true (by omega)
        rw [decide_eq_true c, Bool.true_and]
        rw [Bool.true_and] at ih
        refine Eq.trans ?_ ih
        simp (disch := omega) only [e_189_0, e_189_34, e_189_47, e_189_51, e_189_52, e_189_64, e_189_69, e_189_106, e_189_111, e_189_115, e_189_116, e_189_124, ↓ra_hText_b, ↓ra_hAt_b, ↓rl_hAt_b, ↓rl_hText_b, ↓ra_eText_b, ↓ra_eAt_b, ↓rl_eAt_b, ↓rl_eText_b, a0.1, b0.1, i_mul, c, ↓Option.bind_some, ↓jzo_0b, ↓jzo_1b, ↓jzo_bb, Option.toList_some, Option.toList_none, List.cons_append, List.nil_append, ↓reduceIte, jzo_0, jzo_1, jzo_b, jbi_t, jbi_f, i_add, ↓i_ltP, ↓i_ltN, ↓i_eqP, ↓i_eqN, i_lt, i_eq, jbi_0, pt_lt, pf_lt, pt_eq, pf_eq, pt_le, pf_le, Nat.reduceEqDiff, eq_self, true_or, or_true, false_or, or_false, true_and, and_true, false_and, and_false, jE_sw, jE_sw0]
      · have ih := N_al_loop (G := G) (h := h) (b := b) (S := S) hH hK hn hm he hr1 hq1 hd1 d (k + 1) false (by omega)
        rw [decide_eq_false c, Bool.false_and]
        rw [Bool.false_and] at ih
        refine Eq.trans ?_ ih
        simp (disch := omega) only [e_189_0, e_189_34, e_189_47, e_189_51, e_189_52, e_189_64, e_189_69, e_189_106, e_189_111, e_189_115, e_189_116, e_189_124, ↓ra_hText_b, ↓ra_hAt_b, ↓rl_hAt_b, ↓rl_hText_b, ↓ra_eText_b, ↓ra_eAt_b, ↓rl_eAt_b, ↓rl_eText_b, a0.1, b0.1, i_mul, c, ↓Option.bind_some, ↓jzo_0b, ↓jzo_1b, ↓jzo_bb, Option.toList_some, Option.toList_none, List.cons_append, List.nil_append, ↓reduceIte, jzo_0, jzo_1, jzo_b, jbi_t, jbi_f, i_add, ↓i_ltP, ↓i_ltN, ↓i_eqP, ↓i_eqN, i_lt, i_eq, jbi_0, pt_lt, pf_lt, pt_eq, pf_eq, pt_le, pf_le, Nat.reduceEqDiff, eq_self, true_or, or_true, false_or, or_false, true_and, and_true, false_and, and_false, jE_sw, jE_sw0]
theorem N_isAlike {G : jx_Gv} {h : jx_H} {b : Nat} {S : Nat → Int32} {A : Nat → Nat → Int32} {ha ea : Nat → Nat} {n m r e q : Nat} (hH : aOk A 37 0 n ha) (hK : aOk A 40 (121 * e) m ea) (hn : n ≤ 120) (hm : m ≤ 120) (he : e < 8) (hr1 : r < n) (hq1 : q < m) : jE G (189, 0, [some (.ref b), some (.int (Int32.ofNat r)), some (.int (Int32.ofNat e)), some (.int (Int32.ofNat q)), none, none, none], [], hR h b S A) = some (some (.int (jbi (rAl A ha ea r e q))), hR h b S A) := by
  have a0 := hH.1 r (by omega)
  have a1 := hH.1 (r + 1) (by omega)
  have am := hH.2 r hr1
  have b0 := hK.1 q (by omega)
  have b1 := hK.1 (q + 1) (by omega)
  have bm := hK.2 q hq1
  rw [Nat.zero_add] at a0 a1
  rw [← Nat.add_assoc] at b1
  unfold rAl
  by_cases c : ea (q + 1) - ea q = ha (r + 1) - ha r
  · have l1 := N_al_loop (G := G) (h := h) (b := b) (S := S) hH hK hn hm he hr1 hq1 c (ha (r + 1) - ha r) 0 true (by omega)
    rw [decide_eq_true c]
    refine Eq.trans ?_ l1
    simp (disch := omega) only [e_189_0, e_189_34, e_189_47, e_189_51, e_189_52, e_189_64, e_189_69, e_189_106, e_189_111, e_189_115, e_189_116, e_189_124, ↓ra_hAt_b, ↓rl_hAt_b, ↓ra_eAt_b, ↓rl_eAt_b, a0.1, a1.1, b0.1, b1.1, i_mul, i_sub, c, ↓Option.bind_some, ↓jzo_0b, ↓jzo_1b, ↓jzo_bb, Option.toList_some, Option.toList_none, List.cons_append, List.nil_append, ↓reduceIte, jzo_0, jzo_1, jzo_b, jbi_t, jbi_f, i_add, ↓i_ltP, ↓i_ltN, ↓i_eqP, ↓i_eqN, i_lt, i_eq, jbi_0, pt_lt, pf_lt, pt_eq, pf_eq, pt_le, pf_le, Nat.reduceEqDiff, eq_self, true_or, or_true, false_or, or_false, true_and, and_true, false_and, and_false, jE_sw, jE_sw0]
  · rw [decide_eq_false c, Bool.false_and]
    simp (disch := omega) only [e_189_0, e_189_34, e_189_47, e_189_51, e_189_52, e_189_64, e_189_69, e_189_106, e_189_111, e_189_115, e_189_116, e_189_124, ↓ra_hAt_b, ↓rl_hAt_b, ↓ra_eAt_b, ↓rl_eAt_b, a0.1, a1.1, b0.1, b1.1, i_mul, i_sub, c, ↓Option.bind_some, ↓jzo_0b, ↓jzo_1b, ↓jzo_bb, Option.toList_some, Option.toList_none, List.cons_append, List.nil_append, ↓reduceIte, jzo_0, jzo_1, jzo_b, jbi_t, jbi_f, i_add, ↓i_ltP, ↓i_ltN, ↓i_eqP, ↓i_eqN, i_lt, i_eq, jbi_0, pt_lt, pf_lt, pt_eq, pf_eq, pt_le, pf_le, Nat.reduceEqDiff, eq_self, true_or, or_true, false_or, or_false, true_and, and_true, false_and, and_false, jE_sw, jE_sw0]
    rw [e_189_57]
    by_cases c2 : 0 < ha (r + 1) - ha r <;> simp (disch := omega) only [e_189_0, e_189_34, e_189_47, e_189_51, e_189_52, e_189_64, e_189_69, e_189_106, e_189_111, e_189_115, e_189_116, e_189_124, ↓Option.bind_some, ↓jzo_0b, ↓jzo_1b, ↓jzo_bb, Option.toList_some, Option.toList_none, List.cons_append, List.nil_append, ↓reduceIte, jzo_0, jzo_1, jzo_b, jbi_t, jbi_f, i_add, ↓i_ltP, ↓i_ltN, ↓i_eqP, ↓i_eqN, i_lt, i_eq, jbi_0, pt_lt, pf_lt, pt_eq, pf_eq, pt_le, pf_le, Nat.reduceEqDiff, eq_self, true_or, or_true, false_or, or_false, true_and, and_true, false_and, and_false, jE_sw, jE_sw0]

theorem N_isAlike_b {G : jx_Gv} {h : jx_H} {b : Nat} {S : Nat → Int32} {A : Nat → Nat → Int32} {ha ea : Nat → Nat} {n m r e q : Nat} (hH : aOk A 37 0 n ha) (hK : aOk A 40 (121 * e) m ea) (hn : n ≤ 120) (hm : m ≤ 120) (he : e < 8) (hr1 : r < n) (hq1 : q < m) {β_ : Type} {f_ : jx_R → Option β_} : (jE G (189, 0, [some (.ref b), some (.int (Int32.ofNat r)), some (.int (Int32.ofNat e)), some (.int (Int32.ofNat q)), none, none, none], [], hR h b S A)).bind f_ = f_ ((some (.int (jbi (rAl A ha ea r e q))), hR h b S A)) := bnd (N_isAlike hH hK hn hm he hr1 hq1)