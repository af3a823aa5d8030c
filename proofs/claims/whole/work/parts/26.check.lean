/-! ALL RULES OF ONE EDITION -/
def yrw (X : jX) (v : Nat) : Nat → Nat → List Nat → List Nat
  | 0, _, L => L
  | d + 1, j, L => yrw X v d (j + 1) (if xkind X (j + 1) = Int32.ofNat 65536 ∧ xblock X (j + 1) = v then yre (xtar X (j + 1)) L else L)
theorem yre_len (p : Nat) (L : List Nat) : L.length ≤ (yre p L).length := by
  unfold yre
  split
  · exact Nat.le_refl _
  · simp
theorem yre_at {p i : Nat} {L : List Nat} (hi : i < L.length) : (yre p L).getD i 0 = L.getD i 0 := by
  unfold yre
  split
  · rfl
  · rw [List.getD_eq_getElem?_getD, List.getD_eq_getElem?_getD, List.getElem?_append_left hi]
def hr (h : jx_H) (u : Nat) (f : Nat → Int32) : jx_H := hs h (u + 1) (.inr (0, 120, .inl f))
theorem hr_hr {h : jx_H} {u : Nat} {f g : Nat → Int32} : hs (hr h u f) (u + 1) (.inr (0, 120, .inl g)) = hr h u g := hs_hs _ _ _ _
theorem R_in_loop {G : jx_Gv} {h : jx_H} {a u : Nat} {X : jX} {f0 : Nat → Int32} (hE : jEd h a X) (hW : xWF X) (hR : jRl h u f0) (hu : u + 1 < a) {i v r : Nat} (hr1 : r < 2147483648) : ∀ (d j : Nat) (L : List Nat) (f : Nat → Int32), j + d = xRc X → i < L.length → L.getD i 0 = v → yag f L → ∃ f', yag f' (yrw X v d j L) ∧ jE G (143, 50, [some (.ref u), some (.ref a), some (.int (Int32.ofNat r)), some (.int (Int32.ofNat L.length)), some (.int (Int32.ofNat i)), some (.int (Int32.ofNat (j + 1)))], [], hr h u f) = jE G (143, 14, [some (.ref u), some (.ref a), some (.int (Int32.ofNat r)), some (.int (Int32.ofNat (yrw X v d j L).length)), some (.int (Int32.ofNat (i + 1))), some (.int (Int32.ofNat (xRc X + 1)))], [], hr h u f')
  | 0, j, L, f, hj, hi, hv, hL => by
    have h1 := hW.1
    have hE' : jEd (hr h u f) a X := jEd_hs hE hu
    refine ⟨f, hL, ?_⟩
    rw [show j = xRc X by omega, e_143_50]
    simp (disch := omega) only [e_143_0, e_143_6, e_143_10, e_143_20, e_143_30, e_143_42, e_143_45, e_143_47, e_143_56, e_143_59, e_143_65, e_143_70, e_143_76, e_143_86, e_143_93, e_143_97, e_143_98, e_143_104, e_143_110, ed_rv hE', ↓E_rowCount_b hE' hW, ↓Option.bind_some, ↓jzo_0b, ↓jzo_1b, ↓jzo_bb, Option.toList_some, Option.toList_none, List.cons_append, List.nil_append, ↓reduceIte, jzo_0, jzo_1, jzo_b, jbi_t, jbi_f, i_add, ↓i_ltP, ↓i_ltN, ↓i_eqP, ↓i_eqN, i_lt, i_eq, jbi_0, pt_lt, pf_lt, pt_eq, pf_eq, pt_le, pf_le, Nat.reduceEqDiff, eq_self, true_or, or_true, false_or, or_false, true_and, and_true, false_and, and_false, jE_sw, jE_sw0, yrw]
  | d + 1, j, L, f, hj, hi, hv, hL => by
    have h1 := hW.1
    have h2 := xblock_le hW (j + 1)
    have h3 := xtar_le hW (j + 1)
    have h4 := hL.1
    have hE' : jEd (hr h u f) a X := jEd_hs hE hu
    have hR' : jRl (hr h u f) u f := rl_hs hR f
    have e2 := hL.2.1 i hi
    rw [hv] at e2
    have h5 : v ≤ 120 := hv ▸ hL.2.2 _ (by rw [getD_get hi]; exact List.getElem_mem hi)
    by_cases c1 : xkind X (j + 1) = Int32.ofNat 65536
    · by_cases c2 : xblock X (j + 1) = v
      · obtain ⟨f', hL', ee⟩ := R_reach (G := G) hR' hL h3
        rw [hr_hr] at ee
        obtain ⟨f2, hL2, e4⟩ := R_in_loop (G := G) hE hW hR hu (i := i) (v := v) hr1 d (j + 1) (yre (xtar X (j + 1)) L) f' (by omega) (Nat.lt_of_lt_of_le hi (yre_len _ _)) (by rw [yre_at hi]; exact hv) hL'
        refine ⟨f2, ?_, ?_⟩
        · rw [yrw, if_pos ⟨c1, c2⟩]; exact hL2
        · rw [yrw, if_pos ⟨c1, c2⟩, e_143_50]
          simp (disch := omega) only [e_143_0, e_143_6, e_143_10, e_143_20, e_143_30, e_143_42, e_143_45, e_143_47, e_143_56, e_143_59, e_143_65, e_143_70, e_143_76, e_143_86, e_143_93, e_143_97, e_143_98, e_143_104, e_143_110, ed_rv hE', rl_rv hR', ↓rl_f_b hR', ↓rl_a_b hR', e2, ↓E_rowCount_b hE' hW, ↓E_kind_b hE' hW, ↓E_block_b hE' hW, ↓E_target_b hE' hW, ee, ↓Option.bind_some, ↓jzo_0b, ↓jzo_1b, ↓jzo_bb, Option.toList_some, Option.toList_none, List.cons_append, List.nil_append, ↓reduceIte, jzo_0, jzo_1, jzo_b, jbi_t, jbi_f, i_add, ↓i_ltP, ↓i_ltN, ↓i_eqP, ↓i_eqN, i_lt, i_eq, jbi_0, pt_lt, pf_lt, pt_eq, pf_eq, pt_le, pf_le, Nat.reduceEqDiff, eq_self, true_or, or_true, false_or, or_false, true_and, and_true, false_and, and_false, jE_sw, jE_sw0, c1, c2]
          exact e4
      · obtain ⟨f2, hL2, e4⟩ := R_in_loop (G := G) hE hW hR hu (i := i) (v := v) hr1 d (j + 1) L f (by omega) hi hv hL
        refine ⟨f2, ?_, ?_⟩
        · rw [yrw, if_neg fun q => c2 q.2]; exact hL2
        · rw [yrw, if_neg fun q => c2 q.2, e_143_50]
          simp (disch := omega) only [e_143_0, e_143_6, e_143_10, e_143_20, e_143_30, e_143_42, e_143_45, e_143_47, e_143_56, e_143_59, e_143_65, e_143_70, e_143_76, e_143_86, e_143_93, e_143_97, e_143_98, e_143_104, e_143_110, ed_rv hE', rl_rv hR', ↓rl_f_b hR', ↓rl_a_b hR', e2, ↓E_rowCount_b hE' hW, ↓E_kind_b hE' hW, ↓E_block_b hE' hW, ↓Option.bind_some, ↓jzo_0b, ↓jzo_1b, ↓jzo_bb, Option.toList_some, Option.toList_none, List.cons_append, List.nil_append, ↓reduceIte, jzo_0, jzo_1, jzo_b, jbi_t, jbi_f, i_add, ↓i_ltP, ↓i_ltN, ↓i_eqP, ↓i_eqN, i_lt, i_eq, jbi_0, pt_lt, pf_lt, pt_eq, pf_eq, pt_le, pf_le, Nat.reduceEqDiff, eq_self, true_or, or_true, false_or, or_false, true_and, and_true, false_and, and_false, jE_sw, jE_sw0, c1, c2]
          exact e4
    · obtain ⟨f2, hL2, e4⟩ := R_in_loop (G := G) hE hW hR hu (i := i) (v := v) hr1 d (j + 1) L f (by omega) hi hv hL
      refine ⟨f2, ?_, ?_⟩
      · rw [yrw, if_neg fun q => c1 q.1]; exact hL2
      · rw [yrw, if_neg fun q => c1 q.1, e_143_50]
        simp (disch := omega) only [e_143_0, e_143_6, e_143_10, e_143_20, e_143_30, e_143_42, e_143_45, e_143_47, e_143_56, e_143_59, e_143_65, e_143_70, e_143_76, e_143_86, e_143_93, e_143_97, e_143_98, e_143_104, e_143_110, ed_rv hE', ↓E_rowCount_b hE' hW, ↓E_kind_b hE' hW, ↓Option.bind_some, ↓jzo_0b, ↓jzo_1b, ↓jzo_bb, Option.toList_some, Option.toList_none, List.cons_append, List.nil_append, ↓reduceIte, jzo_0, jzo_1, jzo_b, jbi_t, jbi_f, i_add, ↓i_ltP, ↓i_ltN, ↓i_eqP, ↓i_eqN, i_lt, i_eq, jbi_0, pt_lt, pf_lt, pt_eq, pf_eq, pt_le, pf_le, Nat.reduceEqDiff, eq_self, true_or, or_true, false_or, or_false, true_and, and_true, false_and, and_false, jE_sw, jE_sw0, c1]
        exact e4
def yri (X : jX) (b : Nat) : Nat → Nat → List Nat → Bool
  | 0, _, _ => false
  | d + 1, i, L => if i < L.length then (if L.getD i 0 = b then true else yri X b d (i + 1) (yrw X (L.getD i 0) (xRc X) 0 L)) else false
theorem R_out_loop {G : jx_Gv} {h : jx_H} {a u : Nat} {X : jX} {f0 : Nat → Int32} (hE : jEd h a X) (hW : xWF X) (hR : jRl h u f0) (hu : u + 1 < a) {r : Nat} (hr1 : r < 2147483648) : ∀ (d i : Nat) (L : List Nat) (f : Nat → Int32) (z5 : Option Value), i + d = 121 → yag f L → ∃ f', jE G (143, 14, [some (.ref u), some (.ref a), some (.int (Int32.ofNat r)), some (.int (Int32.ofNat L.length)), some (.int (Int32.ofNat i)), z5], [], hr h u f) = some (some (.int (jbi (yri X (xblock X r) d i L))), hr h u f')
  | 0, i, L, f, z5, hi, hL => by
    have h4 := hL.1
    refine ⟨f, ?_⟩
    rw [e_143_14, yri]
    simp (disch := omega) only [e_143_0, e_143_6, e_143_10, e_143_20, e_143_30, e_143_42, e_143_45, e_143_47, e_143_56, e_143_59, e_143_65, e_143_70, e_143_76, e_143_86, e_143_93, e_143_97, e_143_98, e_143_104, e_143_110, ↓Option.bind_some, ↓jzo_0b, ↓jzo_1b, ↓jzo_bb, Option.toList_some, Option.toList_none, List.cons_append, List.nil_append, ↓reduceIte, jzo_0, jzo_1, jzo_b, jbi_t, jbi_f, i_add, ↓i_ltP, ↓i_ltN, ↓i_eqP, ↓i_eqN, i_lt, i_eq, jbi_0, pt_lt, pf_lt, pt_eq, pf_eq, pt_le, pf_le, Nat.reduceEqDiff, eq_self, true_or, or_true, false_or, or_false, true_and, and_true, false_and, and_false, jE_sw, jE_sw0]
  | d + 1, i, L, f, z5, hi, hL => by
    have h4 := hL.1
    have h6 := xblock_le hW r
    have hE' : jEd (hr h u f) a X := jEd_hs hE hu
    have hR' : jRl (hr h u f) u f := rl_hs hR f
    by_cases c1 : i < L.length
    · have e2 := hL.2.1 i c1
      have h5 : L.getD i 0 ≤ 120 := hL.2.2 _ (by rw [getD_get c1]; exact List.getElem_mem c1)
      by_cases c2 : L.getD i 0 = xblock X r
      · refine ⟨f, ?_⟩
        rw [e_143_14, yri, if_pos c1, if_pos c2]
        simp (disch := omega) only [e_143_0, e_143_6, e_143_10, e_143_20, e_143_30, e_143_42, e_143_45, e_143_47, e_143_56, e_143_59, e_143_65, e_143_70, e_143_76, e_143_86, e_143_93, e_143_97, e_143_98, e_143_104, e_143_110, ed_rv hE', rl_rv hR', ↓rl_f_b hR', ↓rl_n_b hR', ↓rl_a_b hR', e2, ↓E_block_b hE' hW, ↓Option.bind_some, ↓jzo_0b, ↓jzo_1b, ↓jzo_bb, Option.toList_some, Option.toList_none, List.cons_append, List.nil_append, ↓reduceIte, jzo_0, jzo_1, jzo_b, jbi_t, jbi_f, i_add, ↓i_ltP, ↓i_ltN, ↓i_eqP, ↓i_eqN, i_lt, i_eq, jbi_0, pt_lt, pf_lt, pt_eq, pf_eq, pt_le, pf_le, Nat.reduceEqDiff, eq_self, true_or, or_true, false_or, or_false, true_and, and_true, false_and, and_false, jE_sw, jE_sw0, c2]
      · obtain ⟨f1, hL1, e1⟩ := R_in_loop (G := G) hE hW hR hu (i := i) (v := L.getD i 0) hr1 (xRc X) 0 L f (by omega) c1 rfl hL
        obtain ⟨f2, e3⟩ := R_out_loop (G := G) hE hW hR hu hr1 d (i + 1) _ f1 (some (.int (Int32.ofNat (xRc X + 1)))) (by omega) hL1
        refine ⟨f2, ?_⟩
        rw [e_143_14, yri, if_pos c1, if_neg c2]
        simp (disch := omega) only [e_143_0, e_143_6, e_143_10, e_143_20, e_143_30, e_143_42, e_143_45, e_143_47, e_143_56, e_143_59, e_143_65, e_143_70, e_143_76, e_143_86, e_143_93, e_143_97, e_143_98, e_143_104, e_143_110, ed_rv hE', rl_rv hR', ↓rl_f_b hR', ↓rl_n_b hR', ↓rl_a_b hR', e2, ↓E_block_b hE' hW, ↓Option.bind_some, ↓jzo_0b, ↓jzo_1b, ↓jzo_bb, Option.toList_some, Option.toList_none, List.cons_append, List.nil_append, ↓reduceIte, jzo_0, jzo_1, jzo_b, jbi_t, jbi_f, i_add, ↓i_ltP, ↓i_ltN, ↓i_eqP, ↓i_eqN, i_lt, i_eq, jbi_0, pt_lt, pf_lt, pt_eq, pf_eq, pt_le, pf_le, Nat.reduceEqDiff, eq_self, true_or, or_true, false_or, or_false, true_and, and_true, false_and, and_false, jE_sw, jE_sw0, c2]
        exact e1.trans e3
    · refine ⟨f, ?_⟩
      rw [e_143_14, yri, if_neg c1]
      simp (disch := omega) only [e_143_0, e_143_6, e_143_10, e_143_20, e_143_30, e_143_42, e_143_45, e_143_47, e_143_56, e_143_59, e_143_65, e_143_70, e_143_76, e_143_86, e_143_93, e_143_97, e_143_98, e_143_104, e_143_110, ↓Option.bind_some, ↓jzo_0b, ↓jzo_1b, ↓jzo_bb, Option.toList_some, Option.toList_none, List.cons_append, List.nil_append, ↓reduceIte, jzo_0, jzo_1, jzo_b, jbi_t, jbi_f, i_add, ↓i_ltP, ↓i_ltN, ↓i_eqP, ↓i_eqN, i_lt, i_eq, jbi_0, pt_lt, pf_lt, pt_eq, pf_eq, pt_le, pf_le, Nat.reduceEqDiff, eq_self, true_or, or_true, false_or, or_false, true_and, and_true, false_and, and_false, jE_sw, jE_sw0]
def yWI (X : jX) (r : Nat) : Bool := yri X (xblock X r) 121 0 (yre (xtar X r) [])
theorem R_isWithinItself {G : jx_Gv} {h : jx_H} {a u : Nat} {X : jX} {f0 : Nat → Int32} (hE : jEd h a X) (hW : xWF X) (hR : jRl h u f0) (hu : u + 1 < a) {r : Nat} (hr1 : r < 2147483648) : ∃ f', jE G (143, 0, [some (.ref u), some (.ref a), some (.int (Int32.ofNat r)), none, none, none], [], h) = some (some (.int (jbi (yWI X r))), hr h u f') := by
  have h3 := xtar_le hW r
  have hL0 : yag f0 [] := ⟨by decide, fun i hi => absurd hi (Nat.not_lt_zero _), fun v hv => absurd hv List.not_mem_nil⟩
  obtain ⟨f1, hL1, e1⟩ := R_reach (G := G) hR hL0 h3
  obtain ⟨f2, e2⟩ := R_out_loop (G := G) hE hW hR hu hr1 121 0 (yre (xtar X r) []) f1 none (by omega) hL1
  refine ⟨f2, ?_⟩
  rw [List.length_nil] at e1
  simp (disch := omega) only [e_143_0, e_143_6, e_143_10, e_143_20, e_143_30, e_143_42, e_143_45, e_143_47, e_143_56, e_143_59, e_143_65, e_143_70, e_143_76, e_143_86, e_143_93, e_143_97, e_143_98, e_143_104, e_143_110, ed_rv hE, ↓ed_f0_b hE, ↓ed_f1_b hE, ↓ed_f2_b hE, ↓ed_f3_b hE, ↓ed_f4_b hE, ↓ed_f5_b hE, ↓ed_f6_b hE, ↓ed_f7_b hE, ↓ed_f8_b hE, ↓ed_f9_b hE, ↓ed_f10_b hE, ↓ed_a1_b hE, ↓ed_a2_b hE, ↓ed_a3_b hE, ↓ed_a4_b hE, ↓ed_a5_b hE, ↓ed_a6_b hE, ↓ed_a7_b hE, ↓ed_a8_b hE, rl_rv hR, ↓E_target_b hE hW, e1, ↓Option.bind_some, ↓jzo_0b, ↓jzo_1b, ↓jzo_bb, Option.toList_some, Option.toList_none, List.cons_append, List.nil_append, ↓reduceIte, jzo_0, jzo_1, jzo_b, jbi_t, jbi_f, i_add, ↓i_ltP, ↓i_ltN, ↓i_eqP, ↓i_eqN, i_lt, i_eq, jbi_0, pt_lt, pf_lt, pt_eq, pf_eq, pt_le, pf_le, Nat.reduceEqDiff, eq_self, true_or, or_true, false_or, or_false, true_and, and_true, false_and, and_false, jE_sw, jE_sw0]
  exact e2
def yIN (X : jX) (r : Nat) : Nat := if xtar X r = 0 then 2 else cond (yWI X r) 10 0
theorem R_ruleOfInner {G : jx_Gv} {h : jx_H} {a u : Nat} {X : jX} {f0 : Nat → Int32} (hE : jEd h a X) (hW : xWF X) (hR : jRl h u f0) (hu : u + 1 < a) {r : Nat} (hr1 : r < 2147483648) : ∃ f', jE G (144, 0, [some (.ref u), some (.ref a), some (.int (Int32.ofNat r))], [], h) = some (some (.int (Int32.ofNat (yIN X r))), hr h u f') := by
  have h3 := xtar_le hW r
  obtain ⟨f1, e1⟩ := R_isWithinItself (G := G) hE hW hR hu hr1
  by_cases c1 : xtar X r = 0
  · refine ⟨f0, ?_⟩
    rw [hr, hs_id hR.2]
    simp (disch := omega) only [e_144_0, e_144_5, e_144_8, e_144_10, e_144_16, e_144_19, e_144_24, e_144_25, ed_rv hE, ↓ed_f0_b hE, ↓ed_f1_b hE, ↓ed_f2_b hE, ↓ed_f3_b hE, ↓ed_f4_b hE, ↓ed_f5_b hE, ↓ed_f6_b hE, ↓ed_f7_b hE, ↓ed_f8_b hE, ↓ed_f9_b hE, ↓ed_f10_b hE, ↓ed_a1_b hE, ↓ed_a2_b hE, ↓ed_a3_b hE, ↓ed_a4_b hE, ↓ed_a5_b hE, ↓ed_a6_b hE, ↓ed_a7_b hE, ↓ed_a8_b hE, rl_rv hR, ↓E_target_b hE hW, ↓Option.bind_some, ↓jzo_0b, ↓jzo_1b, ↓jzo_bb, Option.toList_some, Option.toList_none, List.cons_append, List.nil_append, ↓reduceIte, jzo_0, jzo_1, jzo_b, jbi_t, jbi_f, i_add, ↓i_ltP, ↓i_ltN, ↓i_eqP, ↓i_eqN, i_lt, i_eq, jbi_0, pt_lt, pf_lt, pt_eq, pf_eq, pt_le, pf_le, Nat.reduceEqDiff, eq_self, true_or, or_true, false_or, or_false, true_and, and_true, false_and, and_false, jE_sw, jE_sw0, yIN, c1]
  · refine ⟨f1, ?_⟩
    cases c2 : yWI X r
    · rw [c2] at e1
      simp (disch := omega) only [e_144_0, e_144_5, e_144_8, e_144_10, e_144_16, e_144_19, e_144_24, e_144_25, ed_rv hE, ↓ed_f0_b hE, ↓ed_f1_b hE, ↓ed_f2_b hE, ↓ed_f3_b hE, ↓ed_f4_b hE, ↓ed_f5_b hE, ↓ed_f6_b hE, ↓ed_f7_b hE, ↓ed_f8_b hE, ↓ed_f9_b hE, ↓ed_f10_b hE, ↓ed_a1_b hE, ↓ed_a2_b hE, ↓ed_a3_b hE, ↓ed_a4_b hE, ↓ed_a5_b hE, ↓ed_a6_b hE, ↓ed_a7_b hE, ↓ed_a8_b hE, rl_rv hR, ↓E_target_b hE hW, e1, ↓Option.bind_some, ↓jzo_0b, ↓jzo_1b, ↓jzo_bb, Option.toList_some, Option.toList_none, List.cons_append, List.nil_append, ↓reduceIte, jzo_0, jzo_1, jzo_b, jbi_t, jbi_f, i_add, ↓i_ltP, ↓i_ltN, ↓i_eqP, ↓i_eqN, i_lt, i_eq, jbi_0, pt_lt, pf_lt, pt_eq, pf_eq, pt_le, pf_le, Nat.reduceEqDiff, eq_self, true_or, or_true, false_or, or_false, true_and, and_true, false_and, and_false, jE_sw, jE_sw0, yIN, c1, c2, cond_false]
    · rw [c2] at e1
      simp (disch := omega) only [e_144_0, e_144_5, e_144_8, e_144_10, e_144_16, e_144_19, e_144_24, e_144_25, ed_rv hE, ↓ed_f0_b hE, ↓ed_f1_b hE, ↓ed_f2_b hE, ↓ed_f3_b hE, ↓ed_f4_b hE, ↓ed_f5_b hE, ↓ed_f6_b hE, ↓ed_f7_b hE, ↓ed_f8_b hE, ↓ed_f9_b hE, ↓ed_f10_b hE, ↓ed_a1_b hE, ↓ed_a2_b hE, ↓ed_a3_b hE, ↓ed_a4_b hE, ↓ed_a5_b hE, ↓ed_a6_b hE, ↓ed_a7_b hE, ↓ed_a8_b hE, rl_rv hR, ↓E_target_b hE hW, e1, ↓Option.bind_some, ↓jzo_0b, ↓jzo_1b, ↓jzo_bb, Option.toList_some, Option.toList_none, List.cons_append, List.nil_append, ↓reduceIte, jzo_0, jzo_1, jzo_b, jbi_t, jbi_f, i_add, ↓i_ltP, ↓i_ltN, ↓i_eqP, ↓i_eqN, i_lt, i_eq, jbi_0, pt_lt, pf_lt, pt_eq, pf_eq, pt_le, pf_le, Nat.reduceEqDiff, eq_self, true_or, or_true, false_or, or_false, true_and, and_true, false_and, and_false, jE_sw, jE_sw0, yIN, c1, c2, cond_true]
def yTG (X : jX) (r : Nat) : Nat := if xtar X r = 0 then 2 else 0
def yLB (X : jX) (r : Nat) : Nat := if yGB X r = true then 1 else if xkind X r = Int32.ofNat 2 then yTY X r else if xkind X r = Int32.ofNat 8 then yTG X r else if xkind X r = Int32.ofNat 32 then yTG X r else if xkind X r = Int32.ofNat 64 then yTG X r else if xkind X r = Int32.ofNat 128 then yTG X r else if xkind X r = Int32.ofNat 256 then yRU X r else if xkind X r = Int32.ofNat 16384 then yCO X r else if xkind X r = Int32.ofNat 65536 then yIN X r else 0
theorem R_leastBroken {G : jx_Gv} {h : jx_H} {a u : Nat} {X : jX} {f0 : Nat → Int32} (hE : jEd h a X) (hW : xWF X) (hR : jRl h u f0) (hu : u + 1 < a) {r : Nat} (h0 : 1 ≤ r) (hr1 : r < 2147483648) : ∃ f', jE G (151, 0, [some (.ref u), some (.ref a), some (.int (Int32.ofNat r))], [], h) = some (some (.int (Int32.ofNat (yLB X r))), hr h u f') := by
  have h3 := xtar_le hW r
  have eh : hr h u f0 = h := hs_id hR.2
  cases c0 : yGB X r
  case true =>
    refine ⟨f0, ?_⟩
    rw [eh]
    simp (disch := omega) only [e_151_0, e_151_5, e_151_8, e_151_10, e_151_15, e_151_88, e_151_93, e_151_94, e_151_99, e_151_102, e_151_106, e_151_107, e_151_108, e_151_113, e_151_114, e_151_120, e_151_121, e_151_126, e_151_127, ed_rv hE, ↓ed_f0_b hE, ↓ed_f1_b hE, ↓ed_f2_b hE, ↓ed_f3_b hE, ↓ed_f4_b hE, ↓ed_f5_b hE, ↓ed_f6_b hE, ↓ed_f7_b hE, ↓ed_f8_b hE, ↓ed_f9_b hE, ↓ed_f10_b hE, ↓ed_a1_b hE, ↓ed_a2_b hE, ↓ed_a3_b hE, ↓ed_a4_b hE, ↓ed_a5_b hE, ↓ed_a6_b hE, ↓ed_a7_b hE, ↓ed_a8_b hE, rl_rv hR, ↓R_isGivenBefore_b hE hW, ↓Option.bind_some, ↓jzo_0b, ↓jzo_1b, ↓jzo_bb, Option.toList_some, Option.toList_none, List.cons_append, List.nil_append, ↓reduceIte, jzo_0, jzo_1, jzo_b, jbi_t, jbi_f, i_add, ↓i_ltP, ↓i_ltN, ↓i_eqP, ↓i_eqN, i_lt, i_eq, jbi_0, pt_lt, pf_lt, pt_eq, pf_eq, pt_le, pf_le, Nat.reduceEqDiff, eq_self, true_or, or_true, false_or, or_false, true_and, and_true, false_and, and_false, jE_sw, jE_sw0, yLB, c0]
  by_cases c1 : xkind X r = Int32.ofNat 2
  · refine ⟨f0, ?_⟩
    rw [eh]
    simp (disch := omega) only [e_151_0, e_151_5, e_151_8, e_151_10, e_151_15, e_151_88, e_151_93, e_151_94, e_151_99, e_151_102, e_151_106, e_151_107, e_151_108, e_151_113, e_151_114, e_151_120, e_151_121, e_151_126, e_151_127, ed_rv hE, ↓ed_f0_b hE, ↓ed_f1_b hE, ↓ed_f2_b hE, ↓ed_f3_b hE, ↓ed_f4_b hE, ↓ed_f5_b hE, ↓ed_f6_b hE, ↓ed_f7_b hE, ↓ed_f8_b hE, ↓ed_f9_b hE, ↓ed_f10_b hE, ↓ed_a1_b hE, ↓ed_a2_b hE, ↓ed_a3_b hE, ↓ed_a4_b hE, ↓ed_a5_b hE, ↓ed_a6_b hE, ↓ed_a7_b hE, ↓ed_a8_b hE, rl_rv hR, ↓R_isGivenBefore_b hE hW, ↓E_kind_b hE hW, ↓R_ruleOfType_b hE hW, ↓Option.bind_some, ↓jzo_0b, ↓jzo_1b, ↓jzo_bb, Option.toList_some, Option.toList_none, List.cons_append, List.nil_append, ↓reduceIte, jzo_0, jzo_1, jzo_b, jbi_t, jbi_f, i_add, ↓i_ltP, ↓i_ltN, ↓i_eqP, ↓i_eqN, i_lt, i_eq, jbi_0, pt_lt, pf_lt, pt_eq, pf_eq, pt_le, pf_le, Nat.reduceEqDiff, eq_self, true_or, or_true, false_or, or_false, true_and, and_true, false_and, and_false, jE_sw, jE_sw0, yLB, c0, c1, Bool.false_eq_true]
  by_cases c2 : xkind X r = Int32.ofNat 8
  · refine ⟨f0, ?_⟩
    rw [eh]
    by_cases d : xtar X r = 0 <;> simp (disch := omega) only [e_151_0, e_151_5, e_151_8, e_151_10, e_151_15, e_151_88, e_151_93, e_151_94, e_151_99, e_151_102, e_151_106, e_151_107, e_151_108, e_151_113, e_151_114, e_151_120, e_151_121, e_151_126, e_151_127, ed_rv hE, ↓ed_f0_b hE, ↓ed_f1_b hE, ↓ed_f2_b hE, ↓ed_f3_b hE, ↓ed_f4_b hE, ↓ed_f5_b hE, ↓ed_f6_b hE, ↓ed_f7_b hE, ↓ed_f8_b hE, ↓ed_f9_b hE, ↓ed_f10_b hE, ↓ed_a1_b hE, ↓ed_a2_b hE, ↓ed_a3_b hE, ↓ed_a4_b hE, ↓ed_a5_b hE, ↓ed_a6_b hE, ↓ed_a7_b hE, ↓ed_a8_b hE, rl_rv hR, ↓R_isGivenBefore_b hE hW, ↓E_kind_b hE hW, ↓E_target_b hE hW, ↓Option.bind_some, ↓jzo_0b, ↓jzo_1b, ↓jzo_bb, Option.toList_some, Option.toList_none, List.cons_append, List.nil_append, ↓reduceIte, jzo_0, jzo_1, jzo_b, jbi_t, jbi_f, i_add, ↓i_ltP, ↓i_ltN, ↓i_eqP, ↓i_eqN, i_lt, i_eq, jbi_0, pt_lt, pf_lt, pt_eq, pf_eq, pt_le, pf_le, Nat.reduceEqDiff, eq_self, true_or, or_true, false_or, or_false, true_and, and_true, false_and, and_false, jE_sw, jE_sw0, yLB, yTG, c0, c2, d, Bool.false_eq_true]
  by_cases c3 : xkind X r = Int32.ofNat 32
  · refine ⟨f0, ?_⟩
    rw [eh]
    by_cases d : xtar X r = 0 <;> simp (disch := omega) only [e_151_0, e_151_5, e_151_8, e_151_10, e_151_15, e_151_88, e_151_93, e_151_94, e_151_99, e_151_102, e_151_106, e_151_107, e_151_108, e_151_113, e_151_114, e_151_120, e_151_121, e_151_126, e_151_127, ed_rv hE, ↓ed_f0_b hE, ↓ed_f1_b hE, ↓ed_f2_b hE, ↓ed_f3_b hE, ↓ed_f4_b hE, ↓ed_f5_b hE, ↓ed_f6_b hE, ↓ed_f7_b hE, ↓ed_f8_b hE, ↓ed_f9_b hE, ↓ed_f10_b hE, ↓ed_a1_b hE, ↓ed_a2_b hE, ↓ed_a3_b hE, ↓ed_a4_b hE, ↓ed_a5_b hE, ↓ed_a6_b hE, ↓ed_a7_b hE, ↓ed_a8_b hE, rl_rv hR, ↓R_isGivenBefore_b hE hW, ↓E_kind_b hE hW, ↓E_target_b hE hW, ↓Option.bind_some, ↓jzo_0b, ↓jzo_1b, ↓jzo_bb, Option.toList_some, Option.toList_none, List.cons_append, List.nil_append, ↓reduceIte, jzo_0, jzo_1, jzo_b, jbi_t, jbi_f, i_add, ↓i_ltP, ↓i_ltN, ↓i_eqP, ↓i_eqN, i_lt, i_eq, jbi_0, pt_lt, pf_lt, pt_eq, pf_eq, pt_le, pf_le, Nat.reduceEqDiff, eq_self, true_or, or_true, false_or, or_false, true_and, and_true, false_and, and_false, jE_sw, jE_sw0, yLB, yTG, c0, c3, d, Bool.false_eq_true]
  by_cases c4 : xkind X r = Int32.ofNat 64
  · refine ⟨f0, ?_⟩
    rw [eh]
    by_cases d : xtar X r = 0 <;> simp (disch := omega) only [e_151_0, e_151_5, e_151_8, e_151_10, e_151_15, e_151_88, e_151_93, e_151_94, e_151_99, e_151_102, e_151_106, e_151_107, e_151_108, e_151_113, e_151_114, e_151_120, e_151_121, e_151_126, e_151_127, ed_rv hE, ↓ed_f0_b hE, ↓ed_f1_b hE, ↓ed_f2_b hE, ↓ed_f3_b hE, ↓ed_f4_b hE, ↓ed_f5_b hE, ↓ed_f6_b hE, ↓ed_f7_b hE, ↓ed_f8_b hE, ↓ed_f9_b hE, ↓ed_f10_b hE, ↓ed_a1_b hE, ↓ed_a2_b hE, ↓ed_a3_b hE, ↓ed_a4_b hE, ↓ed_a5_b hE, ↓ed_a6_b hE, ↓ed_a7_b hE, ↓ed_a8_b hE, rl_rv hR, ↓R_isGivenBefore_b hE hW, ↓E_kind_b hE hW, ↓E_target_b hE hW, ↓Option.bind_some, ↓jzo_0b, ↓jzo_1b, ↓jzo_bb, Option.toList_some, Option.toList_none, List.cons_append, List.nil_append, ↓reduceIte, jzo_0, jzo_1, jzo_b, jbi_t, jbi_f, i_add, ↓i_ltP, ↓i_ltN, ↓i_eqP, ↓i_eqN, i_lt, i_eq, jbi_0, pt_lt, pf_lt, pt_eq, pf_eq, pt_le, pf_le, Nat.reduceEqDiff, eq_self, true_or, or_true, false_or, or_false, true_and, and_true, false_and, and_false, jE_sw, jE_sw0, yLB, yTG, c0, c4, d, Bool.false_eq_true]
  by_cases c5 : xkind X r = Int32.ofNat 128
  · refine ⟨f0, ?_⟩
    rw [eh]
    by_cases d : xtar X r = 0 <;> simp (disch := omega) only [e_151_0, e_151_5, e_151_8, e_151_10, e_151_15, e_151_88, e_151_93, e_151_94, e_151_99, e_151_102, e_151_106, e_151_107, e_151_108, e_151_113, e_151_114, e_151_120, e_151_121, e_151_126, e_151_127, ed_rv hE, ↓ed_f0_b hE, ↓ed_f1_b hE, ↓ed_f2_b hE, ↓ed_f3_b hE, ↓ed_f4_b hE, ↓ed_f5_b hE, ↓ed_f6_b hE, ↓ed_f7_b hE, ↓ed_f8_b hE, ↓ed_f9_b hE, ↓ed_f10_b hE, ↓ed_a1_b hE, ↓ed_a2_b hE, ↓ed_a3_b hE, ↓ed_a4_b hE, ↓ed_a5_b hE, ↓ed_a6_b hE, ↓ed_a7_b hE, ↓ed_a8_b hE, rl_rv hR, ↓R_isGivenBefore_b hE hW, ↓E_kind_b hE hW, ↓E_target_b hE hW, ↓Option.bind_some, ↓jzo_0b, ↓jzo_1b, ↓jzo_bb, Option.toList_some, Option.toList_none, List.cons_append, List.nil_append, ↓reduceIte, jzo_0, jzo_1, jzo_b, jbi_t, jbi_f, i_add, ↓i_ltP, ↓i_ltN, ↓i_eqP, ↓i_eqN, i_lt, i_eq, jbi_0, pt_lt, pf_lt, pt_eq, pf_eq, pt_le, pf_le, Nat.reduceEqDiff, eq_self, true_or, or_true, false_or, or_false, true_and, and_true, false_and, and_false, jE_sw, jE_sw0, yLB, yTG, c0, c5, d, Bool.false_eq_true]
  by_cases c6 : xkind X r = Int32.ofNat 256
  · refine ⟨f0, ?_⟩
    rw [eh]
    simp (disch := omega) only [e_151_0, e_151_5, e_151_8, e_151_10, e_151_15, e_151_88, e_151_93, e_151_94, e_151_99, e_151_102, e_151_106, e_151_107, e_151_108, e_151_113, e_151_114, e_151_120, e_151_121, e_151_126, e_151_127, ed_rv hE, ↓ed_f0_b hE, ↓ed_f1_b hE, ↓ed_f2_b hE, ↓ed_f3_b hE, ↓ed_f4_b hE, ↓ed_f5_b hE, ↓ed_f6_b hE, ↓ed_f7_b hE, ↓ed_f8_b hE, ↓ed_f9_b hE, ↓ed_f10_b hE, ↓ed_a1_b hE, ↓ed_a2_b hE, ↓ed_a3_b hE, ↓ed_a4_b hE, ↓ed_a5_b hE, ↓ed_a6_b hE, ↓ed_a7_b hE, ↓ed_a8_b hE, rl_rv hR, ↓R_isGivenBefore_b hE hW, ↓E_kind_b hE hW, ↓R_ruleOfRun_b hE hW, ↓Option.bind_some, ↓jzo_0b, ↓jzo_1b, ↓jzo_bb, Option.toList_some, Option.toList_none, List.cons_append, List.nil_append, ↓reduceIte, jzo_0, jzo_1, jzo_b, jbi_t, jbi_f, i_add, ↓i_ltP, ↓i_ltN, ↓i_eqP, ↓i_eqN, i_lt, i_eq, jbi_0, pt_lt, pf_lt, pt_eq, pf_eq, pt_le, pf_le, Nat.reduceEqDiff, eq_self, true_or, or_true, false_or, or_false, true_and, and_true, false_and, and_false, jE_sw, jE_sw0, yLB, c0, c6, Bool.false_eq_true]
  by_cases c7 : xkind X r = Int32.ofNat 16384
  · refine ⟨f0, ?_⟩
    rw [eh]
    simp (disch := omega) only [e_151_0, e_151_5, e_151_8, e_151_10, e_151_15, e_151_88, e_151_93, e_151_94, e_151_99, e_151_102, e_151_106, e_151_107, e_151_108, e_151_113, e_151_114, e_151_120, e_151_121, e_151_126, e_151_127, ed_rv hE, ↓ed_f0_b hE, ↓ed_f1_b hE, ↓ed_f2_b hE, ↓ed_f3_b hE, ↓ed_f4_b hE, ↓ed_f5_b hE, ↓ed_f6_b hE, ↓ed_f7_b hE, ↓ed_f8_b hE, ↓ed_f9_b hE, ↓ed_f10_b hE, ↓ed_a1_b hE, ↓ed_a2_b hE, ↓ed_a3_b hE, ↓ed_a4_b hE, ↓ed_a5_b hE, ↓ed_a6_b hE, ↓ed_a7_b hE, ↓ed_a8_b hE, rl_rv hR, ↓R_isGivenBefore_b hE hW, ↓E_kind_b hE hW, ↓R_ruleOfConnect_b hE hW h0, ↓Option.bind_some, ↓jzo_0b, ↓jzo_1b, ↓jzo_bb, Option.toList_some, Option.toList_none, List.cons_append, List.nil_append, ↓reduceIte, jzo_0, jzo_1, jzo_b, jbi_t, jbi_f, i_add, ↓i_ltP, ↓i_ltN, ↓i_eqP, ↓i_eqN, i_lt, i_eq, jbi_0, pt_lt, pf_lt, pt_eq, pf_eq, pt_le, pf_le, Nat.reduceEqDiff, eq_self, true_or, or_true, false_or, or_false, true_and, and_true, false_and, and_false, jE_sw, jE_sw0, yLB, c0, c7, Bool.false_eq_true]
  by_cases c8 : xkind X r = Int32.ofNat 65536
  · obtain ⟨f1, e1⟩ := R_ruleOfInner (G := G) hE hW hR hu hr1
    refine ⟨f1, ?_⟩
    simp (disch := omega) only [e_151_0, e_151_5, e_151_8, e_151_10, e_151_15, e_151_88, e_151_93, e_151_94, e_151_99, e_151_102, e_151_106, e_151_107, e_151_108, e_151_113, e_151_114, e_151_120, e_151_121, e_151_126, e_151_127, ed_rv hE, ↓ed_f0_b hE, ↓ed_f1_b hE, ↓ed_f2_b hE, ↓ed_f3_b hE, ↓ed_f4_b hE, ↓ed_f5_b hE, ↓ed_f6_b hE, ↓ed_f7_b hE, ↓ed_f8_b hE, ↓ed_f9_b hE, ↓ed_f10_b hE, ↓ed_a1_b hE, ↓ed_a2_b hE, ↓ed_a3_b hE, ↓ed_a4_b hE, ↓ed_a5_b hE, ↓ed_a6_b hE, ↓ed_a7_b hE, ↓ed_a8_b hE, rl_rv hR, ↓R_isGivenBefore_b hE hW, ↓E_kind_b hE hW, e1, ↓Option.bind_some, ↓jzo_0b, ↓jzo_1b, ↓jzo_bb, Option.toList_some, Option.toList_none, List.cons_append, List.nil_append, ↓reduceIte, jzo_0, jzo_1, jzo_b, jbi_t, jbi_f, i_add, ↓i_ltP, ↓i_ltN, ↓i_eqP, ↓i_eqN, i_lt, i_eq, jbi_0, pt_lt, pf_lt, pt_eq, pf_eq, pt_le, pf_le, Nat.reduceEqDiff, eq_self, true_or, or_true, false_or, or_false, true_and, and_true, false_and, and_false, jE_sw, jE_sw0, yLB, c0, c8, Bool.false_eq_true]
  · refine ⟨f0, ?_⟩
    rw [eh]
    simp (disch := omega) only [e_151_0, e_151_5, e_151_8, e_151_10, e_151_15, e_151_88, e_151_93, e_151_94, e_151_99, e_151_102, e_151_106, e_151_107, e_151_108, e_151_113, e_151_114, e_151_120, e_151_121, e_151_126, e_151_127, ed_rv hE, ↓ed_f0_b hE, ↓ed_f1_b hE, ↓ed_f2_b hE, ↓ed_f3_b hE, ↓ed_f4_b hE, ↓ed_f5_b hE, ↓ed_f6_b hE, ↓ed_f7_b hE, ↓ed_f8_b hE, ↓ed_f9_b hE, ↓ed_f10_b hE, ↓ed_a1_b hE, ↓ed_a2_b hE, ↓ed_a3_b hE, ↓ed_a4_b hE, ↓ed_a5_b hE, ↓ed_a6_b hE, ↓ed_a7_b hE, ↓ed_a8_b hE, rl_rv hR, ↓R_isGivenBefore_b hE hW, ↓E_kind_b hE hW, ↓Option.bind_some, ↓jzo_0b, ↓jzo_1b, ↓jzo_bb, Option.toList_some, Option.toList_none, List.cons_append, List.nil_append, ↓reduceIte, jzo_0, jzo_1, jzo_b, jbi_t, jbi_f, i_add, ↓i_ltP, ↓i_ltN, ↓i_eqP, ↓i_eqN, i_lt, i_eq, jbi_0, pt_lt, pf_lt, pt_eq, pf_eq, pt_le, pf_le, Nat.reduceEqDiff, eq_self, true_or, or_true, false_or, or_false, true_and, and_true, false_and, and_false, jE_sw, jE_sw0, yLB, c0, c1, c2, c3, c4, c5, c6, c7, c8, Bool.false_eq_true]
def yFB (X : jX) : Nat → Nat → Nat
  | 0, _ => 0
  | d + 1, j => if yLB X (j + 1) = 0 then yFB X d (j + 1) else (j + 1) * 100 + yLB X (j + 1)
theorem yRL_le {X : jX} {r : Nat} : ∀ (d k : Nat) (m : Bool), yRL X r d k m ≤ 10
  | 0, k, m => by
    unfold yRL yRF
    split
    · omega
    · cases m <;> simp only [cond_true, cond_false] <;> omega
  | d + 1, k, m => by
    unfold yRL
    repeat' split
    · unfold yRF
      split
      · omega
      · cases m <;> simp only [cond_true, cond_false] <;> omega
    · exact yRL_le d _ _
    · omega
    · exact yRL_le d _ _
theorem yCO_le (X : jX) (r : Nat) : yCO X r ≤ 10 := by
  have := yIF_le X (xtar X (xiport X r 1 (xinner X r 1))) (xtar X (xiport X r 5 (xinner X r 5)))
  unfold yCO
  repeat' split
  · omega
  · omega
  · omega
  · cases yCB X r <;> simp only [cond_true, cond_false] <;> omega
  · omega
theorem yLB_le (X : jX) (r : Nat) : yLB X r ≤ 10 := by
  have h1 : yTY X r ≤ 10 := by
    unfold yTY
    repeat' split
    all_goals omega
  have h2 : yTG X r ≤ 10 := by unfold yTG; split <;> omega
  have h3 : yRU X r ≤ 10 := yRL_le _ _ _
  have h4 := yCO_le X r
  have h5 : yIN X r ≤ 10 := by
    unfold yIN
    split
    · omega
    · cases yWI X r <;> simp only [cond_true, cond_false] <;> omega
  unfold yLB
  repeat' split
  all_goals omega
theorem R_fb_loop {G : jx_Gv} {h : jx_H} {a u : Nat} {X : jX} {f0 : Nat → Int32} (hE : jEd h a X) (hW : xWF X) (hR : jRl h u f0) (hu : u + 1 < a) : ∀ (d j : Nat) (f : Nat → Int32) (z3 : Option Value), j + d = xRc X → ∃ f', jE G (152, 2, [some (.ref u), some (.ref a), some (.int (Int32.ofNat (j + 1))), z3], [], hr h u f) = some (some (.int (Int32.ofNat (yFB X d j))), hr h u f')
  | 0, j, f, z3, hj => by
    have h1 := hW.1
    have hE' : jEd (hr h u f) a X := jEd_hs hE hu
    refine ⟨f, ?_⟩
    rw [e_152_2, yFB]
    simp (disch := omega) only [e_152_0, e_152_7, e_152_10, e_152_16, e_152_21, e_152_28, e_152_34, ed_rv hE', ↓E_rowCount_b hE' hW, ↓Option.bind_some, ↓jzo_0b, ↓jzo_1b, ↓jzo_bb, Option.toList_some, Option.toList_none, List.cons_append, List.nil_append, ↓reduceIte, jzo_0, jzo_1, jzo_b, jbi_t, jbi_f, i_add, ↓i_ltP, ↓i_ltN, ↓i_eqP, ↓i_eqN, i_lt, i_eq, jbi_0, pt_lt, pf_lt, pt_eq, pf_eq, pt_le, pf_le, Nat.reduceEqDiff, eq_self, true_or, or_true, false_or, or_false, true_and, and_true, false_and, and_false, jE_sw, jE_sw0]
  | d + 1, j, f, z3, hj => by
    have h1 := hW.1
    have h2 := yLB_le X (j + 1)
    have hE' : jEd (hr h u f) a X := jEd_hs hE hu
    have hR' : jRl (hr h u f) u f := rl_hs hR f
    obtain ⟨f1, e1⟩ := R_leastBroken (G := G) hE' hW hR' hu (r := j + 1) (by omega) (by omega)
    rw [show hr (hr h u f) u f1 = hr h u f1 from hr_hr] at e1
    rw [e_152_2, yFB]
    by_cases c : yLB X (j + 1) = 0
    · obtain ⟨f2, e2⟩ := R_fb_loop (G := G) hE hW hR hu d (j + 1) f1 (some (.int (Int32.ofNat (yLB X (j + 1))))) (by omega)
      refine ⟨f2, ?_⟩
      rw [if_pos c]
      rw [c] at e1 e2
      simp (disch := omega) only [e_152_0, e_152_7, e_152_10, e_152_16, e_152_21, e_152_28, e_152_34, ed_rv hE', rl_rv hR', ↓E_rowCount_b hE' hW, e1, ↓Option.bind_some, ↓jzo_0b, ↓jzo_1b, ↓jzo_bb, Option.toList_some, Option.toList_none, List.cons_append, List.nil_append, ↓reduceIte, jzo_0, jzo_1, jzo_b, jbi_t, jbi_f, i_add, ↓i_ltP, ↓i_ltN, ↓i_eqP, ↓i_eqN, i_lt, i_eq, jbi_0, pt_lt, pf_lt, pt_eq, pf_eq, pt_le, pf_le, Nat.reduceEqDiff, eq_self, true_or, or_true, false_or, or_false, true_and, and_true, false_and, and_false, jE_sw, jE_sw0]
      exact e2
    · refine ⟨f1, ?_⟩
      rw [if_neg c]
      simp (disch := omega) only [e_152_0, e_152_7, e_152_10, e_152_16, e_152_21, e_152_28, e_152_34, ed_rv hE', rl_rv hR', ↓E_rowCount_b hE' hW, e1, ↓Option.bind_some, ↓jzo_0b, ↓jzo_1b, ↓jzo_bb, Option.toList_some, Option.toList_none, List.cons_append, List.nil_append, ↓reduceIte, jzo_0, jzo_1, jzo_b, jbi_t, jbi_f, i_add, ↓i_ltP, ↓i_ltN, ↓i_eqP, ↓i_eqN, i_lt, i_eq, jbi_0, pt_lt, pf_lt, pt_eq, pf_eq, pt_le, pf_le, Nat.reduceEqDiff, eq_self, true_or, or_true, false_or, or_false, true_and, and_true, false_and, and_false, jE_sw, jE_sw0, i_mul]
theorem R_firstBroken {G : jx_Gv} {h : jx_H} {a u : Nat} {X : jX} {f0 : Nat → Int32} (hE : jEd h a X) (hW : xWF X) (hR : jRl h u f0) (hu : u + 1 < a) : ∃ f', jE G (152, 0, [some (.ref u), some (.ref a), none, none], [], h) = some (some (.int (Int32.ofNat (yFB X (xRc X) 0))), hr h u f') := by
  obtain ⟨f1, e1⟩ := R_fb_loop (G := G) hE hW hR hu (xRc X) 0 f0 none (by omega)
  rw [show hr h u f0 = h from hs_id hR.2] at e1
  refine ⟨f1, ?_⟩
  simp (disch := omega) only [e_152_0, e_152_7, e_152_10, e_152_16, e_152_21, e_152_28, e_152_34]
  exact e1
