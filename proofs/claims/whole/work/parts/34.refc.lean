/-! THE REFERENCE'S RING, AND ITS CHECK -/
theorem jm_eqn {p q : Nat} (hp : p < 2147483647) (hq : q < 2147483648) : (Int32.ofNat p = jm q) = (p + 1 = q) := by
  rw [← jm_s, jm_eq (by omega) hq]
theorem jRh_hs {h : jx_H} {b p : Nat} {Y : jY} {c : jx_C} (hY : jRh h b Y) (h1 : p ≠ b) (h2 : p < b + 21 ∨ b + 37 < p) : jRh (hs h p c) b Y := by
  have e : (hs h p c).2.2 b = h.2.2 b := hs_ne (by omega)
  have e' : ∀ k : Nat, 21 ≤ k → k ≤ 37 → (hs h p c).2.2 (b + k) = h.2.2 (b + k) := fun k _ _ => hs_ne (by omega)
  unfold jRh at hY ⊢
  simp only [jx_recv, jx_fI, jx_fA, jx_fld] at hY ⊢
  simp only [e, e' 21 (by decide) (by decide), e' 22 (by decide) (by decide), e' 23 (by decide) (by decide), e' 24 (by decide) (by decide), e' 25 (by decide) (by decide), e' 26 (by decide) (by decide), e' 27 (by decide) (by decide), e' 28 (by decide) (by decide), e' 29 (by decide) (by decide), e' 30 (by decide) (by decide), e' 31 (by decide) (by decide), e' 32 (by decide) (by decide), e' 33 (by decide) (by decide), e' 34 (by decide) (by decide), e' 35 (by decide) (by decide), e' 36 (by decide) (by decide), e' 37 (by decide) (by decide)]
  exact hY
def jSn (h : jx_H) (b : Nat) (g : Nat → Int32) : Prop := jx_fA h b 8 56 = some (b + 42) ∧ h.2.2 (b + 42) = some (.inr (3, 120, .inl g))
def hsn (h : jx_H) (b : Nat) (g : Nat → Int32) : jx_H := hs h (b + 42) (.inr (3, 120, .inl g))
theorem hsn_hsn {h : jx_H} {b : Nat} {f g : Nat → Int32} : hs (hsn h b f) (b + 42) (.inr (3, 120, .inl g)) = hsn h b g := hs_hs _ _ _ _
theorem jSn_hs {h : jx_H} {b : Nat} {g f : Nat → Int32} (q : jSn h b g) : jSn (hsn h b f) b f := by
  have e : (hsn h b f).2.2 b = h.2.2 b := hs_ne (by omega)
  refine ⟨?_, hs_eq _ _ _⟩
  have q1 := q.1
  simp only [jx_fA, jx_fld] at q1 ⊢
  simp only [e]
  exact q1
theorem jRh_sn {h : jx_H} {b : Nat} {Y : jY} {f : Nat → Int32} (hY : jRh h b Y) : jRh (hsn h b f) b Y := jRh_hs hY (by omega) (by omega)
section JSN
variable {h : jx_H} {b i : Nat} {g : Nat → Int32} {x : Int32}
theorem sn_f (q : jSn h b g) : jx_fA h b 8 56 = some (b + 42) := q.1
theorem sn_f_b (q : jSn h b g) {β_ : Type} {f_ : Nat → Option β_} : (jx_fA h b 8 56).bind f_ = f_ ((b + 42)) := bnd (sn_f q)
theorem sn_a (q : jSn h b g) (hi : i < 120) : jx_aI h 3 (b + 42) (Int32.ofNat i) = some (g i) := c_aI q.2 (by decide) hi
theorem sn_a_b (q : jSn h b g) (hi : i < 120) {β_ : Type} {f_ : Int32 → Option β_} : (jx_aI h 3 (b + 42) (Int32.ofNat i)).bind f_ = f_ ((g i)) := bnd (sn_a q hi)
theorem sn_c (q : jSn h b g) (h1 : 1 ≤ i) (hi : i ≤ 120) : jx_aI h 3 (b + 42) (jm i) = some (g (i - 1)) := by
  rw [jm_ofNat h1]
  exact sn_a q (by omega)
theorem sn_c_b (q : jSn h b g) (h1 : 1 ≤ i) (hi : i ≤ 120) {β_ : Type} {f_ : Int32 → Option β_} : (jx_aI h 3 (b + 42) (jm i)).bind f_ = f_ ((g (i - 1))) := bnd (sn_c q h1 hi)
theorem sn_s (q : jSn h b g) (hi : i < 120) : jx_sI h 3 (b + 42) (Int32.ofNat i) x = some (hsn h b (upd g i x)) := c_sI q.2 (by decide) hi
theorem sn_s_b (q : jSn h b g) (hi : i < 120) {β_ : Type} {f_ : jx_H → Option β_} : (jx_sI h 3 (b + 42) (Int32.ofNat i) x).bind f_ = f_ ((hsn h b (upd g i x))) := bnd (sn_s q hi)
theorem sn_t (q : jSn h b g) (h1 : 1 ≤ i) (hi : i ≤ 120) : jx_sI h 3 (b + 42) (jm i) x = some (hsn h b (upd g (i - 1) x)) := by
  rw [jm_ofNat h1]
  exact sn_s q (by omega)
theorem sn_t_b (q : jSn h b g) (h1 : 1 ≤ i) (hi : i ≤ 120) {β_ : Type} {f_ : jx_H → Option β_} : (jx_sI h 3 (b + 42) (jm i) x).bind f_ = f_ ((hsn h b (upd g (i - 1) x))) := bnd (sn_t q h1 hi)
end JSN
/-- which rows are seen -/
def zag (n : Nat) (g : Nat → Int32) (S : Nat → Bool) : Prop := ∀ r : Nat, 1 ≤ r → r ≤ n → g (r - 1) = jbi (S r)
def zset (S : Nat → Bool) (p : Nat) : Nat → Bool := fun r => decide (r = p) || S r
theorem zag_set {n : Nat} {g : Nat → Int32} {S : Nat → Bool} {p : Nat} (h1 : 1 ≤ p) (q : zag n g S) : zag n (upd g (p - 1) (Int32.ofNat 1)) (zset S p) := by
  intro r r1 r2
  unfold upd zset
  by_cases c : r = p
  · rw [if_pos (by omega), decide_eq_true c]; rfl
  · rw [if_neg (by omega), decide_eq_false c, Bool.false_or]
    exact q r r1 r2
theorem M_r0_loop {G : jx_Gv} {h : jx_H} {b : Nat} {Y : jY} (hY : jRh h b Y) (hV : vWF Y) {q : Nat} {z3 z4 : Option Value} (hq : q ≤ vN Y) {n : Nat} : ∀ (d j : Nat) (g : Nat → Int32), j + d = vN Y → jSn h b g → (∀ r, 1 ≤ r → r ≤ j → g (r - 1) = jbi (decide (r = q))) → ∃ g', (∀ r, 1 ≤ r → r ≤ vN Y → g' (r - 1) = jbi (decide (r = q))) ∧ jE G (164, 8, [some (.ref b), some (.int (jm n)), some (.int (jm q)), some (.int (Int32.ofNat j)), z3, z4], [], h) = jE G (164, 8, [some (.ref b), some (.int (jm n)), some (.int (jm q)), some (.int (Int32.ofNat (vN Y))), z3, z4], [], hsn h b g')
  | 0, j, g, hj, hg, hS => by
    refine ⟨g, fun r r1 r2 => hS r r1 (by omega), ?_⟩
    rw [show hsn h b g = h from hs_id hg.2, show j = vN Y by omega]
  | d + 1, j, g, hj, hg, hS => by
    have h1 := hV.1
    by_cases c : j + 1 = q
    · obtain ⟨g', e1, e2⟩ := M_r0_loop (G := G) (z3 := z3) (z4 := z4) (n := n) (jRh_sn hY) hV hq d (j + 1) (upd g j (Int32.ofNat 1)) (by omega) (jSn_hs hg) (by
        intro r r1 r2
        unfold upd
        by_cases cr : r - 1 = j
        · rw [if_pos cr, decide_eq_true (by omega)]; rfl
        · rw [if_neg cr]; exact hS r r1 (by omega))
      refine ⟨g', e1, ?_⟩
      rw [show hsn (hsn h b (upd g j (Int32.ofNat 1))) b g' = hsn h b g' from hsn_hsn] at e2
      rw [← e2, e_164_8]
      simp (disch := omega) only [e_164_0, e_164_5, e_164_16, e_164_26, e_164_30, e_164_31, e_164_38, e_164_42, e_164_46, e_164_47, e_164_52, e_164_66, e_164_78, e_164_93, e_164_96, e_164_102, e_164_109, e_164_119, e_164_122, e_164_132, e_164_138, e_164_141, e_164_145, e_164_159, e_164_163, e_164_164, rh_rv hY, ↓rh_in_b hY, ↓rh_n_b hY, ↓rh_f34_b hY, ↓rh_f35_b hY, ↓rh_f36_b hY, ↓rh_f37_b hY, ↓rh_f38_b hY, ↓rh_f39_b hY, ↓rh_f40_b hY, ↓rh_f41_b hY, ↓rh_f42_b hY, ↓rh_f43_b hY, ↓rh_f44_b hY, ↓rh_f45_b hY, ↓rh_f46_b hY, ↓rh_f47_b hY, ↓rh_f48_b hY, ↓rh_f49_b hY, ↓rh_f50_b hY, ↓rh_a34_b hY, ↓rh_b34_b hY, ↓rh_a35_b hY, ↓rh_b35_b hY, ↓rh_a36_b hY, ↓rh_b36_b hY, ↓rh_a37_b hY, ↓rh_b37_b hY, ↓rh_a38_b hY, ↓rh_b38_b hY, ↓rh_a39_b hY, ↓rh_b39_b hY, ↓rh_a40_b hY, ↓rh_b40_b hY, ↓rh_a41_b hY, ↓rh_b41_b hY, ↓rh_a42_b hY, ↓rh_b42_b hY, ↓rh_a43_b hY, ↓rh_b43_b hY, ↓rh_a44_b hY, ↓rh_b44_b hY, ↓rh_a45_b hY, ↓rh_b45_b hY, ↓rh_a46_b hY, ↓rh_a47_b hY, ↓rh_a48_b hY, ↓rh_a49_b hY, ↓rh_a50_b hY, ↓Option.bind_some, ↓jzo_0b, ↓jzo_1b, ↓jzo_bb, Option.toList_some, Option.toList_none, List.cons_append, List.nil_append, ↓reduceIte, jzo_0, jzo_1, jzo_b, jbi_t, jbi_f, i_add, ↓i_ltP, ↓i_ltN, ↓i_eqP, ↓i_eqN, i_lt, i_eq, jbi_0, pt_lt, pf_lt, pt_eq, pf_eq, pt_le, pf_le, Nat.reduceEqDiff, eq_self, true_or, or_true, false_or, or_false, true_and, and_true, false_and, and_false, jE_sw, jE_sw0, ↓jm_eqP, ↓jm_eqN, ↓jm_lP, ↓jm_lN, ↓jm_nP, ↓jm_nN, ↓jm_gP, ↓jm_gN, ↓sn_f_b hg, ↓sn_s_b hg, jm_eqn]
    · obtain ⟨g', e1, e2⟩ := M_r0_loop (G := G) (z3 := z3) (z4 := z4) (n := n) (jRh_sn hY) hV hq d (j + 1) (upd g j (Int32.ofNat 0)) (by omega) (jSn_hs hg) (by
        intro r r1 r2
        unfold upd
        by_cases cr : r - 1 = j
        · rw [if_pos cr, decide_eq_false (by omega)]; rfl
        · rw [if_neg cr]; exact hS r r1 (by omega))
      refine ⟨g', e1, ?_⟩
      rw [show hsn (hsn h b (upd g j (Int32.ofNat 0))) b g' = hsn h b g' from hsn_hsn] at e2
      rw [← e2, e_164_8]
      simp (disch := omega) only [e_164_0, e_164_5, e_164_16, e_164_26, e_164_30, e_164_31, e_164_38, e_164_42, e_164_46, e_164_47, e_164_52, e_164_66, e_164_78, e_164_93, e_164_96, e_164_102, e_164_109, e_164_119, e_164_122, e_164_132, e_164_138, e_164_141, e_164_145, e_164_159, e_164_163, e_164_164, rh_rv hY, ↓rh_in_b hY, ↓rh_n_b hY, ↓rh_f34_b hY, ↓rh_f35_b hY, ↓rh_f36_b hY, ↓rh_f37_b hY, ↓rh_f38_b hY, ↓rh_f39_b hY, ↓rh_f40_b hY, ↓rh_f41_b hY, ↓rh_f42_b hY, ↓rh_f43_b hY, ↓rh_f44_b hY, ↓rh_f45_b hY, ↓rh_f46_b hY, ↓rh_f47_b hY, ↓rh_f48_b hY, ↓rh_f49_b hY, ↓rh_f50_b hY, ↓rh_a34_b hY, ↓rh_b34_b hY, ↓rh_a35_b hY, ↓rh_b35_b hY, ↓rh_a36_b hY, ↓rh_b36_b hY, ↓rh_a37_b hY, ↓rh_b37_b hY, ↓rh_a38_b hY, ↓rh_b38_b hY, ↓rh_a39_b hY, ↓rh_b39_b hY, ↓rh_a40_b hY, ↓rh_b40_b hY, ↓rh_a41_b hY, ↓rh_b41_b hY, ↓rh_a42_b hY, ↓rh_b42_b hY, ↓rh_a43_b hY, ↓rh_b43_b hY, ↓rh_a44_b hY, ↓rh_b44_b hY, ↓rh_a45_b hY, ↓rh_b45_b hY, ↓rh_a46_b hY, ↓rh_a47_b hY, ↓rh_a48_b hY, ↓rh_a49_b hY, ↓rh_a50_b hY, ↓Option.bind_some, ↓jzo_0b, ↓jzo_1b, ↓jzo_bb, Option.toList_some, Option.toList_none, List.cons_append, List.nil_append, ↓reduceIte, jzo_0, jzo_1, jzo_b, jbi_t, jbi_f, i_add, ↓i_ltP, ↓i_ltN, ↓i_eqP, ↓i_eqN, i_lt, i_eq, jbi_0, pt_lt, pf_lt, pt_eq, pf_eq, pt_le, pf_le, Nat.reduceEqDiff, eq_self, true_or, or_true, false_or, or_false, true_and, and_true, false_and, and_false, jE_sw, jE_sw0, ↓jm_eqP, ↓jm_eqN, ↓jm_lP, ↓jm_lN, ↓jm_nP, ↓jm_nN, ↓jm_gP, ↓jm_gN, ↓sn_f_b hg, ↓sn_s_b hg, jm_eqn]
def zstep (Y : jY) (S : Nat → Bool) (r : Nat) : Bool := decide (vK Y r = Int32.ofNat 11) && (S (vB Y r) && (!decide (zpo Y r = 0) && !S (zpo Y r)))
def zps (Y : jY) : Nat → Nat → (Nat → Bool) → Bool → (Nat → Bool) × Bool
  | 0, _, S, m => (S, m)
  | d + 1, j, S, m => cond (zstep Y S (j + 1)) (zps Y d (j + 1) (zset S (zpo Y (j + 1))) true) (zps Y d (j + 1) S m)
theorem M_partsOf' {G : jx_Gv} {h : jx_H} {b : Nat} {Y : jY} (hY : jRh h b Y) (hV : vWF Y) {j : Nat} (hq : j < 120) : jE G (136, 0, [some (.ref b), some (.int (Int32.ofNat j))], [], h) = some (some (.int (jm (zpo Y (j + 1)))), h) := by
  rw [← jm_s]
  exact M_partsOf hY hV (by omega)
theorem M_partsOf'_b {G : jx_Gv} {h : jx_H} {b : Nat} {Y : jY} (hY : jRh h b Y) (hV : vWF Y) {j : Nat} (hq : j < 120) {β_ : Type} {f_ : jx_R → Option β_} : (jE G (136, 0, [some (.ref b), some (.int (Int32.ofNat j))], [], h)).bind f_ = f_ ((some (.int (jm (zpo Y (j + 1)))), h)) := bnd (M_partsOf' hY hV hq)
def vIn (Y : jY) : Prop := ∀ r : Nat, 1 ≤ r → r ≤ vN Y → vK Y r = Int32.ofNat 11 → 1 ≤ vB Y r
theorem M_r1_loop {G : jx_Gv} {h : jx_H} {b : Nat} {Y : jY} (hY : jRh h b Y) (hV : vWF Y) (hI : vIn Y) {n q : Nat} : ∀ (d j : Nat) (S : Nat → Bool) (m : Bool) (g : Nat → Int32) (z5 : Option Value), j + d = vN Y → jSn h b g → zag (vN Y) g S → ∃ g' z5', zag (vN Y) g' (zps Y d j S m).1 ∧ jE G (164, 57, [some (.ref b), some (.int (jm n)), some (.int (jm q)), some (.int (jbi m)), some (.int (Int32.ofNat j)), z5], [], h) = jE G (164, 48, [some (.ref b), some (.int (jm n)), some (.int (jm q)), some (.int (jbi (zps Y d j S m).2)), some (.int (Int32.ofNat (vN Y))), z5'], [], hsn h b g')
  | 0, j, S, m, g, z5, hj, hg, hS => by
    have h1 := hV.1
    refine ⟨g, z5, hS, ?_⟩
    rw [show hsn h b g = h from hs_id hg.2, e_164_57, show j = vN Y by omega]
    simp (disch := omega) only [e_164_0, e_164_5, e_164_16, e_164_26, e_164_30, e_164_31, e_164_38, e_164_42, e_164_46, e_164_47, e_164_52, e_164_66, e_164_78, e_164_93, e_164_96, e_164_102, e_164_109, e_164_119, e_164_122, e_164_132, e_164_138, e_164_141, e_164_145, e_164_159, e_164_163, e_164_164, rh_rv hY, ↓rh_in_b hY, ↓rh_n_b hY, ↓rh_f34_b hY, ↓rh_f35_b hY, ↓rh_f36_b hY, ↓rh_f37_b hY, ↓rh_f38_b hY, ↓rh_f39_b hY, ↓rh_f40_b hY, ↓rh_f41_b hY, ↓rh_f42_b hY, ↓rh_f43_b hY, ↓rh_f44_b hY, ↓rh_f45_b hY, ↓rh_f46_b hY, ↓rh_f47_b hY, ↓rh_f48_b hY, ↓rh_f49_b hY, ↓rh_f50_b hY, ↓rh_a34_b hY, ↓rh_b34_b hY, ↓rh_a35_b hY, ↓rh_b35_b hY, ↓rh_a36_b hY, ↓rh_b36_b hY, ↓rh_a37_b hY, ↓rh_b37_b hY, ↓rh_a38_b hY, ↓rh_b38_b hY, ↓rh_a39_b hY, ↓rh_b39_b hY, ↓rh_a40_b hY, ↓rh_b40_b hY, ↓rh_a41_b hY, ↓rh_b41_b hY, ↓rh_a42_b hY, ↓rh_b42_b hY, ↓rh_a43_b hY, ↓rh_b43_b hY, ↓rh_a44_b hY, ↓rh_b44_b hY, ↓rh_a45_b hY, ↓rh_b45_b hY, ↓rh_a46_b hY, ↓rh_a47_b hY, ↓rh_a48_b hY, ↓rh_a49_b hY, ↓rh_a50_b hY, ↓Option.bind_some, ↓jzo_0b, ↓jzo_1b, ↓jzo_bb, Option.toList_some, Option.toList_none, List.cons_append, List.nil_append, ↓reduceIte, jzo_0, jzo_1, jzo_b, jbi_t, jbi_f, i_add, ↓i_ltP, ↓i_ltN, ↓i_eqP, ↓i_eqN, i_lt, i_eq, jbi_0, pt_lt, pf_lt, pt_eq, pf_eq, pt_le, pf_le, Nat.reduceEqDiff, eq_self, true_or, or_true, false_or, or_false, true_and, and_true, false_and, and_false, jE_sw, jE_sw0, ↓jm_eqP, ↓jm_eqN, ↓jm_lP, ↓jm_lN, ↓jm_nP, ↓jm_nN, ↓jm_gP, ↓jm_gN, zps]
  | d + 1, j, S, m, g, z5, hj, hg, hS => by
    have h1 := hV.1
    have h2 := hV.2 (j + 1) (by omega) (by omega)
    have h3 := zpo_le' (Y := Y) (q := j + 1)
    rw [zps]
    cases cs : zstep Y S (j + 1)
    · rw [cond_false]
      by_cases c1 : vK Y (j + 1) = Int32.ofNat 11
      · have h4 := hI (j + 1) (by omega) (by omega) c1
        have e4 := hS (vB Y (j + 1)) h4 (by omega)
        cases c2 : S (vB Y (j + 1))
        · obtain ⟨g', z5', e1, e2⟩ := M_r1_loop (G := G) hY hV hI (n := n) (q := q) d (j + 1) S m g z5 (by omega) hg hS
          refine ⟨g', z5', e1, ?_⟩
          rw [c2] at e4
          rw [← e2, e_164_57]
          simp (disch := omega) only [e_164_0, e_164_5, e_164_16, e_164_26, e_164_30, e_164_31, e_164_38, e_164_42, e_164_46, e_164_47, e_164_52, e_164_66, e_164_78, e_164_93, e_164_96, e_164_102, e_164_109, e_164_119, e_164_122, e_164_132, e_164_138, e_164_141, e_164_145, e_164_159, e_164_163, e_164_164, rh_rv hY, ↓rh_in_b hY, ↓rh_n_b hY, ↓rh_f34_b hY, ↓rh_f35_b hY, ↓rh_f36_b hY, ↓rh_f37_b hY, ↓rh_f38_b hY, ↓rh_f39_b hY, ↓rh_f40_b hY, ↓rh_f41_b hY, ↓rh_f42_b hY, ↓rh_f43_b hY, ↓rh_f44_b hY, ↓rh_f45_b hY, ↓rh_f46_b hY, ↓rh_f47_b hY, ↓rh_f48_b hY, ↓rh_f49_b hY, ↓rh_f50_b hY, ↓rh_a34_b hY, ↓rh_b34_b hY, ↓rh_a35_b hY, ↓rh_b35_b hY, ↓rh_a36_b hY, ↓rh_b36_b hY, ↓rh_a37_b hY, ↓rh_b37_b hY, ↓rh_a38_b hY, ↓rh_b38_b hY, ↓rh_a39_b hY, ↓rh_b39_b hY, ↓rh_a40_b hY, ↓rh_b40_b hY, ↓rh_a41_b hY, ↓rh_b41_b hY, ↓rh_a42_b hY, ↓rh_b42_b hY, ↓rh_a43_b hY, ↓rh_b43_b hY, ↓rh_a44_b hY, ↓rh_b44_b hY, ↓rh_a45_b hY, ↓rh_b45_b hY, ↓rh_a46_b hY, ↓rh_a47_b hY, ↓rh_a48_b hY, ↓rh_a49_b hY, ↓rh_a50_b hY, ↓Option.bind_some, ↓jzo_0b, ↓jzo_1b, ↓jzo_bb, Option.toList_some, Option.toList_none, List.cons_append, List.nil_append, ↓reduceIte, jzo_0, jzo_1, jzo_b, jbi_t, jbi_f, i_add, ↓i_ltP, ↓i_ltN, ↓i_eqP, ↓i_eqN, i_lt, i_eq, jbi_0, pt_lt, pf_lt, pt_eq, pf_eq, pt_le, pf_le, Nat.reduceEqDiff, eq_self, true_or, or_true, false_or, or_false, true_and, and_true, false_and, and_false, jE_sw, jE_sw0, ↓jm_eqP, ↓jm_eqN, ↓jm_lP, ↓jm_lN, ↓jm_nP, ↓jm_nN, ↓jm_gP, ↓jm_gN, ↓sn_f_b hg, ↓sn_c_b hg, c1, e4]
        · rw [c2] at e4
          by_cases c3 : zpo Y (j + 1) = 0
          · obtain ⟨g', z5', e1, e2⟩ := M_r1_loop (G := G) hY hV hI (n := n) (q := q) d (j + 1) S m g (some (.int (jm 0))) (by omega) hg hS
            refine ⟨g', z5', e1, ?_⟩
            rw [← e2, e_164_57]
            simp (disch := omega) only [e_164_0, e_164_5, e_164_16, e_164_26, e_164_30, e_164_31, e_164_38, e_164_42, e_164_46, e_164_47, e_164_52, e_164_66, e_164_78, e_164_93, e_164_96, e_164_102, e_164_109, e_164_119, e_164_122, e_164_132, e_164_138, e_164_141, e_164_145, e_164_159, e_164_163, e_164_164, rh_rv hY, ↓rh_in_b hY, ↓rh_n_b hY, ↓rh_f34_b hY, ↓rh_f35_b hY, ↓rh_f36_b hY, ↓rh_f37_b hY, ↓rh_f38_b hY, ↓rh_f39_b hY, ↓rh_f40_b hY, ↓rh_f41_b hY, ↓rh_f42_b hY, ↓rh_f43_b hY, ↓rh_f44_b hY, ↓rh_f45_b hY, ↓rh_f46_b hY, ↓rh_f47_b hY, ↓rh_f48_b hY, ↓rh_f49_b hY, ↓rh_f50_b hY, ↓rh_a34_b hY, ↓rh_b34_b hY, ↓rh_a35_b hY, ↓rh_b35_b hY, ↓rh_a36_b hY, ↓rh_b36_b hY, ↓rh_a37_b hY, ↓rh_b37_b hY, ↓rh_a38_b hY, ↓rh_b38_b hY, ↓rh_a39_b hY, ↓rh_b39_b hY, ↓rh_a40_b hY, ↓rh_b40_b hY, ↓rh_a41_b hY, ↓rh_b41_b hY, ↓rh_a42_b hY, ↓rh_b42_b hY, ↓rh_a43_b hY, ↓rh_b43_b hY, ↓rh_a44_b hY, ↓rh_b44_b hY, ↓rh_a45_b hY, ↓rh_b45_b hY, ↓rh_a46_b hY, ↓rh_a47_b hY, ↓rh_a48_b hY, ↓rh_a49_b hY, ↓rh_a50_b hY, ↓Option.bind_some, ↓jzo_0b, ↓jzo_1b, ↓jzo_bb, Option.toList_some, Option.toList_none, List.cons_append, List.nil_append, ↓reduceIte, jzo_0, jzo_1, jzo_b, jbi_t, jbi_f, i_add, ↓i_ltP, ↓i_ltN, ↓i_eqP, ↓i_eqN, i_lt, i_eq, jbi_0, pt_lt, pf_lt, pt_eq, pf_eq, pt_le, pf_le, Nat.reduceEqDiff, eq_self, true_or, or_true, false_or, or_false, true_and, and_true, false_and, and_false, jE_sw, jE_sw0, ↓jm_eqP, ↓jm_eqN, ↓jm_lP, ↓jm_lN, ↓jm_nP, ↓jm_nN, ↓jm_gP, ↓jm_gN, ↓sn_f_b hg, ↓sn_c_b hg, ↓M_partsOf'_b hY hV, c1, e4, c3]
          · have e5 := hS (zpo Y (j + 1)) (by omega) h3
            have c4 : S (zpo Y (j + 1)) = true := by
              unfold zstep at cs
              rw [decide_eq_true c1, c2, decide_eq_false c3, Bool.true_and, Bool.true_and, Bool.not_false, Bool.true_and] at cs
              cases hq : S (zpo Y (j + 1))
              · rw [hq] at cs; cases cs
              · rfl
            rw [c4] at e5
            obtain ⟨g', z5', e1, e2⟩ := M_r1_loop (G := G) hY hV hI (n := n) (q := q) d (j + 1) S m g (some (.int (jm (zpo Y (j + 1))))) (by omega) hg hS
            refine ⟨g', z5', e1, ?_⟩
            rw [← e2, e_164_57]
            simp (disch := omega) only [e_164_0, e_164_5, e_164_16, e_164_26, e_164_30, e_164_31, e_164_38, e_164_42, e_164_46, e_164_47, e_164_52, e_164_66, e_164_78, e_164_93, e_164_96, e_164_102, e_164_109, e_164_119, e_164_122, e_164_132, e_164_138, e_164_141, e_164_145, e_164_159, e_164_163, e_164_164, rh_rv hY, ↓rh_in_b hY, ↓rh_n_b hY, ↓rh_f34_b hY, ↓rh_f35_b hY, ↓rh_f36_b hY, ↓rh_f37_b hY, ↓rh_f38_b hY, ↓rh_f39_b hY, ↓rh_f40_b hY, ↓rh_f41_b hY, ↓rh_f42_b hY, ↓rh_f43_b hY, ↓rh_f44_b hY, ↓rh_f45_b hY, ↓rh_f46_b hY, ↓rh_f47_b hY, ↓rh_f48_b hY, ↓rh_f49_b hY, ↓rh_f50_b hY, ↓rh_a34_b hY, ↓rh_b34_b hY, ↓rh_a35_b hY, ↓rh_b35_b hY, ↓rh_a36_b hY, ↓rh_b36_b hY, ↓rh_a37_b hY, ↓rh_b37_b hY, ↓rh_a38_b hY, ↓rh_b38_b hY, ↓rh_a39_b hY, ↓rh_b39_b hY, ↓rh_a40_b hY, ↓rh_b40_b hY, ↓rh_a41_b hY, ↓rh_b41_b hY, ↓rh_a42_b hY, ↓rh_b42_b hY, ↓rh_a43_b hY, ↓rh_b43_b hY, ↓rh_a44_b hY, ↓rh_b44_b hY, ↓rh_a45_b hY, ↓rh_b45_b hY, ↓rh_a46_b hY, ↓rh_a47_b hY, ↓rh_a48_b hY, ↓rh_a49_b hY, ↓rh_a50_b hY, ↓Option.bind_some, ↓jzo_0b, ↓jzo_1b, ↓jzo_bb, Option.toList_some, Option.toList_none, List.cons_append, List.nil_append, ↓reduceIte, jzo_0, jzo_1, jzo_b, jbi_t, jbi_f, i_add, ↓i_ltP, ↓i_ltN, ↓i_eqP, ↓i_eqN, i_lt, i_eq, jbi_0, pt_lt, pf_lt, pt_eq, pf_eq, pt_le, pf_le, Nat.reduceEqDiff, eq_self, true_or, or_true, false_or, or_false, true_and, and_true, false_and, and_false, jE_sw, jE_sw0, ↓jm_eqP, ↓jm_eqN, ↓jm_lP, ↓jm_lN, ↓jm_nP, ↓jm_nN, ↓jm_gP, ↓jm_gN, ↓sn_f_b hg, ↓sn_c_b hg, ↓M_partsOf'_b hY hV, c1, e4, e5]
      · obtain ⟨g', z5', e1, e2⟩ := M_r1_loop (G := G) hY hV hI (n := n) (q := q) d (j + 1) S m g z5 (by omega) hg hS
        refine ⟨g', z5', e1, ?_⟩
        rw [← e2, e_164_57]
        simp (disch := omega) only [e_164_0, e_164_5, e_164_16, e_164_26, e_164_30, e_164_31, e_164_38, e_164_42, e_164_46, e_164_47, e_164_52, e_164_66, e_164_78, e_164_93, e_164_96, e_164_102, e_164_109, e_164_119, e_164_122, e_164_132, e_164_138, e_164_141, e_164_145, e_164_159, e_164_163, e_164_164, rh_rv hY, ↓rh_in_b hY, ↓rh_n_b hY, ↓rh_f34_b hY, ↓rh_f35_b hY, ↓rh_f36_b hY, ↓rh_f37_b hY, ↓rh_f38_b hY, ↓rh_f39_b hY, ↓rh_f40_b hY, ↓rh_f41_b hY, ↓rh_f42_b hY, ↓rh_f43_b hY, ↓rh_f44_b hY, ↓rh_f45_b hY, ↓rh_f46_b hY, ↓rh_f47_b hY, ↓rh_f48_b hY, ↓rh_f49_b hY, ↓rh_f50_b hY, ↓rh_a34_b hY, ↓rh_b34_b hY, ↓rh_a35_b hY, ↓rh_b35_b hY, ↓rh_a36_b hY, ↓rh_b36_b hY, ↓rh_a37_b hY, ↓rh_b37_b hY, ↓rh_a38_b hY, ↓rh_b38_b hY, ↓rh_a39_b hY, ↓rh_b39_b hY, ↓rh_a40_b hY, ↓rh_b40_b hY, ↓rh_a41_b hY, ↓rh_b41_b hY, ↓rh_a42_b hY, ↓rh_b42_b hY, ↓rh_a43_b hY, ↓rh_b43_b hY, ↓rh_a44_b hY, ↓rh_b44_b hY, ↓rh_a45_b hY, ↓rh_b45_b hY, ↓rh_a46_b hY, ↓rh_a47_b hY, ↓rh_a48_b hY, ↓rh_a49_b hY, ↓rh_a50_b hY, ↓Option.bind_some, ↓jzo_0b, ↓jzo_1b, ↓jzo_bb, Option.toList_some, Option.toList_none, List.cons_append, List.nil_append, ↓reduceIte, jzo_0, jzo_1, jzo_b, jbi_t, jbi_f, i_add, ↓i_ltP, ↓i_ltN, ↓i_eqP, ↓i_eqN, i_lt, i_eq, jbi_0, pt_lt, pf_lt, pt_eq, pf_eq, pt_le, pf_le, Nat.reduceEqDiff, eq_self, true_or, or_true, false_or, or_false, true_and, and_true, false_and, and_false, jE_sw, jE_sw0, ↓jm_eqP, ↓jm_eqN, ↓jm_lP, ↓jm_lN, ↓jm_nP, ↓jm_nN, ↓jm_gP, ↓jm_gN, c1]
    · rw [cond_true]
      unfold zstep at cs
      rw [Bool.and_eq_true, Bool.and_eq_true, Bool.and_eq_true] at cs
      obtain ⟨c1, c2, c3, c4⟩ := cs
      have c1 := of_decide_eq_true c1
      have h4 := hI (j + 1) (by omega) (by omega) c1
      have e4 := hS (vB Y (j + 1)) h4 (by omega)
      rw [c2] at e4
      have c3 : ¬ zpo Y (j + 1) = 0 := fun q => by rw [decide_eq_true q] at c3; cases c3
      have e5 := hS (zpo Y (j + 1)) (by omega) h3
      have c4 : S (zpo Y (j + 1)) = false := by
        cases hq : S (zpo Y (j + 1))
        · rfl
        · rw [hq] at c4; cases c4
      rw [c4] at e5
      obtain ⟨g', z5', e1, e2⟩ := M_r1_loop (G := G) (jRh_sn hY) hV hI (n := n) (q := q) d (j + 1) (zset S (zpo Y (j + 1))) true (upd g (zpo Y (j + 1) - 1) (Int32.ofNat 1)) (some (.int (jm (zpo Y (j + 1))))) (by omega) (jSn_hs hg) (zag_set (by omega) hS)
      refine ⟨g', z5', e1, ?_⟩
      rw [show hsn (hsn h b (upd g (zpo Y (j + 1) - 1) (Int32.ofNat 1))) b g' = hsn h b g' from hsn_hsn] at e2
      rw [← e2, e_164_57]
      simp (disch := omega) only [e_164_0, e_164_5, e_164_16, e_164_26, e_164_30, e_164_31, e_164_38, e_164_42, e_164_46, e_164_47, e_164_52, e_164_66, e_164_78, e_164_93, e_164_96, e_164_102, e_164_109, e_164_119, e_164_122, e_164_132, e_164_138, e_164_141, e_164_145, e_164_159, e_164_163, e_164_164, rh_rv hY, ↓rh_in_b hY, ↓rh_n_b hY, ↓rh_f34_b hY, ↓rh_f35_b hY, ↓rh_f36_b hY, ↓rh_f37_b hY, ↓rh_f38_b hY, ↓rh_f39_b hY, ↓rh_f40_b hY, ↓rh_f41_b hY, ↓rh_f42_b hY, ↓rh_f43_b hY, ↓rh_f44_b hY, ↓rh_f45_b hY, ↓rh_f46_b hY, ↓rh_f47_b hY, ↓rh_f48_b hY, ↓rh_f49_b hY, ↓rh_f50_b hY, ↓rh_a34_b hY, ↓rh_b34_b hY, ↓rh_a35_b hY, ↓rh_b35_b hY, ↓rh_a36_b hY, ↓rh_b36_b hY, ↓rh_a37_b hY, ↓rh_b37_b hY, ↓rh_a38_b hY, ↓rh_b38_b hY, ↓rh_a39_b hY, ↓rh_b39_b hY, ↓rh_a40_b hY, ↓rh_b40_b hY, ↓rh_a41_b hY, ↓rh_b41_b hY, ↓rh_a42_b hY, ↓rh_b42_b hY, ↓rh_a43_b hY, ↓rh_b43_b hY, ↓rh_a44_b hY, ↓rh_b44_b hY, ↓rh_a45_b hY, ↓rh_b45_b hY, ↓rh_a46_b hY, ↓rh_a47_b hY, ↓rh_a48_b hY, ↓rh_a49_b hY, ↓rh_a50_b hY, ↓Option.bind_some, ↓jzo_0b, ↓jzo_1b, ↓jzo_bb, Option.toList_some, Option.toList_none, List.cons_append, List.nil_append, ↓reduceIte, jzo_0, jzo_1, jzo_b, jbi_t, jbi_f, i_add, ↓i_ltP, ↓i_ltN, ↓i_eqP, ↓i_eqN, i_lt, i_eq, jbi_0, pt_lt, pf_lt, pt_eq, pf_eq, pt_le, pf_le, Nat.reduceEqDiff, eq_self, true_or, or_true, false_or, or_false, true_and, and_true, false_and, and_false, jE_sw, jE_sw0, ↓jm_eqP, ↓jm_eqN, ↓jm_lP, ↓jm_lN, ↓jm_nP, ↓jm_nN, ↓jm_gP, ↓jm_gN, ↓sn_f_b hg, ↓sn_c_b hg, ↓sn_t_b hg, ↓M_partsOf'_b hY hV, c1, e4, e5]
def zun (n : Nat) (S : Nat → Bool) : Nat := jcnt (fun r => !S r) n
theorem zun_set {S : Nat → Bool} {p : Nat} : ∀ n : Nat, (p ≤ n → 1 ≤ p → S p = false → zun n (zset S p) + 1 = zun n S) ∧ (n < p → zun n (zset S p) = zun n S)
  | 0 => ⟨fun h1 h2 _ => by omega, fun _ => rfl⟩
  | n + 1 => by
    have ih := zun_set (S := S) (p := p) n
    unfold zun at ih ⊢
    constructor
    · intro h1 h2 h3
      unfold jcnt
      by_cases c : p = n + 1
      · have e := ih.2 (by omega)
        rw [e]
        have e1 : zset S p (n + 1) = true := by unfold zset; rw [decide_eq_true c.symm]; rfl
        have e2 : S (n + 1) = false := c ▸ h3
        simp only [e1, e2, Bool.not_true, Bool.not_false, cond_true, cond_false, Nat.add_zero]
      · have e := ih.1 (by omega) h2 h3
        have e1 : zset S p (n + 1) = S (n + 1) := by unfold zset; rw [decide_eq_false (fun q => c q.symm)]; rfl
        simp only [e1]
        omega
    · intro h1
      have e := ih.2 (by omega)
      have e1 : zset S p (n + 1) = S (n + 1) := by unfold zset; rw [decide_eq_false (by omega)]; rfl
      unfold jcnt
      simp only [e1]
      omega
theorem zps_un {Y : jY} : ∀ (d j : Nat) (S : Nat → Bool) (m : Bool), zun (vN Y) (zps Y d j S m).1 ≤ zun (vN Y) S ∧ (m = false → (zps Y d j S m).2 = true → zun (vN Y) (zps Y d j S m).1 < zun (vN Y) S)
  | 0, _, S, m => ⟨Nat.le_refl _, fun e e2 => by unfold zps at e2; rw [e] at e2; cases e2⟩
  | d + 1, j, S, m => by
    rw [zps]
    cases cs : zstep Y S (j + 1)
    · rw [cond_false]
      exact zps_un d (j + 1) S m
    · rw [cond_true]
      have ih := zps_un (Y := Y) d (j + 1) (zset S (zpo Y (j + 1))) true
      unfold zstep at cs
      rw [Bool.and_eq_true, Bool.and_eq_true, Bool.and_eq_true] at cs
      obtain ⟨c1, c2, c3, c4⟩ := cs
      have h3 := zpo_le' (Y := Y) (q := j + 1)
      have c3 : ¬ zpo Y (j + 1) = 0 := fun q => by rw [decide_eq_true q] at c3; cases c3
      have c4 : S (zpo Y (j + 1)) = false := by
        cases hq : S (zpo Y (j + 1))
        · rfl
        · rw [hq] at c4; cases c4
      have e := (zun_set (S := S) (p := zpo Y (j + 1)) (vN Y)).1 h3 (by omega) c4
      exact ⟨by omega, fun _ _ => by omega⟩
def zwh (Y : jY) : Nat → (Nat → Bool) → Nat → Bool
  | 0, S => S
  | d + 1, S => cond (zps Y (vN Y) 0 S false).2 (zwh Y d (zps Y (vN Y) 0 S false).1) (zps Y (vN Y) 0 S false).1
theorem zag_congr {n : Nat} {g : Nat → Int32} {S T : Nat → Bool} (h : zag n g S) (e : S = T) : zag n g T := e ▸ h
theorem M_r2_loop {G : jx_Gv} {h : jx_H} {b : Nat} {Y : jY} (hY : jRh h b Y) (hV : vWF Y) (hI : vIn Y) {n q : Nat} (hn1 : 1 ≤ n) (hn2 : n ≤ vN Y) (hb : 1 ≤ vB Y n) (hq1 : 1 ≤ q) (hq2 : q ≤ vN Y) : ∀ (d : Nat) (S : Nat → Bool) (g : Nat → Int32) (z4 z5 : Option Value), zun (vN Y) S < d → jSn h b g → zag (vN Y) g S → ∃ g', jE G (164, 48, [some (.ref b), some (.int (jm n)), some (.int (jm q)), some (.int (jbi true)), z4, z5], [], h) = some (some (.int (jbi (zwh Y d S (vB Y n)))), hsn h b g')
  | 0, S, g, z4, z5, hd, hg, hS => absurd hd (Nat.not_lt_zero _)
  | d + 1, S, g, z4, z5, hd, hg, hS => by
    have h1 := hV.1
    have h2 := hV.2 n hn1 hn2
    obtain ⟨g1, z5', e1, e2⟩ := M_r1_loop (G := G) hY hV hI (n := n) (q := q) (vN Y) 0 S false g z5 (by omega) hg hS
    have e3 := zps_un (Y := Y) (vN Y) 0 S false
    rw [zwh]
    cases c : (zps Y (vN Y) 0 S false).2
    · refine ⟨g1, ?_⟩
      rw [cond_false, e_164_48]
      simp (disch := omega) only [e_164_0, e_164_5, e_164_16, e_164_26, e_164_30, e_164_31, e_164_38, e_164_42, e_164_46, e_164_47, e_164_52, e_164_66, e_164_78, e_164_93, e_164_96, e_164_102, e_164_109, e_164_119, e_164_122, e_164_132, e_164_138, e_164_141, e_164_145, e_164_159, e_164_163, e_164_164, ↓Option.bind_some, ↓jzo_0b, ↓jzo_1b, ↓jzo_bb, Option.toList_some, Option.toList_none, List.cons_append, List.nil_append, ↓reduceIte, jzo_0, jzo_1, jzo_b, jbi_t, jbi_f, i_add, ↓i_ltP, ↓i_ltN, ↓i_eqP, ↓i_eqN, i_lt, i_eq, jbi_0, pt_lt, pf_lt, pt_eq, pf_eq, pt_le, pf_le, Nat.reduceEqDiff, eq_self, true_or, or_true, false_or, or_false, true_and, and_true, false_and, and_false, jE_sw, jE_sw0]
      refine e2.trans ?_
      rw [c, e_164_48]
      have hY' := jRh_sn (f := g1) hY
      have hg' := jSn_hs (f := g1) hg
      have e4 := e1 (vB Y n) hb (by omega)
      simp (disch := omega) only [e_164_0, e_164_5, e_164_16, e_164_26, e_164_30, e_164_31, e_164_38, e_164_42, e_164_46, e_164_47, e_164_52, e_164_66, e_164_78, e_164_93, e_164_96, e_164_102, e_164_109, e_164_119, e_164_122, e_164_132, e_164_138, e_164_141, e_164_145, e_164_159, e_164_163, e_164_164, rh_rv hY', ↓rh_f35_b hY', ↓rh_b35_b hY', ↓Option.bind_some, ↓jzo_0b, ↓jzo_1b, ↓jzo_bb, Option.toList_some, Option.toList_none, List.cons_append, List.nil_append, ↓reduceIte, jzo_0, jzo_1, jzo_b, jbi_t, jbi_f, i_add, ↓i_ltP, ↓i_ltN, ↓i_eqP, ↓i_eqN, i_lt, i_eq, jbi_0, pt_lt, pf_lt, pt_eq, pf_eq, pt_le, pf_le, Nat.reduceEqDiff, eq_self, true_or, or_true, false_or, or_false, true_and, and_true, false_and, and_false, jE_sw, jE_sw0, ↓jm_eqP, ↓jm_eqN, ↓jm_lP, ↓jm_lN, ↓jm_nP, ↓jm_nN, ↓jm_gP, ↓jm_gN, ↓sn_f_b hg', ↓sn_c_b hg', e4]
      cases (zps Y (vN Y) 0 S false).1 (vB Y n) <;> rfl
    · obtain ⟨g2, e5⟩ := M_r2_loop (G := G) (jRh_sn (f := g1) hY) hV hI hn1 hn2 hb hq1 hq2 d (zps Y (vN Y) 0 S false).1 g1 (some (.int (Int32.ofNat (vN Y)))) z5' (by have := e3.2 rfl c; omega) (jSn_hs hg) e1
      refine ⟨g2, ?_⟩
      rw [show hsn (hsn h b g1) b g2 = hsn h b g2 from hsn_hsn] at e5
      rw [cond_true, ← e5, e_164_48]
      rw [c] at e2
      simp (disch := omega) only [e_164_0, e_164_5, e_164_16, e_164_26, e_164_30, e_164_31, e_164_38, e_164_42, e_164_46, e_164_47, e_164_52, e_164_66, e_164_78, e_164_93, e_164_96, e_164_102, e_164_109, e_164_119, e_164_122, e_164_132, e_164_138, e_164_141, e_164_145, e_164_159, e_164_163, e_164_164, ↓Option.bind_some, ↓jzo_0b, ↓jzo_1b, ↓jzo_bb, Option.toList_some, Option.toList_none, List.cons_append, List.nil_append, ↓reduceIte, jzo_0, jzo_1, jzo_b, jbi_t, jbi_f, i_add, ↓i_ltP, ↓i_ltN, ↓i_eqP, ↓i_eqN, i_lt, i_eq, jbi_0, pt_lt, pf_lt, pt_eq, pf_eq, pt_le, pf_le, Nat.reduceEqDiff, eq_self, true_or, or_true, false_or, or_false, true_and, and_true, false_and, and_false, jE_sw, jE_sw0]
      exact e2
def zRI (Y : jY) (n : Nat) : Bool := if zpo Y n = 0 then false else zwh Y (vN Y + 1) (fun r => decide (r = zpo Y n)) (vB Y n)
theorem M_breaksRing {G : jx_Gv} {h : jx_H} {b : Nat} {Y : jY} (hY : jRh h b Y) (hV : vWF Y) (hI : vIn Y) {n : Nat} {g : Nat → Int32} (hg : jSn h b g) (hn1 : 1 ≤ n) (hn2 : n ≤ vN Y) (hb : 1 ≤ vB Y n) : ∃ g', jE G (164, 0, [some (.ref b), some (.int (jm n)), none, none, none, none], [], h) = some (some (.int (jbi (zRI Y n))), hsn h b g') := by
  have h1 := hV.1
  have h3 := zpo_le' (Y := Y) (q := n)
  obtain ⟨g1, e1, e2⟩ := M_r0_loop (G := G) (z3 := none) (z4 := none) hY hV (n := n) h3 (vN Y) 0 g (by omega) hg (fun r r1 r2 => by omega)
  have hY' := jRh_sn (f := g1) hY
  have hg' := jSn_hs (f := g1) hg
  unfold zRI
  by_cases c : zpo Y n = 0
  · refine ⟨g1, ?_⟩
    rw [if_pos c]
    rw [c] at e2
    simp (disch := omega) only [e_164_0, e_164_5, e_164_16, e_164_26, e_164_30, e_164_31, e_164_38, e_164_42, e_164_46, e_164_47, e_164_52, e_164_66, e_164_78, e_164_93, e_164_96, e_164_102, e_164_109, e_164_119, e_164_122, e_164_132, e_164_138, e_164_141, e_164_145, e_164_159, e_164_163, e_164_164, rh_rv hY, ↓rh_in_b hY, ↓rh_n_b hY, ↓rh_f34_b hY, ↓rh_f35_b hY, ↓rh_f36_b hY, ↓rh_f37_b hY, ↓rh_f38_b hY, ↓rh_f39_b hY, ↓rh_f40_b hY, ↓rh_f41_b hY, ↓rh_f42_b hY, ↓rh_f43_b hY, ↓rh_f44_b hY, ↓rh_f45_b hY, ↓rh_f46_b hY, ↓rh_f47_b hY, ↓rh_f48_b hY, ↓rh_f49_b hY, ↓rh_f50_b hY, ↓rh_a34_b hY, ↓rh_b34_b hY, ↓rh_a35_b hY, ↓rh_b35_b hY, ↓rh_a36_b hY, ↓rh_b36_b hY, ↓rh_a37_b hY, ↓rh_b37_b hY, ↓rh_a38_b hY, ↓rh_b38_b hY, ↓rh_a39_b hY, ↓rh_b39_b hY, ↓rh_a40_b hY, ↓rh_b40_b hY, ↓rh_a41_b hY, ↓rh_b41_b hY, ↓rh_a42_b hY, ↓rh_b42_b hY, ↓rh_a43_b hY, ↓rh_b43_b hY, ↓rh_a44_b hY, ↓rh_b44_b hY, ↓rh_a45_b hY, ↓rh_b45_b hY, ↓rh_a46_b hY, ↓rh_a47_b hY, ↓rh_a48_b hY, ↓rh_a49_b hY, ↓rh_a50_b hY, ↓Option.bind_some, ↓jzo_0b, ↓jzo_1b, ↓jzo_bb, Option.toList_some, Option.toList_none, List.cons_append, List.nil_append, ↓reduceIte, jzo_0, jzo_1, jzo_b, jbi_t, jbi_f, i_add, ↓i_ltP, ↓i_ltN, ↓i_eqP, ↓i_eqN, i_lt, i_eq, jbi_0, pt_lt, pf_lt, pt_eq, pf_eq, pt_le, pf_le, Nat.reduceEqDiff, eq_self, true_or, or_true, false_or, or_false, true_and, and_true, false_and, and_false, jE_sw, jE_sw0, ↓jm_eqP, ↓jm_eqN, ↓jm_lP, ↓jm_lN, ↓jm_nP, ↓jm_nN, ↓jm_gP, ↓jm_gN, ↓M_partsOf_b hY hV, c]
    refine e2.trans ?_
    rw [e_164_8]
    simp (disch := omega) only [e_164_0, e_164_5, e_164_16, e_164_26, e_164_30, e_164_31, e_164_38, e_164_42, e_164_46, e_164_47, e_164_52, e_164_66, e_164_78, e_164_93, e_164_96, e_164_102, e_164_109, e_164_119, e_164_122, e_164_132, e_164_138, e_164_141, e_164_145, e_164_159, e_164_163, e_164_164, rh_rv hY', ↓rh_n_b hY', ↓Option.bind_some, ↓jzo_0b, ↓jzo_1b, ↓jzo_bb, Option.toList_some, Option.toList_none, List.cons_append, List.nil_append, ↓reduceIte, jzo_0, jzo_1, jzo_b, jbi_t, jbi_f, i_add, ↓i_ltP, ↓i_ltN, ↓i_eqP, ↓i_eqN, i_lt, i_eq, jbi_0, pt_lt, pf_lt, pt_eq, pf_eq, pt_le, pf_le, Nat.reduceEqDiff, eq_self, true_or, or_true, false_or, or_false, true_and, and_true, false_and, and_false, jE_sw, jE_sw0, ↓jm_eqP, ↓jm_eqN, ↓jm_lP, ↓jm_lN, ↓jm_nP, ↓jm_nN, ↓jm_gP, ↓jm_gN]
    rw [e_164_48]
    simp (disch := omega) only [e_164_0, e_164_5, e_164_16, e_164_26, e_164_30, e_164_31, e_164_38, e_164_42, e_164_46, e_164_47, e_164_52, e_164_66, e_164_78, e_164_93, e_164_96, e_164_102, e_164_109, e_164_119, e_164_122, e_164_132, e_164_138, e_164_141, e_164_145, e_164_159, e_164_163, e_164_164, rh_rv hY', ↓rh_n_b hY', ↓Option.bind_some, ↓jzo_0b, ↓jzo_1b, ↓jzo_bb, Option.toList_some, Option.toList_none, List.cons_append, List.nil_append, ↓reduceIte, jzo_0, jzo_1, jzo_b, jbi_t, jbi_f, i_add, ↓i_ltP, ↓i_ltN, ↓i_eqP, ↓i_eqN, i_lt, i_eq, jbi_0, pt_lt, pf_lt, pt_eq, pf_eq, pt_le, pf_le, Nat.reduceEqDiff, eq_self, true_or, or_true, false_or, or_false, true_and, and_true, false_and, and_false, jE_sw, jE_sw0, ↓jm_eqP, ↓jm_eqN, ↓jm_lP, ↓jm_lN, ↓jm_nP, ↓jm_nN, ↓jm_gP, ↓jm_gN]
  · obtain ⟨g2, e3⟩ := M_r2_loop (G := G) hY' hV hI hn1 hn2 hb (q := zpo Y n) (by omega) h3 (vN Y + 1) (fun r => decide (r = zpo Y n)) g1 none none (Nat.lt_succ_of_le (jcnt_le _ _)) hg' e1
    refine ⟨g2, ?_⟩
    rw [show hsn (hsn h b g1) b g2 = hsn h b g2 from hsn_hsn] at e3
    rw [if_neg c]
    simp (disch := omega) only [e_164_0, e_164_5, e_164_16, e_164_26, e_164_30, e_164_31, e_164_38, e_164_42, e_164_46, e_164_47, e_164_52, e_164_66, e_164_78, e_164_93, e_164_96, e_164_102, e_164_109, e_164_119, e_164_122, e_164_132, e_164_138, e_164_141, e_164_145, e_164_159, e_164_163, e_164_164, rh_rv hY, ↓rh_in_b hY, ↓rh_n_b hY, ↓rh_f34_b hY, ↓rh_f35_b hY, ↓rh_f36_b hY, ↓rh_f37_b hY, ↓rh_f38_b hY, ↓rh_f39_b hY, ↓rh_f40_b hY, ↓rh_f41_b hY, ↓rh_f42_b hY, ↓rh_f43_b hY, ↓rh_f44_b hY, ↓rh_f45_b hY, ↓rh_f46_b hY, ↓rh_f47_b hY, ↓rh_f48_b hY, ↓rh_f49_b hY, ↓rh_f50_b hY, ↓rh_a34_b hY, ↓rh_b34_b hY, ↓rh_a35_b hY, ↓rh_b35_b hY, ↓rh_a36_b hY, ↓rh_b36_b hY, ↓rh_a37_b hY, ↓rh_b37_b hY, ↓rh_a38_b hY, ↓rh_b38_b hY, ↓rh_a39_b hY, ↓rh_b39_b hY, ↓rh_a40_b hY, ↓rh_b40_b hY, ↓rh_a41_b hY, ↓rh_b41_b hY, ↓rh_a42_b hY, ↓rh_b42_b hY, ↓rh_a43_b hY, ↓rh_b43_b hY, ↓rh_a44_b hY, ↓rh_b44_b hY, ↓rh_a45_b hY, ↓rh_b45_b hY, ↓rh_a46_b hY, ↓rh_a47_b hY, ↓rh_a48_b hY, ↓rh_a49_b hY, ↓rh_a50_b hY, ↓Option.bind_some, ↓jzo_0b, ↓jzo_1b, ↓jzo_bb, Option.toList_some, Option.toList_none, List.cons_append, List.nil_append, ↓reduceIte, jzo_0, jzo_1, jzo_b, jbi_t, jbi_f, i_add, ↓i_ltP, ↓i_ltN, ↓i_eqP, ↓i_eqN, i_lt, i_eq, jbi_0, pt_lt, pf_lt, pt_eq, pf_eq, pt_le, pf_le, Nat.reduceEqDiff, eq_self, true_or, or_true, false_or, or_false, true_and, and_true, false_and, and_false, jE_sw, jE_sw0, ↓jm_eqP, ↓jm_eqN, ↓jm_lP, ↓jm_lN, ↓jm_nP, ↓jm_nN, ↓jm_gP, ↓jm_gN, ↓M_partsOf_b hY hV]
    refine e2.trans ?_
    rw [e_164_8, ← e3]
    simp (disch := omega) only [e_164_0, e_164_5, e_164_16, e_164_26, e_164_30, e_164_31, e_164_38, e_164_42, e_164_46, e_164_47, e_164_52, e_164_66, e_164_78, e_164_93, e_164_96, e_164_102, e_164_109, e_164_119, e_164_122, e_164_132, e_164_138, e_164_141, e_164_145, e_164_159, e_164_163, e_164_164, rh_rv hY', ↓rh_n_b hY', ↓Option.bind_some, ↓jzo_0b, ↓jzo_1b, ↓jzo_bb, Option.toList_some, Option.toList_none, List.cons_append, List.nil_append, ↓reduceIte, jzo_0, jzo_1, jzo_b, jbi_t, jbi_f, i_add, ↓i_ltP, ↓i_ltN, ↓i_eqP, ↓i_eqN, i_lt, i_eq, jbi_0, pt_lt, pf_lt, pt_eq, pf_eq, pt_le, pf_le, Nat.reduceEqDiff, eq_self, true_or, or_true, false_or, or_false, true_and, and_true, false_and, and_false, jE_sw, jE_sw0, ↓jm_eqP, ↓jm_eqN, ↓jm_lP, ↓jm_lN, ↓jm_nP, ↓jm_nN, ↓jm_gP, ↓jm_gN]
def zBR (Y : jY) (q : Nat) : Nat → Bool
  | 1 => zGV Y q
  | 2 => zNA Y q
  | 3 => decide (vK Y q = Int32.ofNat 2) && decide (vHi Y q < vLo Y q)
  | 4 => decide (vK Y q = Int32.ofNat 10) && decide (vTr Y q = Int32.ofNat 0)
  | 5 => zWA Y q
  | 6 => decide (vK Y q = Int32.ofNat 12) && zDA Y q 6
  | 7 => decide (vK Y q = Int32.ofNat 12) && zDA Y q 7
  | 8 => decide (vK Y q = Int32.ofNat 12) && zDA Y q 8
  | 9 => decide (vK Y q = Int32.ofNat 12) && zTW Y q
  | _ => decide (vK Y q = Int32.ofNat 11) && zRI Y q
theorem M_breaks {G : jx_Gv} {h : jx_H} {b : Nat} {Y : jY} (hY : jRh h b Y) (hV : vWF Y) (hI : vIn Y) {q : Nat} {g : Nat → Int32} (hg : jSn h b g) (h0 : 1 ≤ q) (hq : q ≤ vN Y) : ∀ rule : Nat, 1 ≤ rule → rule < 11 → ∃ g', jE G (165, 0, [some (.ref b), some (.int (jm q)), some (.int (Int32.ofNat rule)), none], [], h) = some (some (.int (jbi (zBR Y q rule))), hsn h b g')
  | 0, h1, _ => absurd h1 (by omega)
  | 1, _, _ => by
    have h1 := hV.1
    refine ⟨g, ?_⟩
    rw [show hsn h b g = h from hs_id hg.2]
    simp (disch := omega) only [e_165_0, e_165_60, e_165_65, e_165_66, e_165_71, e_165_72, e_165_77, e_165_92, e_165_96, e_165_97, e_165_98, e_165_104, e_165_113, e_165_117, e_165_118, e_165_119, e_165_124, e_165_125, e_165_131, e_165_137, e_165_140, e_165_144, e_165_145, e_165_146, e_165_152, e_165_157, e_165_160, e_165_164, e_165_165, e_165_166, e_165_172, e_165_177, e_165_180, e_165_184, e_165_185, rh_rv hY, ↓rh_in_b hY, ↓rh_n_b hY, ↓rh_f34_b hY, ↓rh_f35_b hY, ↓rh_f36_b hY, ↓rh_f37_b hY, ↓rh_f38_b hY, ↓rh_f39_b hY, ↓rh_f40_b hY, ↓rh_f41_b hY, ↓rh_f42_b hY, ↓rh_f43_b hY, ↓rh_f44_b hY, ↓rh_f45_b hY, ↓rh_f46_b hY, ↓rh_f47_b hY, ↓rh_f48_b hY, ↓rh_f49_b hY, ↓rh_f50_b hY, ↓rh_a34_b hY, ↓rh_b34_b hY, ↓rh_a35_b hY, ↓rh_b35_b hY, ↓rh_a36_b hY, ↓rh_b36_b hY, ↓rh_a37_b hY, ↓rh_b37_b hY, ↓rh_a38_b hY, ↓rh_b38_b hY, ↓rh_a39_b hY, ↓rh_b39_b hY, ↓rh_a40_b hY, ↓rh_b40_b hY, ↓rh_a41_b hY, ↓rh_b41_b hY, ↓rh_a42_b hY, ↓rh_b42_b hY, ↓rh_a43_b hY, ↓rh_b43_b hY, ↓rh_a44_b hY, ↓rh_b44_b hY, ↓rh_a45_b hY, ↓rh_b45_b hY, ↓rh_a46_b hY, ↓rh_a47_b hY, ↓rh_a48_b hY, ↓rh_a49_b hY, ↓rh_a50_b hY, ↓Option.bind_some, ↓jzo_0b, ↓jzo_1b, ↓jzo_bb, Option.toList_some, Option.toList_none, List.cons_append, List.nil_append, ↓reduceIte, jzo_0, jzo_1, jzo_b, jbi_t, jbi_f, i_add, ↓i_ltP, ↓i_ltN, ↓i_eqP, ↓i_eqN, i_lt, i_eq, jbi_0, pt_lt, pf_lt, pt_eq, pf_eq, pt_le, pf_le, Nat.reduceEqDiff, eq_self, true_or, or_true, false_or, or_false, true_and, and_true, false_and, and_false, jE_sw, jE_sw0, ↓M_breaksGiven_b hY hV, zBR]
  | 2, _, _ => by
    have h1 := hV.1
    refine ⟨g, ?_⟩
    rw [show hsn h b g = h from hs_id hg.2]
    simp (disch := omega) only [e_165_0, e_165_60, e_165_65, e_165_66, e_165_71, e_165_72, e_165_77, e_165_92, e_165_96, e_165_97, e_165_98, e_165_104, e_165_113, e_165_117, e_165_118, e_165_119, e_165_124, e_165_125, e_165_131, e_165_137, e_165_140, e_165_144, e_165_145, e_165_146, e_165_152, e_165_157, e_165_160, e_165_164, e_165_165, e_165_166, e_165_172, e_165_177, e_165_180, e_165_184, e_165_185, rh_rv hY, ↓rh_in_b hY, ↓rh_n_b hY, ↓rh_f34_b hY, ↓rh_f35_b hY, ↓rh_f36_b hY, ↓rh_f37_b hY, ↓rh_f38_b hY, ↓rh_f39_b hY, ↓rh_f40_b hY, ↓rh_f41_b hY, ↓rh_f42_b hY, ↓rh_f43_b hY, ↓rh_f44_b hY, ↓rh_f45_b hY, ↓rh_f46_b hY, ↓rh_f47_b hY, ↓rh_f48_b hY, ↓rh_f49_b hY, ↓rh_f50_b hY, ↓rh_a34_b hY, ↓rh_b34_b hY, ↓rh_a35_b hY, ↓rh_b35_b hY, ↓rh_a36_b hY, ↓rh_b36_b hY, ↓rh_a37_b hY, ↓rh_b37_b hY, ↓rh_a38_b hY, ↓rh_b38_b hY, ↓rh_a39_b hY, ↓rh_b39_b hY, ↓rh_a40_b hY, ↓rh_b40_b hY, ↓rh_a41_b hY, ↓rh_b41_b hY, ↓rh_a42_b hY, ↓rh_b42_b hY, ↓rh_a43_b hY, ↓rh_b43_b hY, ↓rh_a44_b hY, ↓rh_b44_b hY, ↓rh_a45_b hY, ↓rh_b45_b hY, ↓rh_a46_b hY, ↓rh_a47_b hY, ↓rh_a48_b hY, ↓rh_a49_b hY, ↓rh_a50_b hY, ↓Option.bind_some, ↓jzo_0b, ↓jzo_1b, ↓jzo_bb, Option.toList_some, Option.toList_none, List.cons_append, List.nil_append, ↓reduceIte, jzo_0, jzo_1, jzo_b, jbi_t, jbi_f, i_add, ↓i_ltP, ↓i_ltN, ↓i_eqP, ↓i_eqN, i_lt, i_eq, jbi_0, pt_lt, pf_lt, pt_eq, pf_eq, pt_le, pf_le, Nat.reduceEqDiff, eq_self, true_or, or_true, false_or, or_false, true_and, and_true, false_and, and_false, jE_sw, jE_sw0, ↓M_breaksNames_b hY hV, zBR]
  | 3, _, _ => by
    have h1 := hV.1
    refine ⟨g, ?_⟩
    rw [show hsn h b g = h from hs_id hg.2]
    by_cases c : vK Y q = Int32.ofNat 2
    · by_cases c2 : vHi Y q < vLo Y q <;> simp (disch := omega) only [e_165_0, e_165_60, e_165_65, e_165_66, e_165_71, e_165_72, e_165_77, e_165_92, e_165_96, e_165_97, e_165_98, e_165_104, e_165_113, e_165_117, e_165_118, e_165_119, e_165_124, e_165_125, e_165_131, e_165_137, e_165_140, e_165_144, e_165_145, e_165_146, e_165_152, e_165_157, e_165_160, e_165_164, e_165_165, e_165_166, e_165_172, e_165_177, e_165_180, e_165_184, e_165_185, rh_rv hY, ↓rh_in_b hY, ↓rh_n_b hY, ↓rh_f34_b hY, ↓rh_f35_b hY, ↓rh_f36_b hY, ↓rh_f37_b hY, ↓rh_f38_b hY, ↓rh_f39_b hY, ↓rh_f40_b hY, ↓rh_f41_b hY, ↓rh_f42_b hY, ↓rh_f43_b hY, ↓rh_f44_b hY, ↓rh_f45_b hY, ↓rh_f46_b hY, ↓rh_f47_b hY, ↓rh_f48_b hY, ↓rh_f49_b hY, ↓rh_f50_b hY, ↓rh_a34_b hY, ↓rh_b34_b hY, ↓rh_a35_b hY, ↓rh_b35_b hY, ↓rh_a36_b hY, ↓rh_b36_b hY, ↓rh_a37_b hY, ↓rh_b37_b hY, ↓rh_a38_b hY, ↓rh_b38_b hY, ↓rh_a39_b hY, ↓rh_b39_b hY, ↓rh_a40_b hY, ↓rh_b40_b hY, ↓rh_a41_b hY, ↓rh_b41_b hY, ↓rh_a42_b hY, ↓rh_b42_b hY, ↓rh_a43_b hY, ↓rh_b43_b hY, ↓rh_a44_b hY, ↓rh_b44_b hY, ↓rh_a45_b hY, ↓rh_b45_b hY, ↓rh_a46_b hY, ↓rh_a47_b hY, ↓rh_a48_b hY, ↓rh_a49_b hY, ↓rh_a50_b hY, ↓Option.bind_some, ↓jzo_0b, ↓jzo_1b, ↓jzo_bb, Option.toList_some, Option.toList_none, List.cons_append, List.nil_append, ↓reduceIte, jzo_0, jzo_1, jzo_b, jbi_t, jbi_f, i_add, ↓i_ltP, ↓i_ltN, ↓i_eqP, ↓i_eqN, i_lt, i_eq, jbi_0, pt_lt, pf_lt, pt_eq, pf_eq, pt_le, pf_le, Nat.reduceEqDiff, eq_self, true_or, or_true, false_or, or_false, true_and, and_true, false_and, and_false, jE_sw, jE_sw0, zBR, c, c2, decide_true, decide_false, Bool.true_and]
    · simp (disch := omega) only [e_165_0, e_165_60, e_165_65, e_165_66, e_165_71, e_165_72, e_165_77, e_165_92, e_165_96, e_165_97, e_165_98, e_165_104, e_165_113, e_165_117, e_165_118, e_165_119, e_165_124, e_165_125, e_165_131, e_165_137, e_165_140, e_165_144, e_165_145, e_165_146, e_165_152, e_165_157, e_165_160, e_165_164, e_165_165, e_165_166, e_165_172, e_165_177, e_165_180, e_165_184, e_165_185, rh_rv hY, ↓rh_in_b hY, ↓rh_n_b hY, ↓rh_f34_b hY, ↓rh_f35_b hY, ↓rh_f36_b hY, ↓rh_f37_b hY, ↓rh_f38_b hY, ↓rh_f39_b hY, ↓rh_f40_b hY, ↓rh_f41_b hY, ↓rh_f42_b hY, ↓rh_f43_b hY, ↓rh_f44_b hY, ↓rh_f45_b hY, ↓rh_f46_b hY, ↓rh_f47_b hY, ↓rh_f48_b hY, ↓rh_f49_b hY, ↓rh_f50_b hY, ↓rh_a34_b hY, ↓rh_b34_b hY, ↓rh_a35_b hY, ↓rh_b35_b hY, ↓rh_a36_b hY, ↓rh_b36_b hY, ↓rh_a37_b hY, ↓rh_b37_b hY, ↓rh_a38_b hY, ↓rh_b38_b hY, ↓rh_a39_b hY, ↓rh_b39_b hY, ↓rh_a40_b hY, ↓rh_b40_b hY, ↓rh_a41_b hY, ↓rh_b41_b hY, ↓rh_a42_b hY, ↓rh_b42_b hY, ↓rh_a43_b hY, ↓rh_b43_b hY, ↓rh_a44_b hY, ↓rh_b44_b hY, ↓rh_a45_b hY, ↓rh_b45_b hY, ↓rh_a46_b hY, ↓rh_a47_b hY, ↓rh_a48_b hY, ↓rh_a49_b hY, ↓rh_a50_b hY, ↓Option.bind_some, ↓jzo_0b, ↓jzo_1b, ↓jzo_bb, Option.toList_some, Option.toList_none, List.cons_append, List.nil_append, ↓reduceIte, jzo_0, jzo_1, jzo_b, jbi_t, jbi_f, i_add, ↓i_ltP, ↓i_ltN, ↓i_eqP, ↓i_eqN, i_lt, i_eq, jbi_0, pt_lt, pf_lt, pt_eq, pf_eq, pt_le, pf_le, Nat.reduceEqDiff, eq_self, true_or, or_true, false_or, or_false, true_and, and_true, false_and, and_false, jE_sw, jE_sw0, zBR, c, decide_false, Bool.false_and]
  | 4, _, _ => by
    have h1 := hV.1
    refine ⟨g, ?_⟩
    rw [show hsn h b g = h from hs_id hg.2]
    by_cases c : vK Y q = Int32.ofNat 10
    · by_cases c2 : vTr Y q = Int32.ofNat 0 <;> simp (disch := omega) only [e_165_0, e_165_60, e_165_65, e_165_66, e_165_71, e_165_72, e_165_77, e_165_92, e_165_96, e_165_97, e_165_98, e_165_104, e_165_113, e_165_117, e_165_118, e_165_119, e_165_124, e_165_125, e_165_131, e_165_137, e_165_140, e_165_144, e_165_145, e_165_146, e_165_152, e_165_157, e_165_160, e_165_164, e_165_165, e_165_166, e_165_172, e_165_177, e_165_180, e_165_184, e_165_185, rh_rv hY, ↓rh_in_b hY, ↓rh_n_b hY, ↓rh_f34_b hY, ↓rh_f35_b hY, ↓rh_f36_b hY, ↓rh_f37_b hY, ↓rh_f38_b hY, ↓rh_f39_b hY, ↓rh_f40_b hY, ↓rh_f41_b hY, ↓rh_f42_b hY, ↓rh_f43_b hY, ↓rh_f44_b hY, ↓rh_f45_b hY, ↓rh_f46_b hY, ↓rh_f47_b hY, ↓rh_f48_b hY, ↓rh_f49_b hY, ↓rh_f50_b hY, ↓rh_a34_b hY, ↓rh_b34_b hY, ↓rh_a35_b hY, ↓rh_b35_b hY, ↓rh_a36_b hY, ↓rh_b36_b hY, ↓rh_a37_b hY, ↓rh_b37_b hY, ↓rh_a38_b hY, ↓rh_b38_b hY, ↓rh_a39_b hY, ↓rh_b39_b hY, ↓rh_a40_b hY, ↓rh_b40_b hY, ↓rh_a41_b hY, ↓rh_b41_b hY, ↓rh_a42_b hY, ↓rh_b42_b hY, ↓rh_a43_b hY, ↓rh_b43_b hY, ↓rh_a44_b hY, ↓rh_b44_b hY, ↓rh_a45_b hY, ↓rh_b45_b hY, ↓rh_a46_b hY, ↓rh_a47_b hY, ↓rh_a48_b hY, ↓rh_a49_b hY, ↓rh_a50_b hY, ↓Option.bind_some, ↓jzo_0b, ↓jzo_1b, ↓jzo_bb, Option.toList_some, Option.toList_none, List.cons_append, List.nil_append, ↓reduceIte, jzo_0, jzo_1, jzo_b, jbi_t, jbi_f, i_add, ↓i_ltP, ↓i_ltN, ↓i_eqP, ↓i_eqN, i_lt, i_eq, jbi_0, pt_lt, pf_lt, pt_eq, pf_eq, pt_le, pf_le, Nat.reduceEqDiff, eq_self, true_or, or_true, false_or, or_false, true_and, and_true, false_and, and_false, jE_sw, jE_sw0, zBR, c, c2, decide_true, decide_false, Bool.true_and]
    · simp (disch := omega) only [e_165_0, e_165_60, e_165_65, e_165_66, e_165_71, e_165_72, e_165_77, e_165_92, e_165_96, e_165_97, e_165_98, e_165_104, e_165_113, e_165_117, e_165_118, e_165_119, e_165_124, e_165_125, e_165_131, e_165_137, e_165_140, e_165_144, e_165_145, e_165_146, e_165_152, e_165_157, e_165_160, e_165_164, e_165_165, e_165_166, e_165_172, e_165_177, e_165_180, e_165_184, e_165_185, rh_rv hY, ↓rh_in_b hY, ↓rh_n_b hY, ↓rh_f34_b hY, ↓rh_f35_b hY, ↓rh_f36_b hY, ↓rh_f37_b hY, ↓rh_f38_b hY, ↓rh_f39_b hY, ↓rh_f40_b hY, ↓rh_f41_b hY, ↓rh_f42_b hY, ↓rh_f43_b hY, ↓rh_f44_b hY, ↓rh_f45_b hY, ↓rh_f46_b hY, ↓rh_f47_b hY, ↓rh_f48_b hY, ↓rh_f49_b hY, ↓rh_f50_b hY, ↓rh_a34_b hY, ↓rh_b34_b hY, ↓rh_a35_b hY, ↓rh_b35_b hY, ↓rh_a36_b hY, ↓rh_b36_b hY, ↓rh_a37_b hY, ↓rh_b37_b hY, ↓rh_a38_b hY, ↓rh_b38_b hY, ↓rh_a39_b hY, ↓rh_b39_b hY, ↓rh_a40_b hY, ↓rh_b40_b hY, ↓rh_a41_b hY, ↓rh_b41_b hY, ↓rh_a42_b hY, ↓rh_b42_b hY, ↓rh_a43_b hY, ↓rh_b43_b hY, ↓rh_a44_b hY, ↓rh_b44_b hY, ↓rh_a45_b hY, ↓rh_b45_b hY, ↓rh_a46_b hY, ↓rh_a47_b hY, ↓rh_a48_b hY, ↓rh_a49_b hY, ↓rh_a50_b hY, ↓Option.bind_some, ↓jzo_0b, ↓jzo_1b, ↓jzo_bb, Option.toList_some, Option.toList_none, List.cons_append, List.nil_append, ↓reduceIte, jzo_0, jzo_1, jzo_b, jbi_t, jbi_f, i_add, ↓i_ltP, ↓i_ltN, ↓i_eqP, ↓i_eqN, i_lt, i_eq, jbi_0, pt_lt, pf_lt, pt_eq, pf_eq, pt_le, pf_le, Nat.reduceEqDiff, eq_self, true_or, or_true, false_or, or_false, true_and, and_true, false_and, and_false, jE_sw, jE_sw0, zBR, c, decide_false, Bool.false_and]
  | 5, _, _ => by
    have h1 := hV.1
    refine ⟨g, ?_⟩
    rw [show hsn h b g = h from hs_id hg.2]
    simp (disch := omega) only [e_165_0, e_165_60, e_165_65, e_165_66, e_165_71, e_165_72, e_165_77, e_165_92, e_165_96, e_165_97, e_165_98, e_165_104, e_165_113, e_165_117, e_165_118, e_165_119, e_165_124, e_165_125, e_165_131, e_165_137, e_165_140, e_165_144, e_165_145, e_165_146, e_165_152, e_165_157, e_165_160, e_165_164, e_165_165, e_165_166, e_165_172, e_165_177, e_165_180, e_165_184, e_165_185, rh_rv hY, ↓rh_in_b hY, ↓rh_n_b hY, ↓rh_f34_b hY, ↓rh_f35_b hY, ↓rh_f36_b hY, ↓rh_f37_b hY, ↓rh_f38_b hY, ↓rh_f39_b hY, ↓rh_f40_b hY, ↓rh_f41_b hY, ↓rh_f42_b hY, ↓rh_f43_b hY, ↓rh_f44_b hY, ↓rh_f45_b hY, ↓rh_f46_b hY, ↓rh_f47_b hY, ↓rh_f48_b hY, ↓rh_f49_b hY, ↓rh_f50_b hY, ↓rh_a34_b hY, ↓rh_b34_b hY, ↓rh_a35_b hY, ↓rh_b35_b hY, ↓rh_a36_b hY, ↓rh_b36_b hY, ↓rh_a37_b hY, ↓rh_b37_b hY, ↓rh_a38_b hY, ↓rh_b38_b hY, ↓rh_a39_b hY, ↓rh_b39_b hY, ↓rh_a40_b hY, ↓rh_b40_b hY, ↓rh_a41_b hY, ↓rh_b41_b hY, ↓rh_a42_b hY, ↓rh_b42_b hY, ↓rh_a43_b hY, ↓rh_b43_b hY, ↓rh_a44_b hY, ↓rh_b44_b hY, ↓rh_a45_b hY, ↓rh_b45_b hY, ↓rh_a46_b hY, ↓rh_a47_b hY, ↓rh_a48_b hY, ↓rh_a49_b hY, ↓rh_a50_b hY, ↓Option.bind_some, ↓jzo_0b, ↓jzo_1b, ↓jzo_bb, Option.toList_some, Option.toList_none, List.cons_append, List.nil_append, ↓reduceIte, jzo_0, jzo_1, jzo_b, jbi_t, jbi_f, i_add, ↓i_ltP, ↓i_ltN, ↓i_eqP, ↓i_eqN, i_lt, i_eq, jbi_0, pt_lt, pf_lt, pt_eq, pf_eq, pt_le, pf_le, Nat.reduceEqDiff, eq_self, true_or, or_true, false_or, or_false, true_and, and_true, false_and, and_false, jE_sw, jE_sw0, ↓M_breaksWays_b hY hV, zBR]
  | 6, _, _ => by
    have h1 := hV.1
    refine ⟨g, ?_⟩
    rw [show hsn h b g = h from hs_id hg.2]
    by_cases c : vK Y q = Int32.ofNat 12
    · cases c2 : zDA Y q 6 <;> simp (disch := omega) only [e_165_0, e_165_60, e_165_65, e_165_66, e_165_71, e_165_72, e_165_77, e_165_92, e_165_96, e_165_97, e_165_98, e_165_104, e_165_113, e_165_117, e_165_118, e_165_119, e_165_124, e_165_125, e_165_131, e_165_137, e_165_140, e_165_144, e_165_145, e_165_146, e_165_152, e_165_157, e_165_160, e_165_164, e_165_165, e_165_166, e_165_172, e_165_177, e_165_180, e_165_184, e_165_185, rh_rv hY, ↓rh_in_b hY, ↓rh_n_b hY, ↓rh_f34_b hY, ↓rh_f35_b hY, ↓rh_f36_b hY, ↓rh_f37_b hY, ↓rh_f38_b hY, ↓rh_f39_b hY, ↓rh_f40_b hY, ↓rh_f41_b hY, ↓rh_f42_b hY, ↓rh_f43_b hY, ↓rh_f44_b hY, ↓rh_f45_b hY, ↓rh_f46_b hY, ↓rh_f47_b hY, ↓rh_f48_b hY, ↓rh_f49_b hY, ↓rh_f50_b hY, ↓rh_a34_b hY, ↓rh_b34_b hY, ↓rh_a35_b hY, ↓rh_b35_b hY, ↓rh_a36_b hY, ↓rh_b36_b hY, ↓rh_a37_b hY, ↓rh_b37_b hY, ↓rh_a38_b hY, ↓rh_b38_b hY, ↓rh_a39_b hY, ↓rh_b39_b hY, ↓rh_a40_b hY, ↓rh_b40_b hY, ↓rh_a41_b hY, ↓rh_b41_b hY, ↓rh_a42_b hY, ↓rh_b42_b hY, ↓rh_a43_b hY, ↓rh_b43_b hY, ↓rh_a44_b hY, ↓rh_b44_b hY, ↓rh_a45_b hY, ↓rh_b45_b hY, ↓rh_a46_b hY, ↓rh_a47_b hY, ↓rh_a48_b hY, ↓rh_a49_b hY, ↓rh_a50_b hY, ↓Option.bind_some, ↓jzo_0b, ↓jzo_1b, ↓jzo_bb, Option.toList_some, Option.toList_none, List.cons_append, List.nil_append, ↓reduceIte, jzo_0, jzo_1, jzo_b, jbi_t, jbi_f, i_add, ↓i_ltP, ↓i_ltN, ↓i_eqP, ↓i_eqN, i_lt, i_eq, jbi_0, pt_lt, pf_lt, pt_eq, pf_eq, pt_le, pf_le, Nat.reduceEqDiff, eq_self, true_or, or_true, false_or, or_false, true_and, and_true, false_and, and_false, jE_sw, jE_sw0, ↓M_breaksData_b hY hV, zBR, c, c2, decide_true, decide_false, Bool.true_and]
    · simp (disch := omega) only [e_165_0, e_165_60, e_165_65, e_165_66, e_165_71, e_165_72, e_165_77, e_165_92, e_165_96, e_165_97, e_165_98, e_165_104, e_165_113, e_165_117, e_165_118, e_165_119, e_165_124, e_165_125, e_165_131, e_165_137, e_165_140, e_165_144, e_165_145, e_165_146, e_165_152, e_165_157, e_165_160, e_165_164, e_165_165, e_165_166, e_165_172, e_165_177, e_165_180, e_165_184, e_165_185, rh_rv hY, ↓rh_in_b hY, ↓rh_n_b hY, ↓rh_f34_b hY, ↓rh_f35_b hY, ↓rh_f36_b hY, ↓rh_f37_b hY, ↓rh_f38_b hY, ↓rh_f39_b hY, ↓rh_f40_b hY, ↓rh_f41_b hY, ↓rh_f42_b hY, ↓rh_f43_b hY, ↓rh_f44_b hY, ↓rh_f45_b hY, ↓rh_f46_b hY, ↓rh_f47_b hY, ↓rh_f48_b hY, ↓rh_f49_b hY, ↓rh_f50_b hY, ↓rh_a34_b hY, ↓rh_b34_b hY, ↓rh_a35_b hY, ↓rh_b35_b hY, ↓rh_a36_b hY, ↓rh_b36_b hY, ↓rh_a37_b hY, ↓rh_b37_b hY, ↓rh_a38_b hY, ↓rh_b38_b hY, ↓rh_a39_b hY, ↓rh_b39_b hY, ↓rh_a40_b hY, ↓rh_b40_b hY, ↓rh_a41_b hY, ↓rh_b41_b hY, ↓rh_a42_b hY, ↓rh_b42_b hY, ↓rh_a43_b hY, ↓rh_b43_b hY, ↓rh_a44_b hY, ↓rh_b44_b hY, ↓rh_a45_b hY, ↓rh_b45_b hY, ↓rh_a46_b hY, ↓rh_a47_b hY, ↓rh_a48_b hY, ↓rh_a49_b hY, ↓rh_a50_b hY, ↓Option.bind_some, ↓jzo_0b, ↓jzo_1b, ↓jzo_bb, Option.toList_some, Option.toList_none, List.cons_append, List.nil_append, ↓reduceIte, jzo_0, jzo_1, jzo_b, jbi_t, jbi_f, i_add, ↓i_ltP, ↓i_ltN, ↓i_eqP, ↓i_eqN, i_lt, i_eq, jbi_0, pt_lt, pf_lt, pt_eq, pf_eq, pt_le, pf_le, Nat.reduceEqDiff, eq_self, true_or, or_true, false_or, or_false, true_and, and_true, false_and, and_false, jE_sw, jE_sw0, zBR, c, decide_false, Bool.false_and]
  | 7, _, _ => by
    have h1 := hV.1
    refine ⟨g, ?_⟩
    rw [show hsn h b g = h from hs_id hg.2]
    by_cases c : vK Y q = Int32.ofNat 12
    · cases c2 : zDA Y q 7 <;> simp (disch := omega) only [e_165_0, e_165_60, e_165_65, e_165_66, e_165_71, e_165_72, e_165_77, e_165_92, e_165_96, e_165_97, e_165_98, e_165_104, e_165_113, e_165_117, e_165_118, e_165_119, e_165_124, e_165_125, e_165_131, e_165_137, e_165_140, e_165_144, e_165_145, e_165_146, e_165_152, e_165_157, e_165_160, e_165_164, e_165_165, e_165_166, e_165_172, e_165_177, e_165_180, e_165_184, e_165_185, rh_rv hY, ↓rh_in_b hY, ↓rh_n_b hY, ↓rh_f34_b hY, ↓rh_f35_b hY, ↓rh_f36_b hY, ↓rh_f37_b hY, ↓rh_f38_b hY, ↓rh_f39_b hY, ↓rh_f40_b hY, ↓rh_f41_b hY, ↓rh_f42_b hY, ↓rh_f43_b hY, ↓rh_f44_b hY, ↓rh_f45_b hY, ↓rh_f46_b hY, ↓rh_f47_b hY, ↓rh_f48_b hY, ↓rh_f49_b hY, ↓rh_f50_b hY, ↓rh_a34_b hY, ↓rh_b34_b hY, ↓rh_a35_b hY, ↓rh_b35_b hY, ↓rh_a36_b hY, ↓rh_b36_b hY, ↓rh_a37_b hY, ↓rh_b37_b hY, ↓rh_a38_b hY, ↓rh_b38_b hY, ↓rh_a39_b hY, ↓rh_b39_b hY, ↓rh_a40_b hY, ↓rh_b40_b hY, ↓rh_a41_b hY, ↓rh_b41_b hY, ↓rh_a42_b hY, ↓rh_b42_b hY, ↓rh_a43_b hY, ↓rh_b43_b hY, ↓rh_a44_b hY, ↓rh_b44_b hY, ↓rh_a45_b hY, ↓rh_b45_b hY, ↓rh_a46_b hY, ↓rh_a47_b hY, ↓rh_a48_b hY, ↓rh_a49_b hY, ↓rh_a50_b hY, ↓Option.bind_some, ↓jzo_0b, ↓jzo_1b, ↓jzo_bb, Option.toList_some, Option.toList_none, List.cons_append, List.nil_append, ↓reduceIte, jzo_0, jzo_1, jzo_b, jbi_t, jbi_f, i_add, ↓i_ltP, ↓i_ltN, ↓i_eqP, ↓i_eqN, i_lt, i_eq, jbi_0, pt_lt, pf_lt, pt_eq, pf_eq, pt_le, pf_le, Nat.reduceEqDiff, eq_self, true_or, or_true, false_or, or_false, true_and, and_true, false_and, and_false, jE_sw, jE_sw0, ↓M_breaksData_b hY hV, zBR, c, c2, decide_true, decide_false, Bool.true_and]
    · simp (disch := omega) only [e_165_0, e_165_60, e_165_65, e_165_66, e_165_71, e_165_72, e_165_77, e_165_92, e_165_96, e_165_97, e_165_98, e_165_104, e_165_113, e_165_117, e_165_118, e_165_119, e_165_124, e_165_125, e_165_131, e_165_137, e_165_140, e_165_144, e_165_145, e_165_146, e_165_152, e_165_157, e_165_160, e_165_164, e_165_165, e_165_166, e_165_172, e_165_177, e_165_180, e_165_184, e_165_185, rh_rv hY, ↓rh_in_b hY, ↓rh_n_b hY, ↓rh_f34_b hY, ↓rh_f35_b hY, ↓rh_f36_b hY, ↓rh_f37_b hY, ↓rh_f38_b hY, ↓rh_f39_b hY, ↓rh_f40_b hY, ↓rh_f41_b hY, ↓rh_f42_b hY, ↓rh_f43_b hY, ↓rh_f44_b hY, ↓rh_f45_b hY, ↓rh_f46_b hY, ↓rh_f47_b hY, ↓rh_f48_b hY, ↓rh_f49_b hY, ↓rh_f50_b hY, ↓rh_a34_b hY, ↓rh_b34_b hY, ↓rh_a35_b hY, ↓rh_b35_b hY, ↓rh_a36_b hY, ↓rh_b36_b hY, ↓rh_a37_b hY, ↓rh_b37_b hY, ↓rh_a38_b hY, ↓rh_b38_b hY, ↓rh_a39_b hY, ↓rh_b39_b hY, ↓rh_a40_b hY, ↓rh_b40_b hY, ↓rh_a41_b hY, ↓rh_b41_b hY, ↓rh_a42_b hY, ↓rh_b42_b hY, ↓rh_a43_b hY, ↓rh_b43_b hY, ↓rh_a44_b hY, ↓rh_b44_b hY, ↓rh_a45_b hY, ↓rh_b45_b hY, ↓rh_a46_b hY, ↓rh_a47_b hY, ↓rh_a48_b hY, ↓rh_a49_b hY, ↓rh_a50_b hY, ↓Option.bind_some, ↓jzo_0b, ↓jzo_1b, ↓jzo_bb, Option.toList_some, Option.toList_none, List.cons_append, List.nil_append, ↓reduceIte, jzo_0, jzo_1, jzo_b, jbi_t, jbi_f, i_add, ↓i_ltP, ↓i_ltN, ↓i_eqP, ↓i_eqN, i_lt, i_eq, jbi_0, pt_lt, pf_lt, pt_eq, pf_eq, pt_le, pf_le, Nat.reduceEqDiff, eq_self, true_or, or_true, false_or, or_false, true_and, and_true, false_and, and_false, jE_sw, jE_sw0, zBR, c, decide_false, Bool.false_and]
  | 8, _, _ => by
    have h1 := hV.1
    refine ⟨g, ?_⟩
    rw [show hsn h b g = h from hs_id hg.2]
    by_cases c : vK Y q = Int32.ofNat 12
    · cases c2 : zDA Y q 8 <;> simp (disch := omega) only [e_165_0, e_165_60, e_165_65, e_165_66, e_165_71, e_165_72, e_165_77, e_165_92, e_165_96, e_165_97, e_165_98, e_165_104, e_165_113, e_165_117, e_165_118, e_165_119, e_165_124, e_165_125, e_165_131, e_165_137, e_165_140, e_165_144, e_165_145, e_165_146, e_165_152, e_165_157, e_165_160, e_165_164, e_165_165, e_165_166, e_165_172, e_165_177, e_165_180, e_165_184, e_165_185, rh_rv hY, ↓rh_in_b hY, ↓rh_n_b hY, ↓rh_f34_b hY, ↓rh_f35_b hY, ↓rh_f36_b hY, ↓rh_f37_b hY, ↓rh_f38_b hY, ↓rh_f39_b hY, ↓rh_f40_b hY, ↓rh_f41_b hY, ↓rh_f42_b hY, ↓rh_f43_b hY, ↓rh_f44_b hY, ↓rh_f45_b hY, ↓rh_f46_b hY, ↓rh_f47_b hY, ↓rh_f48_b hY, ↓rh_f49_b hY, ↓rh_f50_b hY, ↓rh_a34_b hY, ↓rh_b34_b hY, ↓rh_a35_b hY, ↓rh_b35_b hY, ↓rh_a36_b hY, ↓rh_b36_b hY, ↓rh_a37_b hY, ↓rh_b37_b hY, ↓rh_a38_b hY, ↓rh_b38_b hY, ↓rh_a39_b hY, ↓rh_b39_b hY, ↓rh_a40_b hY, ↓rh_b40_b hY, ↓rh_a41_b hY, ↓rh_b41_b hY, ↓rh_a42_b hY, ↓rh_b42_b hY, ↓rh_a43_b hY, ↓rh_b43_b hY, ↓rh_a44_b hY, ↓rh_b44_b hY, ↓rh_a45_b hY, ↓rh_b45_b hY, ↓rh_a46_b hY, ↓rh_a47_b hY, ↓rh_a48_b hY, ↓rh_a49_b hY, ↓rh_a50_b hY, ↓Option.bind_some, ↓jzo_0b, ↓jzo_1b, ↓jzo_bb, Option.toList_some, Option.toList_none, List.cons_append, List.nil_append, ↓reduceIte, jzo_0, jzo_1, jzo_b, jbi_t, jbi_f, i_add, ↓i_ltP, ↓i_ltN, ↓i_eqP, ↓i_eqN, i_lt, i_eq, jbi_0, pt_lt, pf_lt, pt_eq, pf_eq, pt_le, pf_le, Nat.reduceEqDiff, eq_self, true_or, or_true, false_or, or_false, true_and, and_true, false_and, and_false, jE_sw, jE_sw0, ↓M_breaksData_b hY hV, zBR, c, c2, decide_true, decide_false, Bool.true_and]
    · simp (disch := omega) only [e_165_0, e_165_60, e_165_65, e_165_66, e_165_71, e_165_72, e_165_77, e_165_92, e_165_96, e_165_97, e_165_98, e_165_104, e_165_113, e_165_117, e_165_118, e_165_119, e_165_124, e_165_125, e_165_131, e_165_137, e_165_140, e_165_144, e_165_145, e_165_146, e_165_152, e_165_157, e_165_160, e_165_164, e_165_165, e_165_166, e_165_172, e_165_177, e_165_180, e_165_184, e_165_185, rh_rv hY, ↓rh_in_b hY, ↓rh_n_b hY, ↓rh_f34_b hY, ↓rh_f35_b hY, ↓rh_f36_b hY, ↓rh_f37_b hY, ↓rh_f38_b hY, ↓rh_f39_b hY, ↓rh_f40_b hY, ↓rh_f41_b hY, ↓rh_f42_b hY, ↓rh_f43_b hY, ↓rh_f44_b hY, ↓rh_f45_b hY, ↓rh_f46_b hY, ↓rh_f47_b hY, ↓rh_f48_b hY, ↓rh_f49_b hY, ↓rh_f50_b hY, ↓rh_a34_b hY, ↓rh_b34_b hY, ↓rh_a35_b hY, ↓rh_b35_b hY, ↓rh_a36_b hY, ↓rh_b36_b hY, ↓rh_a37_b hY, ↓rh_b37_b hY, ↓rh_a38_b hY, ↓rh_b38_b hY, ↓rh_a39_b hY, ↓rh_b39_b hY, ↓rh_a40_b hY, ↓rh_b40_b hY, ↓rh_a41_b hY, ↓rh_b41_b hY, ↓rh_a42_b hY, ↓rh_b42_b hY, ↓rh_a43_b hY, ↓rh_b43_b hY, ↓rh_a44_b hY, ↓rh_b44_b hY, ↓rh_a45_b hY, ↓rh_b45_b hY, ↓rh_a46_b hY, ↓rh_a47_b hY, ↓rh_a48_b hY, ↓rh_a49_b hY, ↓rh_a50_b hY, ↓Option.bind_some, ↓jzo_0b, ↓jzo_1b, ↓jzo_bb, Option.toList_some, Option.toList_none, List.cons_append, List.nil_append, ↓reduceIte, jzo_0, jzo_1, jzo_b, jbi_t, jbi_f, i_add, ↓i_ltP, ↓i_ltN, ↓i_eqP, ↓i_eqN, i_lt, i_eq, jbi_0, pt_lt, pf_lt, pt_eq, pf_eq, pt_le, pf_le, Nat.reduceEqDiff, eq_self, true_or, or_true, false_or, or_false, true_and, and_true, false_and, and_false, jE_sw, jE_sw0, zBR, c, decide_false, Bool.false_and]
  | 9, _, _ => by
    have h1 := hV.1
    refine ⟨g, ?_⟩
    rw [show hsn h b g = h from hs_id hg.2]
    by_cases c : vK Y q = Int32.ofNat 12
    · cases c2 : zTW Y q <;> simp (disch := omega) only [e_165_0, e_165_60, e_165_65, e_165_66, e_165_71, e_165_72, e_165_77, e_165_92, e_165_96, e_165_97, e_165_98, e_165_104, e_165_113, e_165_117, e_165_118, e_165_119, e_165_124, e_165_125, e_165_131, e_165_137, e_165_140, e_165_144, e_165_145, e_165_146, e_165_152, e_165_157, e_165_160, e_165_164, e_165_165, e_165_166, e_165_172, e_165_177, e_165_180, e_165_184, e_165_185, rh_rv hY, ↓rh_in_b hY, ↓rh_n_b hY, ↓rh_f34_b hY, ↓rh_f35_b hY, ↓rh_f36_b hY, ↓rh_f37_b hY, ↓rh_f38_b hY, ↓rh_f39_b hY, ↓rh_f40_b hY, ↓rh_f41_b hY, ↓rh_f42_b hY, ↓rh_f43_b hY, ↓rh_f44_b hY, ↓rh_f45_b hY, ↓rh_f46_b hY, ↓rh_f47_b hY, ↓rh_f48_b hY, ↓rh_f49_b hY, ↓rh_f50_b hY, ↓rh_a34_b hY, ↓rh_b34_b hY, ↓rh_a35_b hY, ↓rh_b35_b hY, ↓rh_a36_b hY, ↓rh_b36_b hY, ↓rh_a37_b hY, ↓rh_b37_b hY, ↓rh_a38_b hY, ↓rh_b38_b hY, ↓rh_a39_b hY, ↓rh_b39_b hY, ↓rh_a40_b hY, ↓rh_b40_b hY, ↓rh_a41_b hY, ↓rh_b41_b hY, ↓rh_a42_b hY, ↓rh_b42_b hY, ↓rh_a43_b hY, ↓rh_b43_b hY, ↓rh_a44_b hY, ↓rh_b44_b hY, ↓rh_a45_b hY, ↓rh_b45_b hY, ↓rh_a46_b hY, ↓rh_a47_b hY, ↓rh_a48_b hY, ↓rh_a49_b hY, ↓rh_a50_b hY, ↓Option.bind_some, ↓jzo_0b, ↓jzo_1b, ↓jzo_bb, Option.toList_some, Option.toList_none, List.cons_append, List.nil_append, ↓reduceIte, jzo_0, jzo_1, jzo_b, jbi_t, jbi_f, i_add, ↓i_ltP, ↓i_ltN, ↓i_eqP, ↓i_eqN, i_lt, i_eq, jbi_0, pt_lt, pf_lt, pt_eq, pf_eq, pt_le, pf_le, Nat.reduceEqDiff, eq_self, true_or, or_true, false_or, or_false, true_and, and_true, false_and, and_false, jE_sw, jE_sw0, ↓M_breaksTwice_b hY hV, zBR, c, c2, decide_true, decide_false, Bool.true_and]
    · simp (disch := omega) only [e_165_0, e_165_60, e_165_65, e_165_66, e_165_71, e_165_72, e_165_77, e_165_92, e_165_96, e_165_97, e_165_98, e_165_104, e_165_113, e_165_117, e_165_118, e_165_119, e_165_124, e_165_125, e_165_131, e_165_137, e_165_140, e_165_144, e_165_145, e_165_146, e_165_152, e_165_157, e_165_160, e_165_164, e_165_165, e_165_166, e_165_172, e_165_177, e_165_180, e_165_184, e_165_185, rh_rv hY, ↓rh_in_b hY, ↓rh_n_b hY, ↓rh_f34_b hY, ↓rh_f35_b hY, ↓rh_f36_b hY, ↓rh_f37_b hY, ↓rh_f38_b hY, ↓rh_f39_b hY, ↓rh_f40_b hY, ↓rh_f41_b hY, ↓rh_f42_b hY, ↓rh_f43_b hY, ↓rh_f44_b hY, ↓rh_f45_b hY, ↓rh_f46_b hY, ↓rh_f47_b hY, ↓rh_f48_b hY, ↓rh_f49_b hY, ↓rh_f50_b hY, ↓rh_a34_b hY, ↓rh_b34_b hY, ↓rh_a35_b hY, ↓rh_b35_b hY, ↓rh_a36_b hY, ↓rh_b36_b hY, ↓rh_a37_b hY, ↓rh_b37_b hY, ↓rh_a38_b hY, ↓rh_b38_b hY, ↓rh_a39_b hY, ↓rh_b39_b hY, ↓rh_a40_b hY, ↓rh_b40_b hY, ↓rh_a41_b hY, ↓rh_b41_b hY, ↓rh_a42_b hY, ↓rh_b42_b hY, ↓rh_a43_b hY, ↓rh_b43_b hY, ↓rh_a44_b hY, ↓rh_b44_b hY, ↓rh_a45_b hY, ↓rh_b45_b hY, ↓rh_a46_b hY, ↓rh_a47_b hY, ↓rh_a48_b hY, ↓rh_a49_b hY, ↓rh_a50_b hY, ↓Option.bind_some, ↓jzo_0b, ↓jzo_1b, ↓jzo_bb, Option.toList_some, Option.toList_none, List.cons_append, List.nil_append, ↓reduceIte, jzo_0, jzo_1, jzo_b, jbi_t, jbi_f, i_add, ↓i_ltP, ↓i_ltN, ↓i_eqP, ↓i_eqN, i_lt, i_eq, jbi_0, pt_lt, pf_lt, pt_eq, pf_eq, pt_le, pf_le, Nat.reduceEqDiff, eq_self, true_or, or_true, false_or, or_false, true_and, and_true, false_and, and_false, jE_sw, jE_sw0, zBR, c, decide_false, Bool.false_and]
  | 10, _, _ => by
    have h1 := hV.1
    by_cases c : vK Y q = Int32.ofNat 11
    · obtain ⟨g', e⟩ := M_breaksRing (G := G) hY hV hI hg h0 hq (hI q h0 hq c)
      refine ⟨g', ?_⟩
      have e' := fun {β : Type} {f : jx_R → Option β} => bnd (f := f) e
      cases c2 : zRI Y q
      · rw [c2] at e e'
        simp (disch := omega) only [e_165_0, e_165_60, e_165_65, e_165_66, e_165_71, e_165_72, e_165_77, e_165_92, e_165_96, e_165_97, e_165_98, e_165_104, e_165_113, e_165_117, e_165_118, e_165_119, e_165_124, e_165_125, e_165_131, e_165_137, e_165_140, e_165_144, e_165_145, e_165_146, e_165_152, e_165_157, e_165_160, e_165_164, e_165_165, e_165_166, e_165_172, e_165_177, e_165_180, e_165_184, e_165_185, rh_rv hY, ↓rh_in_b hY, ↓rh_n_b hY, ↓rh_f34_b hY, ↓rh_f35_b hY, ↓rh_f36_b hY, ↓rh_f37_b hY, ↓rh_f38_b hY, ↓rh_f39_b hY, ↓rh_f40_b hY, ↓rh_f41_b hY, ↓rh_f42_b hY, ↓rh_f43_b hY, ↓rh_f44_b hY, ↓rh_f45_b hY, ↓rh_f46_b hY, ↓rh_f47_b hY, ↓rh_f48_b hY, ↓rh_f49_b hY, ↓rh_f50_b hY, ↓rh_a34_b hY, ↓rh_b34_b hY, ↓rh_a35_b hY, ↓rh_b35_b hY, ↓rh_a36_b hY, ↓rh_b36_b hY, ↓rh_a37_b hY, ↓rh_b37_b hY, ↓rh_a38_b hY, ↓rh_b38_b hY, ↓rh_a39_b hY, ↓rh_b39_b hY, ↓rh_a40_b hY, ↓rh_b40_b hY, ↓rh_a41_b hY, ↓rh_b41_b hY, ↓rh_a42_b hY, ↓rh_b42_b hY, ↓rh_a43_b hY, ↓rh_b43_b hY, ↓rh_a44_b hY, ↓rh_b44_b hY, ↓rh_a45_b hY, ↓rh_b45_b hY, ↓rh_a46_b hY, ↓rh_a47_b hY, ↓rh_a48_b hY, ↓rh_a49_b hY, ↓rh_a50_b hY, ↓Option.bind_some, ↓jzo_0b, ↓jzo_1b, ↓jzo_bb, Option.toList_some, Option.toList_none, List.cons_append, List.nil_append, ↓reduceIte, jzo_0, jzo_1, jzo_b, jbi_t, jbi_f, i_add, ↓i_ltP, ↓i_ltN, ↓i_eqP, ↓i_eqN, i_lt, i_eq, jbi_0, pt_lt, pf_lt, pt_eq, pf_eq, pt_le, pf_le, Nat.reduceEqDiff, eq_self, true_or, or_true, false_or, or_false, true_and, and_true, false_and, and_false, jE_sw, jE_sw0, ↓e', zBR, c, c2, decide_true, Bool.true_and]
      · rw [c2] at e e'
        simp (disch := omega) only [e_165_0, e_165_60, e_165_65, e_165_66, e_165_71, e_165_72, e_165_77, e_165_92, e_165_96, e_165_97, e_165_98, e_165_104, e_165_113, e_165_117, e_165_118, e_165_119, e_165_124, e_165_125, e_165_131, e_165_137, e_165_140, e_165_144, e_165_145, e_165_146, e_165_152, e_165_157, e_165_160, e_165_164, e_165_165, e_165_166, e_165_172, e_165_177, e_165_180, e_165_184, e_165_185, rh_rv hY, ↓rh_in_b hY, ↓rh_n_b hY, ↓rh_f34_b hY, ↓rh_f35_b hY, ↓rh_f36_b hY, ↓rh_f37_b hY, ↓rh_f38_b hY, ↓rh_f39_b hY, ↓rh_f40_b hY, ↓rh_f41_b hY, ↓rh_f42_b hY, ↓rh_f43_b hY, ↓rh_f44_b hY, ↓rh_f45_b hY, ↓rh_f46_b hY, ↓rh_f47_b hY, ↓rh_f48_b hY, ↓rh_f49_b hY, ↓rh_f50_b hY, ↓rh_a34_b hY, ↓rh_b34_b hY, ↓rh_a35_b hY, ↓rh_b35_b hY, ↓rh_a36_b hY, ↓rh_b36_b hY, ↓rh_a37_b hY, ↓rh_b37_b hY, ↓rh_a38_b hY, ↓rh_b38_b hY, ↓rh_a39_b hY, ↓rh_b39_b hY, ↓rh_a40_b hY, ↓rh_b40_b hY, ↓rh_a41_b hY, ↓rh_b41_b hY, ↓rh_a42_b hY, ↓rh_b42_b hY, ↓rh_a43_b hY, ↓rh_b43_b hY, ↓rh_a44_b hY, ↓rh_b44_b hY, ↓rh_a45_b hY, ↓rh_b45_b hY, ↓rh_a46_b hY, ↓rh_a47_b hY, ↓rh_a48_b hY, ↓rh_a49_b hY, ↓rh_a50_b hY, ↓Option.bind_some, ↓jzo_0b, ↓jzo_1b, ↓jzo_bb, Option.toList_some, Option.toList_none, List.cons_append, List.nil_append, ↓reduceIte, jzo_0, jzo_1, jzo_b, jbi_t, jbi_f, i_add, ↓i_ltP, ↓i_ltN, ↓i_eqP, ↓i_eqN, i_lt, i_eq, jbi_0, pt_lt, pf_lt, pt_eq, pf_eq, pt_le, pf_le, Nat.reduceEqDiff, eq_self, true_or, or_true, false_or, or_false, true_and, and_true, false_and, and_false, jE_sw, jE_sw0, ↓e', zBR, c, c2, decide_true, Bool.true_and]
    · refine ⟨g, ?_⟩
      rw [show hsn h b g = h from hs_id hg.2]
      simp (disch := omega) only [e_165_0, e_165_60, e_165_65, e_165_66, e_165_71, e_165_72, e_165_77, e_165_92, e_165_96, e_165_97, e_165_98, e_165_104, e_165_113, e_165_117, e_165_118, e_165_119, e_165_124, e_165_125, e_165_131, e_165_137, e_165_140, e_165_144, e_165_145, e_165_146, e_165_152, e_165_157, e_165_160, e_165_164, e_165_165, e_165_166, e_165_172, e_165_177, e_165_180, e_165_184, e_165_185, rh_rv hY, ↓rh_in_b hY, ↓rh_n_b hY, ↓rh_f34_b hY, ↓rh_f35_b hY, ↓rh_f36_b hY, ↓rh_f37_b hY, ↓rh_f38_b hY, ↓rh_f39_b hY, ↓rh_f40_b hY, ↓rh_f41_b hY, ↓rh_f42_b hY, ↓rh_f43_b hY, ↓rh_f44_b hY, ↓rh_f45_b hY, ↓rh_f46_b hY, ↓rh_f47_b hY, ↓rh_f48_b hY, ↓rh_f49_b hY, ↓rh_f50_b hY, ↓rh_a34_b hY, ↓rh_b34_b hY, ↓rh_a35_b hY, ↓rh_b35_b hY, ↓rh_a36_b hY, ↓rh_b36_b hY, ↓rh_a37_b hY, ↓rh_b37_b hY, ↓rh_a38_b hY, ↓rh_b38_b hY, ↓rh_a39_b hY, ↓rh_b39_b hY, ↓rh_a40_b hY, ↓rh_b40_b hY, ↓rh_a41_b hY, ↓rh_b41_b hY, ↓rh_a42_b hY, ↓rh_b42_b hY, ↓rh_a43_b hY, ↓rh_b43_b hY, ↓rh_a44_b hY, ↓rh_b44_b hY, ↓rh_a45_b hY, ↓rh_b45_b hY, ↓rh_a46_b hY, ↓rh_a47_b hY, ↓rh_a48_b hY, ↓rh_a49_b hY, ↓rh_a50_b hY, ↓Option.bind_some, ↓jzo_0b, ↓jzo_1b, ↓jzo_bb, Option.toList_some, Option.toList_none, List.cons_append, List.nil_append, ↓reduceIte, jzo_0, jzo_1, jzo_b, jbi_t, jbi_f, i_add, ↓i_ltP, ↓i_ltN, ↓i_eqP, ↓i_eqN, i_lt, i_eq, jbi_0, pt_lt, pf_lt, pt_eq, pf_eq, pt_le, pf_le, Nat.reduceEqDiff, eq_self, true_or, or_true, false_or, or_false, true_and, and_true, false_and, and_false, jE_sw, jE_sw0, zBR, c, decide_false, Bool.false_and]
  | r + 11, _, h2 => absurd h2 (by omega)
