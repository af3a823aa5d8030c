/-! BOTH COMPARE ALIKE -/
theorem kt_same {X Z : jX} {L M : List (Int32 × Int32)} (e : L.length = M.length) (h : ∀ k : Nat, k < L.length → smt X Z (L.getD k (Int32.ofNat 6, Int32.ofNat 0)) (M.getD k (Int32.ofNat 6, Int32.ofNat 0))) : kt L = kt M := by
  have hs : ∀ k : Nat, ls L k = ls M k := by
    intro k
    unfold ls
    by_cases c : k < L.length
    · exact (h k c).1
    · rw [gD_out (by omega), gD_out (by omega)]
  have hv : ∀ k : Nat, ls L k ≠ Int32.ofNat 2 → lv L k = lv M k := by
    intro k hk
    by_cases c : k < L.length
    · have := (h k c).2
      rw [if_neg (show ¬ (L.getD k (Int32.ofNat 6, Int32.ofNat 0)).1 = Int32.ofNat 2 from hk)] at this
      exact this
    · unfold lv
      rw [gD_out (by omega), gD_out (by omega)]
  unfold kt
  rw [← hs 0, ← hs 2]
  by_cases c4 : ls L 0 = Int32.ofNat 4
  · rw [if_pos c4, if_pos c4]
  rw [if_neg c4, if_neg c4]
  by_cases c1 : ls L 0 = Int32.ofNat 1
  · rw [if_pos c1, if_pos c1, ← hv 0 (by rw [c1]; decide)]
    by_cases c2 : ls L 2 = Int32.ofNat 4
    · rw [← hv 2 (by rw [c2]; decide)]
    · rw [if_neg (fun z => c2 z.2.1), if_neg (fun z => c2 z.2.1)]
  · rw [if_neg c1, if_neg c1]
section CMP
variable {wn : Nat → Int64} {X Z : jX} {B C : Nat → Nat → Int32} {ws vs : Nat → Nat}
theorem Hd_ne (q : Hd wn X B ws) {r : Nat} (h1 : 1 ≤ r) (h2 : r ≤ xRc X) : tks X r ≠ [] := by
  intro e
  obtain ⟨t1, t2, -⟩ := Hd_tx q r h1 h2
  rw [rowO_jjn h1 h2, e] at t2
  have : ws r = ws (r - 1) + 0 := t2
  omega
theorem Hd_fm (hw : wnOk wn) (q : Hd wn X B ws) {r : Nat} (h1 : 1 ≤ r) (h2 : r ≤ xRc X) : ∀ t, t ∈ tks X r → tfm X t (tkt wn X t) := fun t ht => tk_form hw (Hd_wf q).2.2.1 (Hd_nt q) (Hd_tl q r h1 h2) ht
theorem xalike_eq (hw : wnOk wn) (q : Hd wn X B ws) (p : Hd wn Z C vs) {r s : Nat} (h1 : 1 ≤ r) (h2 : r ≤ xRc X) (g1 : 1 ≤ s) (g2 : s ≤ xRc Z) : xalike X r Z s = decide (rowO wn X r = rowO wn Z s) := by
  rw [Bool.eq_iff_iff, decide_eq_true_iff, rowO_jjn h1 h2, rowO_jjn g1 g2]
  unfold xalike
  rw [Bool.and_eq_true, Bool.and_eq_true, decide_eq_true_iff, decide_eq_true_iff, jall_iff, xlen_tks h1 h2, xlen_tks g1 g2]
  constructor
  · rintro ⟨⟨-, hl⟩, hs⟩
    refine jjn_same hl fun k hk => ?_
    have z := hs k (Nat.zero_le _) (by omega)
    unfold xsame at z
    rw [Bool.and_eq_true, decide_eq_true_iff, xsort_tks h1 h2, xsort_tks g1 g2, xval_tks h1 h2, xval_tks g1 g2] at z
    refine ⟨z.1, ?_⟩
    have z2 := z.2
    by_cases c : ls (tks X r) k = Int32.ofNat 2
    · rw [if_pos c, decide_eq_true_iff] at z2
      rw [if_pos (show ((tks X r).getD k (Int32.ofNat 6, Int32.ofNat 0)).1 = Int32.ofNat 2 from c)]
      exact z2
    · rw [if_neg c, decide_eq_true_iff] at z2
      rw [if_neg (show ¬ ((tks X r).getD k (Int32.ofNat 6, Int32.ofNat 0)).1 = Int32.ofNat 2 from c)]
      exact z2
  · intro e
    obtain ⟨hl, hs⟩ := jjn_inj (Hd_ne q h1 h2) (Hd_ne p g1 g2) (Hd_fm hw q h1 h2) (Hd_fm hw p g1 g2) e
    refine ⟨⟨?_, hl⟩, fun k _ hk => ?_⟩
    · obtain ⟨k, -, -, k3, -, -, -, -, -, -, -, -, -, k15⟩ := Hd_rw q r h1 h2
      obtain ⟨k', -, -, y3, -, -, -, -, -, -, -, -, -, y15⟩ := Hd_rw p s g1 g2
      unfold xkind
      rw [if_neg (by omega), if_neg (by omega), k3, y3, ← k15, ← y15]
      exact kt_same hl hs
    · have z := hs k (by omega)
      unfold xsame
      rw [Bool.and_eq_true, decide_eq_true_iff, xsort_tks h1 h2, xsort_tks g1 g2, xval_tks h1 h2, xval_tks g1 g2]
      refine ⟨z.1, ?_⟩
      have z2 := z.2
      by_cases c : ls (tks X r) k = Int32.ofNat 2
      · rw [if_pos (show ((tks X r).getD k (Int32.ofNat 6, Int32.ofNat 0)).1 = Int32.ofNat 2 from c)] at z2
        rw [if_pos c, decide_eq_true_iff]
        exact z2
      · rw [if_neg (show ¬ ((tks X r).getD k (Int32.ofNat 6, Int32.ofNat 0)).1 = Int32.ofNat 2 from c)] at z2
        rw [if_neg c, decide_eq_true_iff]
        exact z2
theorem k_kbz : ∀ k : Nat, k < 14 → Int32.ofNat (kb k) ≠ Int32.ofNat 0 := by decide +kernel
theorem xalike_0 : xalike X 0 Z 0 = true := rfl
theorem xalike_0r (p : Hd wn Z C vs) {s : Nat} (g1 : 1 ≤ s) (g2 : s ≤ xRc Z) : xalike X 0 Z s = false := by
  obtain ⟨k', -, y2, y3, -⟩ := Hd_rw p s g1 g2
  unfold xalike xkind
  rw [if_pos (by omega), if_neg (by omega), y3, decide_eq_false (fun e => k_kbz k' y2 e.symm)]
  rfl
theorem xalike_r0 (q : Hd wn X B ws) {r : Nat} (h1 : 1 ≤ r) (h2 : r ≤ xRc X) : xalike X r Z 0 = false := by
  obtain ⟨k', -, y2, y3, -⟩ := Hd_rw q r h1 h2
  unfold xalike xkind
  rw [if_neg (by omega), if_pos (by omega), y3, decide_eq_false (fun e => k_kbz k' y2 e)]
  rfl
end CMP
theorem rAl_eq {wn : Nat → Int64} {X Z : jX} {A C : Nat → Nat → Int32} {ws vs : Nat → Nat} (q : Hd wn X (hv A) ws) (p : Hd wn Z C vs) {e r s : Nat} (kd : ∀ i : Nat, i < vs (xRc Z) → A 41 (6000 * e + i) = C 19 i) (h2 : r < xRc X) (g2 : s < xRc Z) : rAl A ws vs r e s = decide (rowO wn X (r + 1) = rowO wn Z (s + 1)) := by
  obtain ⟨t1, t2, t3⟩ := Hd_tx q (r + 1) (by omega) (by omega)
  obtain ⟨u1, u2, u3⟩ := Hd_tx p (s + 1) (by omega) (by omega)
  rw [Nat.add_sub_cancel] at t1 t2 t3 u1 u2 u3
  have mono : vs (s + 1) ≤ vs (xRc Z) := by
    have : ∀ d : Nat, s + 1 + d ≤ xRc Z → vs (s + 1) ≤ vs (s + 1 + d) := by
      intro d
      induction d with
      | zero => intro _; exact Nat.le_refl _
      | succ d ih =>
        intro hd
        have z := (Hd_tx p (s + 1 + (d + 1)) (by omega) hd).1
        rw [show s + 1 + (d + 1) - 1 = s + 1 + d by omega] at z
        have := ih (by omega)
        omega
    have z := this (xRc Z - (s + 1)) (by omega)
    rw [show s + 1 + (xRc Z - (s + 1)) = xRc Z by omega] at z
    exact z
  rw [Bool.eq_iff_iff, decide_eq_true_iff]
  unfold rAl
  rw [Bool.and_eq_true, decide_eq_true_iff, jall_iff]
  have e1 : ws (r + 1) - ws r = (rowO wn X (r + 1)).length := by omega
  have e2 : vs (s + 1) - vs s = (rowO wn Z (s + 1)).length := by omega
  rw [e1, e2]
  constructor
  · rintro ⟨z1, z2⟩
    refine list_ext0 z1.symm fun k hk => ?_
    have y := of_decide_eq_true (z2 k (Nat.zero_le _) (by omega))
    have y1 : A 36 (ws r + k) = (rowO wn X (r + 1)).getD k 0 := t3 k hk
    have y2 := u3 k (by omega)
    rw [← kd (vs s + k) (by omega), ← Nat.add_assoc] at y2
    rw [← y1, y, y2]
  · intro z
    refine ⟨by rw [z], fun k _ hk => decide_eq_true ?_⟩
    have y1 : A 36 (ws r + k) = (rowO wn X (r + 1)).getD k 0 := t3 k (by omega)
    have y2 := u3 k (by rw [← z]; omega)
    rw [← kd (vs s + k) (by rw [z] at hk; omega), ← Nat.add_assoc] at y2
    rw [y1, y2, z]
theorem rAny_jany {P Q : Nat → Bool} : ∀ d q : Nat, (∀ i : Nat, q ≤ i → i < q + d → P i = Q (i + 1)) → rAny P d q = jany Q d q
  | 0, _, _ => rfl
  | d + 1, q, h => by
    unfold rAny jany
    rw [h q (Nat.le_refl _) (by omega), rAny_jany d (q + 1) fun i h1 h2 => h i (by omega) (by omega)]
theorem rCn_jcnt {P Q : Nat → Bool} : ∀ d r : Nat, (∀ i : Nat, r ≤ i → i < r + d → Q (i + 1) = !P i) → rCn P d r (jcnt Q r) = jcnt Q (r + d)
  | 0, _, _ => rfl
  | d + 1, r, h => by
    have e : jcnt Q r + cond (P r) 0 1 = jcnt Q (r + 1) := by
      show _ = jcnt Q r + cond (Q (r + 1)) 1 0
      rw [h r (Nat.le_refl _) (by omega)]
      cases P r <;> rfl
    unfold rCn
    rw [e, rCn_jcnt d (r + 1) fun i h1 h2 => h i (by omega) (by omega)]
    congr 1
    omega
/-- how many rows are not in a kept edition, told by both -/
theorem cmp_eq {wn : Nat → Int64} {X Z : jX} {A C : Nat → Nat → Int32} {ws vs : Nat → Nat} (hw : wnOk wn) (q : Hd wn X (hv A) ws) (p : Hd wn Z C vs) {e : Nat} (kd : ∀ i : Nat, i < vs (xRc Z) → A 41 (6000 * e + i) = C 19 i) : rCn (fun r => rAny (rIs A ws vs (xBl X) (xBl Z) e r) (xRc Z) 0) (xRc X) 0 0 = jcnt (fun r => !xin X r Z) (xRc X) := by
  have z := rCn_jcnt (P := fun r => rAny (rIs A ws vs (xBl X) (xBl Z) e r) (xRc Z) 0) (Q := fun r => !xin X r Z) (xRc X) 0 (fun i _ hi => ?_)
  · rw [Nat.zero_add] at z
    exact z
  · show (!xin X (i + 1) Z) = !rAny (rIs A ws vs (xBl X) (xBl Z) e i) (xRc Z) 0
    congr 1
    unfold xin
    symm
    refine rAny_jany _ _ fun s _ hs => ?_
    have hi' : i < xRc X := by omega
    have hs' : s < xRc Z := by omega
    show rIs A ws vs (xBl X) (xBl Z) e i s = (xalike X (i + 1) Z (s + 1) && xalike X (xBl X (i + 1)) Z (xBl Z (s + 1)))
    unfold rIs
    rw [rAl_eq q p kd hi' hs', xalike_eq hw q p (by omega) (by omega) (by omega) (by omega)]
    congr 1
    obtain ⟨k, -, -, -, -, -, k6, -⟩ := Hd_rw q (i + 1) (by omega) (by omega)
    obtain ⟨k', -, -, -, -, -, y6, -⟩ := Hd_rw p (s + 1) (by omega) (by omega)
    by_cases c1 : xBl X (i + 1) = 0
    · rw [if_pos c1, c1]
      by_cases c2 : xBl Z (s + 1) = 0
      · rw [decide_eq_true c2, c2]
        rfl
      · rw [decide_eq_false c2, xalike_0r p (by omega) (by omega)]
    · rw [if_neg c1]
      by_cases c2 : xBl Z (s + 1) = 0
      · rw [decide_eq_true c2, c2, xalike_r0 q (by omega) (by omega)]
        rfl
      · rw [decide_eq_false c2, Bool.not_false, Bool.true_and, rAl_eq q p kd (by omega) (by omega), xalike_eq hw q p (by omega) (by omega) (by omega) (by omega), show xBl X (i + 1) - 1 + 1 = xBl X (i + 1) by omega, show xBl Z (s + 1) - 1 + 1 = xBl Z (s + 1) by omega]
