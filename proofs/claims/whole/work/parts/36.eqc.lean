/-! BOTH CHECKS BREAK THE SAME RULE FIRST -/
theorem jfst_any {P : Nat → Bool} {r : Nat} (hP : P r = true) : ∀ d j : Nat, j < r → r ≤ j + d → (!decide (jfst P d j = r)) = jany P (r - 1 - j) j
  | 0, j, h1, h2 => by omega
  | d + 1, j, h1, h2 => by
    unfold jfst
    by_cases c : j + 1 = r
    · rw [c, hP, cond_true, decide_eq_true rfl, show r - 1 - j = 0 by omega]
      rfl
    · have ih := jfst_any hP d (j + 1) (by omega) (by omega)
      rw [show r - 1 - j = (r - 1 - (j + 1)) + 1 by omega]
      unfold jany
      cases e : P (j + 1)
      · rw [cond_false, ih, Bool.false_or]
      · rw [cond_true, decide_eq_false c]
        rfl
/-- a statement stands in no block, a member in one -/
def jBk (Y : jY) : Prop := ∀ r : Nat, 1 ≤ r → r ≤ vN Y → ∀ k : Nat, k < 14 → vK Y r = Int32.ofNat k → (k ≤ 5 ↔ vB Y r = 0)
theorem k_gb1 : ∀ k : Nat, k < 14 → 1 ≤ k → (Int32.ofNat (kb k) &&& Int32.ofNat 74239 = Int32.ofNat 0 ↔ 12 ≤ k) := by decide +kernel
theorem k_gb2 : ∀ k : Nat, k < 14 → 1 ≤ k → (Int32.ofNat (kb k) &&& Int32.ofNat 8215 = Int32.ofNat 0 ↔ 6 ≤ k) := by decide +kernel
theorem k_gb3 : ∀ k : Nat, k < 14 → 1 ≤ k → (Int32.ofNat (kb k) &&& Int32.ofNat 66024 = Int32.ofNat 0 ↔ k < 6 ∨ 12 ≤ k) := by decide +kernel
theorem gb_eq {X : jX} {Y : jY} (hXY : jXY X Y) (hW : xWF X) (hB : jBk Y) {r : Nat} (h1 : 1 ≤ r) (h2 : r ≤ vN Y) : yGB X r = zGV Y r := by
  obtain ⟨k, k1, k2, k3, k4, k5, k6⟩ := val_kind hXY h1 h2
  have hn := hW.1
  have hXn := hXY.1
  have hbr := hW.2.2.2 r h1 (by omega)
  have hvb : vB Y r ≤ 120 := k5 ▸ xblock_le hW r
  unfold yGB zGV
  rw [k3]
  by_cases c : 12 ≤ k
  · rw [if_pos ((k_gb1 k k2 k1).mpr c), if_pos (k6.2.1 c)]
  · rw [if_neg (fun q => c ((k_gb1 k k2 k1).mp q)), if_neg (k6.1 (by omega)).2]
    have hg := (k6.1 (by omega)).1
    have hb := hB r h1 h2 k k2 k4
    rw [k5]
    have key : ∀ m : Nat, m < 2147483648 → (∀ r', 1 ≤ r' → r' ≤ vN Y → (xfit X (Int32.ofNat m) (Int32.ofNat (vB Y r)) r' && decide (xval X r' 1 = xval X r 1)) = zGP Y r r') → (!decide (xmeant X (Int32.ofNat m) (Int32.ofNat (vB Y r)) (xval X r 1) = r)) = jany (zGP Y r) (r - 1) 0 := by
      intro m hm e
      unfold xmeant
      have hP : (fun r' => xfit X (Int32.ofNat m) (Int32.ofNat (vB Y r)) r' && decide (xval X r' 1 = xval X r 1)) r = true := by
        show (xfit X (Int32.ofNat m) (Int32.ofNat (vB Y r)) r && decide (xval X r 1 = xval X r 1)) = true
        rw [e r h1 h2]
        unfold zGP
        rw [decide_eq_true rfl, decide_eq_true rfl]
        rfl
      rw [jfst_any hP (xRc X) 0 (by omega) (by omega)]
      exact jany_congr _ _ fun r' a1 a2 => e r' (by omega) (by omega)
    have fitk : ∀ m : Nat, ∀ r', 1 ≤ r' → r' ≤ vN Y → (∀ k', k' < 14 → 1 ≤ k' → vK Y r' = Int32.ofNat k' → vB Y r' = vB Y r → vGi Y r' = vGi Y r → ¬ (Int32.ofNat (kb k') &&& Int32.ofNat m = Int32.ofNat 0)) → (∀ k', k' < 14 → 1 ≤ k' → ¬ (Int32.ofNat (kb k') &&& Int32.ofNat m = Int32.ofNat 0) → k' < 12) → (xfit X (Int32.ofNat m) (Int32.ofNat (vB Y r)) r' && decide (xval X r' 1 = xval X r 1)) = zGP Y r r' := by
      intro m r' a1 a2 hm hm2
      obtain ⟨k', j1, j2, j3, j4, j5, j6⟩ := hXY.2 r' a1 a2
      have hbr' := hW.2.2.2 r' a1 (by omega)
      unfold xfit zGP
      rw [j3, j5, decide_eq_false (p := Int32.ofNat (vB Y r) = -(Int32.ofNat 1)) (by rw [n_neg (by omega)]; exact not_false), Bool.false_or]
      have e1 : (Int32.ofNat (vB Y r') = Int32.ofNat (vB Y r)) = (vB Y r' = vB Y r) := i_eq (by omega) (by omega)
      simp only [e1]
      by_cases d1 : vB Y r' = vB Y r
      · rw [decide_eq_true d1, Bool.and_true, Bool.true_and]
        by_cases d2 : vGi Y r' = vGi Y r
        · have d3 := hm k' j2 j1 j4 d1 d2
          rw [decide_eq_false d3, decide_eq_true d2]
          have := (j6.1 (hm2 k' j2 j1 d3)).1
          rw [decide_eq_true (by rw [← this, d2, hg])]
          rfl
        · rw [decide_eq_false d2]
          by_cases d3 : Int32.ofNat (kb k') &&& Int32.ofNat m = Int32.ofNat 0
          · rw [decide_eq_true d3]
            rfl
          · have := (j6.1 (hm2 k' j2 j1 d3)).1
            rw [decide_eq_false d3, decide_eq_false (fun q => d2 (by rw [this, q, hg]))]
            rfl
      · rw [decide_eq_false d1, Bool.and_false, Bool.false_and, Bool.false_and]
    by_cases c6 : 6 ≤ k
    · rw [if_pos ((k_gb2 k k2 k1).mpr c6)]
      refine key 66024 (by decide) fun r' a1 a2 => fitk 66024 r' a1 a2 ?_ ?_
      · intro k' b1 b2 b3 b4 b5 b6
        have hb' := hB r' a1 a2 k' b1 b3
        rcases (k_gb3 k' b1 b2).mp b6 with q | q
        · have : vB Y r = 0 := b4 ▸ hb'.mp (by omega)
          have := hb.mpr this
          omega
        · obtain ⟨k'', j1, j2, j3, j4, j5, j6⟩ := hXY.2 r' a1 a2
          have : k'' = k' := by
            have e := j4.symm.trans b3
            rw [i_eq (by omega) (by omega)] at e
            exact e
          have e2 := j6.2.1 (by omega)
          rw [b5] at e2
          exact (k6.1 (by omega)).2 e2
      · intro k' b1 b2 b3
        have := mt (k_gb3 k' b1 b2).mpr b3
        omega
    · rw [if_neg (fun q => c6 ((k_gb2 k k2 k1).mp q))]
      refine key 8215 (by decide) fun r' a1 a2 => fitk 8215 r' a1 a2 ?_ ?_
      · intro k' b1 b2 b3 b4 b5 b6
        have hb' := hB r' a1 a2 k' b1 b3
        have := (k_gb2 k' b1 b2).mp b6
        have : vB Y r = 0 := hb.mp (by omega)
        rw [this] at b4
        have := hb'.mpr b4
        omega
      · intro k' b1 b2 b3
        have := mt (k_gb2 k' b1 b2).mpr b3
        omega
