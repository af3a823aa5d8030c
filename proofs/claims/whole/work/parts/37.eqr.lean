/-! THE RULES OF RUNS, IN BOTH -/
theorem jor_or {P : Nat → Bool} : ∀ (d k : Nat) (m : Bool), jor P d k m = (m || jor P d k false)
  | 0, _, m => by unfold jor; rw [Bool.or_false]
  | d + 1, k, m => by
    unfold jor
    rw [jor_or d (k + 1) (m || P k), jor_or d (k + 1) (false || P k), Bool.false_or, Bool.or_assoc]
theorem jor_shift {P : Nat → Bool} {c : Nat} : ∀ (d k : Nat) (m : Bool), jor P d (c + k) m = jor (fun i => P (c + i)) d k m
  | 0, _, _ => rfl
  | d + 1, k, m => by
    unfold jor
    exact jor_shift d (k + 1) _
theorem xtar_0 {X : jX} : xtar X 0 = 0 := if_pos (Or.inl (by decide))
theorem xkind_0 {X : jX} : xkind X 0 = Int32.ofNat 0 := if_pos (Or.inl (by decide))
theorem vK_num {Y : jY} {r k c : Nat} (h : vK Y r = Int32.ofNat k) (hk : k < 14) (hc : c < 14) : (vK Y r = Int32.ofNat c) = (k = c) := by
  rw [h, i_eq (by omega) (by omega)]
/-- ports stand in blocks -/
theorem port_0 {X : jX} {Y : jY} (hXY : jXY X Y) (hB : jBk Y) {name : Int32} : zme Y 4 0 name = 0 := by
  apply Classical.byContradiction
  intro c
  obtain ⟨h1, h2, -, h4, h5⟩ := me_spec c
  obtain ⟨k, k1, k2, k3, k4, k5, k6⟩ := hXY.2 _ h4 h5
  have hb := hB _ h4 h5 k k2 k4
  rw [k4] at h1
  have := hb.mpr h2
  have : ∀ k : Nat, k < 14 → zsrt (Int32.ofNat k) 4 = true → ¬ k ≤ 5 := by decide +kernel
  exact this k k2 h1 (by assumption)
theorem zpi_eq {X : jX} {Y : jY} (hXY : jXY X Y) (hB : jBk Y) {q : Nat} {name : Int32} : zpi Y q name = zme Y 4 q name := by
  unfold zpi
  by_cases c : q = 0
  · rw [if_pos c, c, port_0 hXY hB]
  · rw [if_neg c]
theorem tar_port {X : jX} {Y : jY} (hXY : jXY X Y) (hW : xWF X) (hS : xRes X) {q : Nat} {name : Int32} : xtar X (zme Y 4 q name) = zif Y (zme Y 4 q name) := by
  by_cases c : zme Y 4 q name = 0
  · rw [c, xtar_0]; rfl
  · obtain ⟨h1, h2, -, h4, h5⟩ := me_spec c
    obtain ⟨k, k1, k2, k3, k4, k5, k6⟩ := hXY.2 _ h4 h5
    rw [tar_eq hXY hW hS h4 h5]
    unfold zres zif
    rw [if_neg c]
    rw [k4] at h1
    have : ∀ k : Nat, k < 14 → zsrt (Int32.ofNat k) 4 = true → k = 7 ∨ k = 8 := by decide +kernel
    have hk := this k k2 h1
    simp only [vK_num k4 k2 (show 2 < 14 by decide), vK_num k4 k2 (show 6 < 14 by decide), vK_num k4 k2 (show 9 < 14 by decide), vK_num k4 k2 (show 7 < 14 by decide), vK_num k4 k2 (show 8 < 14 by decide)]
    rw [if_neg (by omega), if_neg (by omega), if_pos (by omega)]
theorem tar_inner {X : jX} {Y : jY} (hXY : jXY X Y) (hW : xWF X) (hS : xRes X) {q : Nat} {name : Int32} : xtar X (zme Y 7 q name) = zpo Y (zme Y 7 q name) := by
  by_cases c : zme Y 7 q name = 0
  · rw [c, xtar_0]; rfl
  · obtain ⟨h1, h2, -, h4, h5⟩ := me_spec c
    obtain ⟨k, k1, k2, k3, k4, k5, k6⟩ := hXY.2 _ h4 h5
    rw [tar_eq hXY hW hS h4 h5]
    unfold zres zpo
    rw [if_neg c]
    rw [k4] at h1
    have : ∀ k : Nat, k < 14 → zsrt (Int32.ofNat k) 7 = true → k = 11 := by decide +kernel
    have hk := this k k2 h1
    simp only [vK_num k4 k2 (show 2 < 14 by decide), vK_num k4 k2 (show 6 < 14 by decide), vK_num k4 k2 (show 9 < 14 by decide), vK_num k4 k2 (show 7 < 14 by decide), vK_num k4 k2 (show 8 < 14 by decide), vK_num k4 k2 (show 11 < 14 by decide)]
    rw [if_neg (by omega), if_neg (by omega), if_neg (by omega), if_pos (by omega)]
theorem me4 {X : jX} {Y : jY} (hXY : jXY X Y) (hW : xWF X) {q : Nat} {name : Int32} (hq : q ≤ 120) : xmeant X (Int32.ofNat 96) (Int32.ofNat q) name = zme Y 4 q name := meant_eq hXY hW (s := 4) (by decide) (by decide) hq
theorem me7 {X : jX} {Y : jY} (hXY : jXY X Y) (hW : xWF X) {q : Nat} {name : Int32} (hq : q ≤ 120) : xmeant X (Int32.ofNat 65536) (Int32.ofNat q) name = zme Y 7 q name := meant_eq hXY hW (s := 7) (by decide) (by decide) hq
theorem me9 {X : jX} {Y : jY} (hXY : jXY X Y) (hW : xWF X) {q : Nat} {name : Int32} (hq : q ≤ 120) : xmeant X (Int32.ofNat 8) (Int32.ofNat q) name = zme Y 9 q name := meant_eq hXY hW (s := 9) (by decide) (by decide) hq
theorem md_eq {X : jX} {Y : jY} (hXY : jXY X Y) (hW : xWF X) (hS : xRes X) {q : Nat} {name n2 : Int32} : yMD X (zme Y 4 q name) n2 = (!decide (zif Y (zme Y 4 q name) = 0) && decide (zme Y 9 (zif Y (zme Y 4 q name)) n2 = 0)) := by
  unfold yMD
  rw [tar_port hXY hW hS, me9 hXY hW (by have := xtar_le hW (zme Y 4 q name); rw [tar_port hXY hW hS] at this; exact this)]
theorem run_eq {X : jX} {Y : jY} (hXY : jXY X Y) (hW : xWF X) (hS : xRes X) (hB : jBk Y) {r : Nat} (h1 : 1 ≤ r) (h2 : r ≤ vN Y) (hk : vK Y r = Int32.ofNat 10) : yRU X r = cond (zNR Y r) 2 (cond (decide (vTr Y r = Int32.ofNat 0)) 4 (cond (jor (zWP Y r) (vAM Y r) (vAA Y r) false) 5 0)) := by
  obtain ⟨k, k1, k2, k3, k4, k5, k6⟩ := val_kind hXY h1 h2
  have hk10 : k = 10 := by
    have e := k4.symm.trans hk
    rw [i_eq (by omega) (by decide)] at e
    exact e
  subst hk10
  have hvb : vB Y r ≤ 120 := k5 ▸ xblock_le hW r
  obtain ⟨k0, hT, hlen, hend, hj⟩ := k6.2.2.2.2.2 rfl
  have hl := xlen_le hW r
  have used : ∀ j, j < vAM Y r → xused X r (k0 + 4 * j) = zpi Y (vB Y r) (vAP Y (vAA Y r + j)) := by
    intro j q
    unfold xused
    rw [k5, me4 hXY hW hvb, ← (hj j q).1, zpi_eq hXY hB]
  have rb : ∀ j, j < vAM Y r → yRB X r (k0 + 4 * j) = zBA Y r (vAA Y r + j) := by
    intro j q
    unfold yRB zBA
    rw [used j q, zpi_eq hXY hB, ← (hj j q).2.1, md_eq hXY hW hS]
  have rm : ∀ j, j < vAM Y r → zBA Y r (vAA Y r + j) = false → yRM X r (k0 + 4 * j) = zWP Y r (vAA Y r + j) := by
    intro j q hba
    have hne : zpi Y (vB Y r) (vAP Y (vAA Y r + j)) ≠ 0 := by
      intro e
      unfold zBA at hba
      rw [decide_eq_true e, Bool.true_or] at hba
      cases hba
    have hle := zpi_le' (Y := Y) (q := vB Y r) (name := vAP Y (vAA Y r + j))
    unfold yRM zWP
    rw [used j q, decide_eq_false hne, Bool.not_false, Bool.true_and]
    have kk := fun c hc hc2 => kind_iff hXY (r := zpi Y (vB Y r) (vAP Y (vAA Y r + j))) (by omega) hle c hc hc2
    have kk8 := kk 8 (by decide) (by decide)
    have kk7 := kk 7 (by decide) (by decide)
    simp only [kb] at kk8 kk7
    rcases (hj j q).2.2.2.2.2 with ⟨-, -, w, a⟩ | ⟨-, ⟨w, a⟩ | ⟨w, a⟩⟩
    · rw [w, a, if_neg (by decide), if_neg (by decide)]
      simp only [kk7]
    · rw [w, a, if_neg (by decide), if_neg (by decide)]
      simp only [kk7]
    · rw [w, a, if_pos rfl, if_pos rfl]
      simp only [kk8]
  have wz : ∀ j, j < vAM Y r → ¬ (xword X r (k0 + 4 * j) &&& Int32.ofNat 7168 = Int32.ofNat 0) ∧ ¬ xword X r (k0 + 4 * j) = Int32.ofNat 512 := by
    intro j q
    rcases (hj j q).2.2.2.2.2 with ⟨-, -, w, a⟩ | ⟨-, ⟨w, a⟩ | ⟨w, a⟩⟩ <;> rw [w] <;> decide
  have main : ∀ (n j d : Nat) (m : Bool), j + n = vAM Y r → n + 1 ≤ d → yRL X r d (k0 + 4 * j) m = cond (jor (fun i => zBA Y r (vAA Y r + i)) n j false) 2 (yRF X r (m || jor (fun i => zWP Y r (vAA Y r + i)) n j false)) := by
    intro n
    induction n with
    | zero =>
      intro j d m hjn hd
      obtain ⟨d, rfl⟩ : ∃ e, d = e + 1 := ⟨d - 1, by omega⟩
      have ej : j = vAM Y r := by omega
      rw [yRL, if_neg (by omega), ej, hend, if_pos (by decide)]
      have ew : yRW X r (k0 + 4 * vAM Y r) = k0 + 4 * vAM Y r + 4 := by unfold yRW; rw [hend, if_neg (by decide)]
      rw [ew]
      unfold jor
      rw [cond_false, Bool.or_false]
      cases d with
      | zero => rfl
      | succ d => rw [yRL, if_pos (by omega)]
    | succ n ih =>
      intro j d m hjn hd
      obtain ⟨d, rfl⟩ : ∃ e, d = e + 1 := ⟨d - 1, by omega⟩
      have hjl : j < vAM Y r := by omega
      have ew : yRW X r (k0 + 4 * j) = k0 + 4 * (j + 1) := by unfold yRW; rw [if_neg (wz j hjl).2]; omega
      rw [yRL, if_neg (by omega), if_neg (wz j hjl).1, rb j hjl, ew]
      unfold jor
      rw [Bool.false_or, Bool.false_or]
      cases c : zBA Y r (vAA Y r + j)
      · rw [if_neg (by decide), ih (j + 1) d _ (by omega) (by omega), rm j hjl c]
        rw [jor_or n (j + 1) (zWP Y r (vAA Y r + j)), Bool.or_assoc]
      · rw [if_pos rfl, jor_or, Bool.true_or, cond_true]
  have e0 : yRU X r = cond (jor (fun i => zBA Y r (vAA Y r + i)) (vAM Y r) 0 false) 2 (yRF X r (jor (fun i => zWP Y r (vAA Y r + i)) (vAM Y r) 0 false)) := by
    unfold yRU
    rcases hT with ⟨t1, t2, t3, t4⟩ | ⟨t1, t2, -⟩ | ⟨t1, t2⟩
    · have e : xlen X r = (xlen X r - 1) + 1 := by omega
      rw [e, yRL, if_neg (by omega), t3, if_pos (by decide), show yRW X r 2 = k0 + 4 * 0 by unfold yRW; rw [if_pos t3, t2], main (vAM Y r) 0 _ false (by omega) (by omega), Bool.false_or]
    · have := main (vAM Y r) 0 (xlen X r) false (by omega) (by omega)
      rw [show k0 + 4 * 0 = 2 by omega, Bool.false_or] at this
      exact this
    · have := main (vAM Y r) 0 (xlen X r) false (by omega) (by omega)
      rw [show k0 + 4 * 0 = 2 by omega, Bool.false_or] at this
      exact this
  rw [e0]
  unfold zNR
  have es := jor_shift (P := zWP Y r) (c := vAA Y r) (vAM Y r) 0 false
  rw [Nat.add_zero] at es
  rw [es]
  congr 1
  unfold yRF
  rcases hT with ⟨t1, t2, t3, t4⟩ | ⟨t1, t2, t3, t4⟩ | ⟨t1, t2⟩
  · rw [t3, if_neg (by decide), t1, decide_eq_false (by decide), cond_false]
  · have := (hj 0 (by omega)).2.2.2.2.2
    rcases this with ⟨-, -, w, a⟩ | ⟨q, -⟩
    · rw [show k0 + 4 * 0 = 2 by omega] at w
      rw [w, if_neg (by decide), t1, decide_eq_false (by decide), cond_false]
    · exact absurd ⟨rfl, t1⟩ q
  · rw [t1, decide_eq_true rfl, cond_true]
    refine if_pos ?_
    by_cases c : vAM Y r = 0
    · rw [c, show k0 + 4 * 0 = 2 by omega] at hend
      rw [hend]
      decide
    · have := (hj 0 (by omega)).2.2.2.2.2
      rw [show k0 + 4 * 0 = 2 by omega] at this
      rcases this with ⟨-, q, -⟩ | ⟨-, ⟨w, a⟩ | ⟨w, a⟩⟩
      · rw [t1] at q
        exact absurd q (by decide)
      · rw [w]
        decide
      · rw [w]
        decide
