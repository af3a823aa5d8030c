/-! QUERIES OF PORTS, RUNS AND CONNECTORS, IN BOTH -/
theorem mem_eq {X : jX} {Y : jY} (hXY : jXY X Y) (hW : xWF X) {s : Nat} {p i : Int32} (hs : s < 10) (h8 : s ≠ 8) : qmem X p (Int32.ofNat (sm s)) i = zmem Y p s i := by
  have h1 := hW.1
  have h2 := hXY.1
  have h3 := znth_le (Y := Y) (s := 3) (q := 0) (i := p)
  have e3 := nth_eq hXY hW (s := 3) (q := 0) (i := p) (by decide) (by decide) (by decide)
  simp only [sm] at e3
  unfold qmem zmem
  rw [e3]
  by_cases c : znth Y 3 0 p = 0
  · rw [if_pos c, if_pos c]
  · rw [if_neg c, if_neg c]
    exact nth_eq hXY hW hs h8 (by omega)
theorem mem_spec {Y : jY} {s : Nat} {p i : Int32} (h8 : s ≠ 8) (h : zmem Y p s i ≠ 0) : zsrt (vK Y (zmem Y p s i)) s = true ∧ vB Y (zmem Y p s i) = znth Y 3 0 p ∧ 1 ≤ zmem Y p s i ∧ zmem Y p s i ≤ vN Y ∧ znth Y 3 0 p ≠ 0 := by
  unfold zmem at h ⊢
  by_cases c : znth Y 3 0 p = 0
  · rw [if_pos c] at h; exact absurd rfl h
  · rw [if_neg c] at h ⊢
    obtain ⟨h1, h2, h3⟩ := nth_spec h
    unfold zP at h1
    rw [Bool.and_eq_true, decide_eq_false h8, Bool.false_or, decide_eq_true_eq] at h1
    exact ⟨h1.1, h1.2, h2, h3, c⟩
theorem me_b {Y : jY} {s q : Nat} {name : Int32} (h : zme Y s q name ≠ 0) : vB Y (zme Y s q name) = q := (me_spec h).2.1
theorem port_eq {X : jX} {Y : jY} (hXY : jXY X Y) (hW : xWF X) (hS : xRes X) {p i what : Int32} : qport X p i what = zport Y p i what := by
  have e := mem_eq hXY hW (s := 4) (p := p) (i := i) (by decide) (by decide)
  have h3 := zmem_le (Y := Y) (s := 4) (p := p) (i := i)
  simp only [sm] at e
  unfold qport zport
  rw [e]
  by_cases c : zmem Y p 4 i = 0
  · rw [if_pos c, if_pos c]; exact jmz
  obtain ⟨m1, m2, m3, m4, m5⟩ := mem_spec (by decide) c
  rw [if_neg c, if_neg c, given_eq hXY (s := 4) (by decide) (by decide) m3 m4 m1]
  have e8 := kind_iff hXY m3 m4 7 (by decide) (by decide)
  simp only [kb] at e8
  simp only [e8]
  have et : xtar X (zmem Y p 4 i) = zif Y (zmem Y p 4 i) := by
    obtain ⟨k, k1, k2, k3, k4, k5, k6⟩ := hXY.2 _ m3 m4
    rw [tar_eq hXY hW hS m3 m4]
    unfold zres zif
    rw [if_neg c]
    rw [k4] at m1
    have : ∀ k : Nat, k < 14 → zsrt (Int32.ofNat k) 4 = true → k = 7 ∨ k = 8 := by decide +kernel
    have hk := this k k2 m1
    simp only [vK_num k4 k2 (show 2 < 14 by decide), vK_num k4 k2 (show 6 < 14 by decide), vK_num k4 k2 (show 9 < 14 by decide), vK_num k4 k2 (show 7 < 14 by decide), vK_num k4 k2 (show 8 < 14 by decide)]
    rw [if_neg (by omega), if_neg (by omega), if_pos (by omega)]
  have en := num_eq hXY hW (s := 2) (q := 0) (t := zif Y (zmem Y p 4 i)) (by decide) (by decide) (by decide) zif_le' (fun q => by
    unfold zif at q ⊢
    rw [if_neg c] at q ⊢
    exact me_b q)
  simp only [sm] at en
  rw [et, en]
theorem cw_run {X : jX} {Y : jY} {r : Nat} (hR : jRun X Y r) (h0 : xword X r 0 = Int32.ofNat 256) (hx1 : xword X r 1 = Int32.ofNat 0) (hx3 : vTr Y r = Int32.ofNat 1 → xword X r 3 = Int32.ofNat 0) {w a : Nat} (hw : w = 2048 ∧ a = 1 ∨ w = 4096 ∧ a = 2) : xcw X r (Int32.ofNat w) (xlen X r) = zac Y r (Int32.ofNat a) (vAM Y r) := by
  obtain ⟨k0, hT, hlen, hend, hj⟩ := hR
  have d0 : ∀ k, xword X r k = Int32.ofNat 0 → decide (xword X r k = Int32.ofNat w) = false := by
    intro k e
    refine decide_eq_false ?_
    rw [e]
    rcases hw with ⟨hw, -⟩ | ⟨hw, -⟩ <;> rw [hw] <;> decide
  have start : xcw X r (Int32.ofNat w) k0 = 0 := by
    have z0 : decide (xword X r 0 = Int32.ofNat w) = false := by
      refine decide_eq_false ?_
      rw [h0]
      rcases hw with ⟨hw, -⟩ | ⟨hw, -⟩ <;> rw [hw] <;> decide
    have z1 := d0 1 hx1
    rcases hT with ⟨t1, t2, t3, t4⟩ | ⟨t1, t2, t3, t4⟩ | ⟨t1, t2⟩
    · have z2 : decide (xword X r 2 = Int32.ofNat w) = false := by
        refine decide_eq_false ?_
        rw [t3]
        rcases hw with ⟨hw, -⟩ | ⟨hw, -⟩ <;> rw [hw] <;> decide
      have z3 := d0 3 (hx3 t1)
      rw [t2]
      simp only [xcw, z0, z1, z2, z3, cond_false]
    · rw [t2]
      simp only [xcw, z0, z1, cond_false]
    · rw [t2]
      simp only [xcw, z0, z1, cond_false]
  have main : ∀ j, j ≤ vAM Y r → xcw X r (Int32.ofNat w) (k0 + 4 * j) = zac Y r (Int32.ofNat a) j := by
    intro j
    induction j with
    | zero => intro _; rw [Nat.mul_zero, Nat.add_zero, start]; rfl
    | succ j ih =>
      intro hjl
      obtain ⟨-, -, w1, w2, w3, w4⟩ := hj j (by omega)
      have e : k0 + 4 * (j + 1) = k0 + 4 * j + 1 + 1 + 1 + 1 := by omega
      rw [e]
      unfold xcw xcw xcw xcw zac
      rw [ih (by omega), d0 _ w1, d0 _ w2, d0 _ w3, cond_false]
      simp only [Nat.add_zero]
      congr 1
      have key : (xword X r (k0 + 4 * j) = Int32.ofNat w) ↔ (vAK Y (vAA Y r + j) = Int32.ofNat a) := by
        rcases w4 with ⟨-, -, q1, q2⟩ | ⟨-, ⟨q1, q2⟩ | ⟨q1, q2⟩⟩ <;> rw [q1, q2] <;> rcases hw with ⟨hw, ha⟩ | ⟨hw, ha⟩ <;> rw [hw, ha] <;> decide
      by_cases c : vAK Y (vAA Y r + j) = Int32.ofNat a
      · rw [decide_eq_true c, decide_eq_true (key.mpr c)]
      · rw [decide_eq_false c, decide_eq_false (fun q => c (key.mp q))]
  rw [hlen]
  unfold xcw
  rw [d0 _ hend, cond_false, Nat.add_zero]
  exact main _ (Nat.le_refl _)
