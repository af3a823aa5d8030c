/-! QUERIES OF RUNS AND CONNECTORS, IN BOTH -/
def jRn (X : jX) (Y : jY) : Prop := ∀ r : Nat, 1 ≤ r → r ≤ vN Y → vK Y r = Int32.ofNat 10 → xword X r 0 = Int32.ofNat 256 ∧ xword X r 1 = Int32.ofNat 0 ∧ (vTr Y r = Int32.ofNat 1 → xword X r 3 = Int32.ofNat 0)
def jBB (Y : jY) : Prop := ∀ r : Nat, 1 ≤ r → r ≤ vN Y → vB Y r ≠ 0 → vB Y (vB Y r) = 0
theorem runq_eq {X : jX} {Y : jY} (hXY : jXY X Y) (hW : xWF X) (hB : jBk Y) (hN : jRn X Y) {p i what : Int32} : qrun X p i what = zrun Y p i what := by
  have e := mem_eq hXY hW (s := 5) (p := p) (i := i) (by decide) (by decide)
  have h3 := zmem_le (Y := Y) (s := 5) (p := p) (i := i)
  simp only [sm] at e
  unfold qrun zrun
  rw [e]
  by_cases c : zmem Y p 5 i = 0
  · rw [if_pos c, if_pos c]; exact jmz
  obtain ⟨m1, m2, m3, m4, m5⟩ := mem_spec (by decide) c
  have hk : vK Y (zmem Y p 5 i) = Int32.ofNat 10 := of_decide_eq_true m1
  rw [if_neg c, if_neg c, given_eq hXY (s := 5) (by decide) (by decide) m3 m4 m1]
  obtain ⟨k, k1, k2, k3, k4, k5, k6⟩ := val_kind hXY m3 m4
  have hk10 : k = 10 := by
    have e := k4.symm.trans hk
    rw [i_eq (by omega) (by decide)] at e
    exact e
  subst hk10
  have hR := k6.2.2.2.2.2 rfl
  obtain ⟨n1, n2, n3⟩ := hN _ m3 m4 hk
  have c3 := cw_run hR n1 n2 n3 (w := 2048) (a := 1) (Or.inl ⟨rfl, rfl⟩)
  have c4 := cw_run hR n1 n2 n3 (w := 4096) (a := 2) (Or.inr ⟨rfl, rfl⟩)
  rw [c3, c4]
  have hvb : vB Y (zmem Y p 5 i) ≤ 120 := k5 ▸ xblock_le hW _
  obtain ⟨k0, hT, hlen, hend, hj⟩ := hR
  have w2 : (xword X (zmem Y p 5 i) 2 = Int32.ofNat 512 ↔ vTr Y (zmem Y p 5 i) = Int32.ofNat 1) ∧ (xword X (zmem Y p 5 i) 2 = Int32.ofNat 1024 ↔ vTr Y (zmem Y p 5 i) = Int32.ofNat 2) := by
    rcases hT with ⟨t1, t2, t3, t4⟩ | ⟨t1, t2, t3, t4⟩ | ⟨t1, t2⟩
    · rw [t1, t3]; decide
    · have := (hj 0 (by omega)).2.2.2.2.2
      rw [show k0 + 4 * 0 = 2 by omega] at this
      rcases this with ⟨-, -, w, a⟩ | ⟨q, -⟩
      · rw [w, t1]; decide
      · exact absurd ⟨rfl, t1⟩ q
    · by_cases c0 : vAM Y (zmem Y p 5 i) = 0
      · rw [c0, show k0 + 4 * 0 = 2 by omega] at hend
        rw [hend, t1]; decide
      · have := (hj 0 (by omega)).2.2.2.2.2
        rw [show k0 + 4 * 0 = 2 by omega] at this
        rcases this with ⟨-, q, -⟩ | ⟨-, ⟨w, a⟩ | ⟨w, a⟩⟩
        · rw [t1] at q; exact absurd q (by decide)
        · rw [w, t1]; decide
        · rw [w, t1]; decide
  have v1 : vTr Y (zmem Y p 5 i) = Int32.ofNat 1 → vLo Y (zmem Y p 5 i) = xval X (zmem Y p 5 i) 3 := by
    intro q
    rcases hT with ⟨t1, t2, t3, t4⟩ | ⟨t1, -⟩ | ⟨t1, -⟩
    · exact t4
    · rw [t1] at q; exact absurd q (by decide)
    · rw [t1] at q; exact absurd q (by decide)
  have q2 : (if vTr Y (zmem Y p 5 i) = Int32.ofNat 2 then Int32.ofNat (zix Y 4 (zpi Y (znth Y 3 0 p) (vAP Y (vAA Y (zmem Y p 5 i))))) else Int32.ofNat 0) = Int32.ofNat (qtrig X (zmem Y p 5 i)) := by
    unfold qtrig
    by_cases c2 : vTr Y (zmem Y p 5 i) = Int32.ofNat 2
    · rw [if_pos c2, if_pos (w2.2.mpr c2)]
      have k0e : k0 = 2 ∧ 1 ≤ vAM Y (zmem Y p 5 i) := by
        rcases hT with ⟨t1, -⟩ | ⟨t1, t2, t3, -⟩ | ⟨t1, -⟩
        · rw [t1] at c2; exact absurd c2 (by decide)
        · exact ⟨t2, t3⟩
        · rw [t1] at c2; exact absurd c2 (by decide)
      have ap := (hj 0 (by omega)).1
      rw [show k0 + 4 * 0 + 1 = 2 + 1 by omega, Nat.add_zero] at ap
      have eu : xused X (zmem Y p 5 i) 2 = zpi Y (znth Y 3 0 p) (vAP Y (vAA Y (zmem Y p 5 i))) := by
        unfold xused
        rw [k5, me4 hXY hW hvb, ap, m2, zpi_eq hXY hB]
      rw [eu, k5, ← m2]
      have en := num_eq hXY hW (s := 4) (q := vB Y (zmem Y p 5 i)) (t := zpi Y (vB Y (zmem Y p 5 i)) (vAP Y (vAA Y (zmem Y p 5 i)))) (by decide) (by decide) hvb zpi_le' (fun q => by
        rw [zpi_eq hXY hB] at q ⊢
        exact me_b q)
      simp only [sm] at en
      rw [en]
    · rw [if_neg c2, if_neg (fun q => c2 (w2.2.mp q))]
  rw [q2]
  have q1 : (if xword X (zmem Y p 5 i) 2 = Int32.ofNat 512 then xval X (zmem Y p 5 i) 3 else Int32.ofNat 0) = (if vTr Y (zmem Y p 5 i) = Int32.ofNat 1 then vLo Y (zmem Y p 5 i) else Int32.ofNat 0) := by
    by_cases c1 : vTr Y (zmem Y p 5 i) = Int32.ofNat 1
    · rw [if_pos c1, if_pos (w2.1.mpr c1), v1 c1]
    · rw [if_neg c1, if_neg (fun q => c1 (w2.1.mp q))]
  rw [q1]
theorem conq_eq {X : jX} {Y : jY} (hXY : jXY X Y) (hW : xWF X) (hS : xRes X) (hB : jBk Y) (hBB : jBB Y) {i what : Int32} : qcon X i what = zcon Y i what := by
  have hn : vN Y ≤ 120 := by have := hW.1; rw [hXY.1] at this; exact this
  have e8 := nth_eq8 hXY (i := i) (q := 0)
  unfold qcon zcon
  rw [e8]
  by_cases c : znth Y 8 0 i = 0
  · rw [if_pos c, if_pos c]; exact jmz
  obtain ⟨m1, m3, m4⟩ := nth_spec c
  have hk : vK Y (znth Y 8 0 i) = Int32.ofNat 12 := by
    unfold zP at m1
    rw [Bool.and_eq_true] at m1
    exact of_decide_eq_true m1.1
  rw [if_neg c, if_neg c]
  generalize znth Y 8 0 i = r at *
  obtain ⟨i1, i2⟩ := inner_eq hXY hW m3 m4 hk
  obtain ⟨p1, p2⟩ := iport_eq hXY hW hS hB m3 m4 hk
  have hvb : vB Y r ≤ 120 := block_eq hXY m3 m4 ▸ xblock_le hW r
  have hvb2 := hW.2.2.2 r m3 (by rw [hXY.1]; exact m4)
  have hb0 : xBl X r = vB Y r := by obtain ⟨k, -, -, -, -, q, -⟩ := hXY.2 r m3 m4; exact q
  have n0 := num_eq hXY hW (s := 3) (q := 0) (t := vB Y r) (by decide) (by decide) (by decide) (by omega) (fun q => hBB r m3 m4 q)
  have n1 := num_eq hXY hW (s := 7) (q := vB Y r) (t := zone Y r) (by decide) (by decide) hvb zme_le' (fun q => me_b q)
  have n3 := num_eq hXY hW (s := 7) (q := vB Y r) (t := ztwo Y r) (by decide) (by decide) hvb zme_le' (fun q => me_b q)
  have np : ∀ t : Nat, t ≤ vN Y → xnum X (Int32.ofNat 96) (Int32.ofNat (xblock X t)) t = zix Y 4 t := fun t ht => num_eq hXY hW (s := 4) (q := xblock X t) (by decide) (by decide) (xblock_le hW t) ht (fun q => (block_eq hXY (by omega) ht).symm)
  simp only [sm] at n0 n1 n3
  unfold qin qip
  rw [i1, i2, p1, p2, block_eq hXY m3 m4, n0, n1, n3, np (zfp Y r) zpi_le', np (zsp Y r) zpi_le']
