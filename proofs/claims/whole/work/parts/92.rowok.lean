/-! A FINISHED ROW IN BOTH -/
/-- an int as a number, whatever its sign -/
def ntf (x : Int32) : Nat := x.toBitVec.toNat
theorem ofn_ntf (x : Int32) : Int32.ofNat (ntf x) = x := by
  apply Int32.toBitVec_inj.mp
  apply BitVec.eq_of_toNat_eq
  show (BitVec.ofNat 32 x.toBitVec.toNat).toNat = x.toBitVec.toNat
  rw [BitVec.toNat_ofNat]
  exact Nat.mod_eq_of_lt x.toBitVec.isLt
theorem ntf_of {a : Nat} (h : a < 2147483648) : ntf (Int32.ofNat a) = a := by
  show (BitVec.ofNat 32 a).toNat = a
  rw [BitVec.toNat_ofNat]
  exact Nat.mod_eq_of_lt (by omega)
def yA (N : Nat) (B : Nat → Nat → Int32) : jY := (N, fun r => B 4 (r - 1), fun r => ntf (B 5 (r - 1) + Int32.ofNat 1), fun r => B 6 (r - 1), fun r => B 7 (r - 1), fun r => B 8 (r - 1), fun r => B 9 (r - 1), fun r => B 10 (r - 1), fun r => B 11 (r - 1), fun r => B 12 (r - 1), fun r => B 13 (r - 1), fun r => ntf (B 14 (r - 1)), fun r => ntf (B 15 (r - 1)), B 16, B 17, B 18, B 19, fun i => ntf (B 20 i))
def lRun (L : List (Int32 × Int32)) (Y : jY) (r : Nat) : Prop :=
  ∃ k0 : Nat, (vTr Y r = Int32.ofNat 1 ∧ k0 = 4 ∧ lw L 2 = Int32.ofNat 512 ∧ vLo Y r = lv L 3 ∨ vTr Y r = Int32.ofNat 2 ∧ k0 = 2 ∧ 1 ≤ vAM Y r ∧ vAK Y (vAA Y r) = Int32.ofNat 0 ∨ vTr Y r = Int32.ofNat 0 ∧ k0 = 2) ∧ L.length = k0 + 4 * vAM Y r + 1 ∧ lw L (k0 + 4 * vAM Y r) = Int32.ofNat 0 ∧
  ∀ j : Nat, j < vAM Y r → vAP Y (vAA Y r + j) = lv L (k0 + 4 * j + 1) ∧ vAD Y (vAA Y r + j) = lv L (k0 + 4 * j + 3) ∧ lw L (k0 + 4 * j + 1) = Int32.ofNat 0 ∧ lw L (k0 + 4 * j + 2) = Int32.ofNat 0 ∧ lw L (k0 + 4 * j + 3) = Int32.ofNat 0 ∧ (j = 0 ∧ vTr Y r = Int32.ofNat 2 ∧ lw L (k0 + 4 * j) = Int32.ofNat 1024 ∧ vAK Y (vAA Y r + j) = Int32.ofNat 0 ∨ ¬ (j = 0 ∧ vTr Y r = Int32.ofNat 2) ∧ (lw L (k0 + 4 * j) = Int32.ofNat 2048 ∧ vAK Y (vAA Y r + j) = Int32.ofNat 1 ∨ lw L (k0 + 4 * j) = Int32.ofNat 4096 ∧ vAK Y (vAA Y r + j) = Int32.ofNat 2))
def lRow (L : List (Int32 × Int32)) (Y : jY) (r k : Nat) : Prop :=
  (k < 12 → vGi Y r = lv L 1 ∧ vGi Y r ≠ Int32.ofNat 0) ∧ (12 ≤ k → vGi Y r = Int32.ofNat 0) ∧ (k ≤ 2 → vLo Y r = lv L 3 ∧ vHi Y r = lv L 5 ∧ vSe Y r = lv L 6) ∧ (k = 6 ∨ k = 7 ∨ k = 8 ∨ k = 9 ∨ k = 11 → vSe Y r = lv L 3) ∧ (k = 12 → vSe Y r = lv L 1 ∧ vTh Y r = lv L 3 ∧ vFo Y r = lv L 5 ∧ vFi Y r = lv L 7) ∧ (k = 10 → lRun L Y r)
theorem jRow_of {X : jX} {Y : jY} {r k : Nat} (h1 : 1 ≤ r) (h2 : r ≤ xRc X) (h : lRow (tks X r) Y r k) : jRow X Y r k := by
  have ev : ∀ k, xval X r k = lv (tks X r) k := fun k => xval_tks h1 h2
  have ew : ∀ k, xword X r k = lw (tks X r) k := fun k => xword_tks h1 h2
  unfold jRow jRun
  simp only [ev, ew, xlen_tks h1 h2]
  exact h
theorem lRow_congr {L : List (Int32 × Int32)} {Y Y' : jY} {r k : Nat} (eGi : vGi Y' r = vGi Y r) (eSe : vSe Y' r = vSe Y r) (eTh : vTh Y' r = vTh Y r) (eFo : vFo Y' r = vFo Y r) (eFi : vFi Y' r = vFi Y r) (eLo : vLo Y' r = vLo Y r) (eHi : vHi Y' r = vHi Y r) (eTr : vTr Y' r = vTr Y r) (eAA : vAA Y' r = vAA Y r) (eAM : vAM Y' r = vAM Y r) (hK : ∀ j : Nat, j < vAM Y r → vAK Y' (vAA Y r + j) = vAK Y (vAA Y r + j) ∧ vAP Y' (vAA Y r + j) = vAP Y (vAA Y r + j) ∧ vAD Y' (vAA Y r + j) = vAD Y (vAA Y r + j)) (h : lRow L Y r k) : lRow L Y' r k := by
  obtain ⟨h1, h2, h3, h4, h5, h6⟩ := h
  unfold lRow
  rw [eGi, eSe, eTh, eFo, eFi, eLo, eHi]
  refine ⟨h1, h2, h3, h4, h5, fun e => ?_⟩
  obtain ⟨k0, t1, t2, t3, t4⟩ := h6 e
  unfold lRun
  rw [eTr, eLo, eAA, eAM]
  refine ⟨k0, ?_, t2, t3, fun j hj => ?_⟩
  · rcases t1 with t | t | t
    · exact Or.inl t
    · refine Or.inr (Or.inl ⟨t.1, t.2.1, t.2.2.1, ?_⟩)
      have := (hK 0 t.2.2.1).1
      rw [Nat.add_zero] at this
      rw [this]
      exact t.2.2.2
    · exact Or.inr (Or.inr t)
  · rw [(hK j hj).1, (hK j hj).2.1, (hK j hj).2.2]
    exact t4 j hj
/-- a row's kind by its tokens -/
def kt (L : List (Int32 × Int32)) : Int32 := if ls L 0 = Int32.ofNat 4 then Int32.ofNat 131072 else if ls L 0 = Int32.ofNat 1 then (if lv L 0 = Int32.ofNat 16 ∧ ls L 2 = Int32.ofNat 4 ∧ lv L 2 = Int32.ofNat 58 then Int32.ofNat 65536 else lv L 0) else Int32.ofNat 0
theorem kt_w {L : List (Int32 × Int32)} {w : Int32} (h1 : ls L 0 = Int32.ofNat 1) (h2 : lv L 0 = w) (h3 : w ≠ Int32.ofNat 16 ∨ lv L 2 ≠ Int32.ofNat 58) : kt L = w := by
  unfold kt
  rw [if_neg (by rw [h1]; decide), if_pos h1, if_neg, h2]
  rintro ⟨z1, -, z2⟩
  rcases h3 with z | z
  · exact z (h2.symm.trans z1)
  · exact z z2
theorem kt_i {L : List (Int32 × Int32)} {w : Int32} (h1 : ls L 0 = Int32.ofNat 1) (h2 : lv L 0 = w) (h3 : ls L 2 = Int32.ofNat 4) (h4 : lv L 2 = Int32.ofNat 58) : kt L = if w = Int32.ofNat 16 then Int32.ofNat 65536 else w := by
  unfold kt
  rw [if_neg (by rw [h1]; decide), if_pos h1, h2]
  by_cases c : w = Int32.ofNat 16
  · rw [if_pos ⟨c, h3, h4⟩, if_pos c]
  · rw [if_neg (fun z => c z.1), if_neg c]
def RowOk (A : Nat → Nat → Int32) (X : jX) (ac r : Nat) : Prop := ∃ k : Nat, 1 ≤ k ∧ k < 14 ∧ xKi X r = Int32.ofNat (kb k) ∧ A 4 (r - 1) = Int32.ofNat k ∧ A 5 (r - 1) = jm (xBl X r) ∧ xBl X r < r ∧ (k ≤ 5 ↔ xBl X r = 0) ∧ (xBl X r ≠ 0 → xBl X (xBl X r) = 0) ∧ (∃ aa am : Nat, A 14 (r - 1) = Int32.ofNat aa ∧ A 15 (r - 1) = Int32.ofNat am ∧ aa + am ≤ ac) ∧ lRow (tks X r) (yA 0 A) r k ∧ (k = 10 → lw (tks X r) 0 = Int32.ofNat 256 ∧ lw (tks X r) 1 = Int32.ofNat 0 ∧ (A 13 (r - 1) = Int32.ofNat 1 → lw (tks X r) 3 = Int32.ofNat 0)) ∧ (k = 1 → ∃ m n : Nat, 1 ≤ m ∧ m ≤ 9999 ∧ 1 ≤ n ∧ n ≤ 9999 ∧ lv (tks X r) 3 = Int32.ofNat m ∧ lv (tks X r) 5 = Int32.ofNat n) ∧ kt (tks X r) = Int32.ofNat (kb k)
/-- the rows' numbers at one place, in two families of arrays -/
def agr (A A' : Nat → Nat → Int32) (i : Nat) : Prop := ∀ k : Nat, 4 ≤ k → k ≤ 15 → A' k i = A k i
def agc (A A' : Nat → Nat → Int32) (ac : Nat) : Prop := ∀ k : Nat, 16 ≤ k → k ≤ 18 → ∀ j : Nat, j < ac → A' k j = A k j
theorem RowOk_mono {A A' : Nat → Nat → Int32} {X X' : jX} {ac ac' r : Nat} (hr1 : agr A A' (r - 1)) (hc : agc A A' ac) (ha : ac ≤ ac') (ha2 : ac ≤ 600) (ht : tks X' r = tks X r) (hk : xKi X' r = xKi X r) (hb : xBl X' r = xBl X r) (hbb : xBl X r < r → xBl X' (xBl X r) = xBl X (xBl X r)) (h : RowOk A X ac r) : RowOk A' X' ac' r := by
  obtain ⟨k, k1, k2, k3, k4, k5, k6, k7, k8, ⟨aa, am, k9, k10, k11⟩, k12, k13, k14, k15⟩ := h
  have e : ∀ k, 4 ≤ k → k ≤ 15 → A' k (r - 1) = A k (r - 1) := hr1
  unfold RowOk
  rw [ht, hk, hb, hbb k6, e 4 (by decide) (by decide), e 5 (by decide) (by decide), e 13 (by decide) (by decide), e 14 (by decide) (by decide), e 15 (by decide) (by decide)]
  refine ⟨k, k1, k2, k3, k4, k5, k6, k7, k8, ⟨aa, am, k9, k10, by omega⟩, ?_, k13, k14, k15⟩
  have vAM0 : vAM (yA 0 A) r = am := by
    show ntf (A 15 (r - 1)) = am
    rw [k10, ntf_of (by omega)]
  have vAA0 : vAA (yA 0 A) r = aa := by
    show ntf (A 14 (r - 1)) = aa
    rw [k9, ntf_of (by omega)]
  refine lRow_congr (Y := yA 0 A) (e 6 (by decide) (by decide)) (e 7 (by decide) (by decide)) (e 8 (by decide) (by decide)) (e 9 (by decide) (by decide)) (e 10 (by decide) (by decide)) (e 11 (by decide) (by decide)) (e 12 (by decide) (by decide)) (e 13 (by decide) (by decide)) ?_ ?_ ?_ k12
  · show ntf (A' 14 (r - 1)) = ntf (A 14 (r - 1))
    rw [e 14 (by decide) (by decide)]
  · show ntf (A' 15 (r - 1)) = ntf (A 15 (r - 1))
    rw [e 15 (by decide) (by decide)]
  · rw [vAM0, vAA0]
    intro j hj
    exact ⟨hc 16 (by decide) (by decide) _ (by omega), hc 17 (by decide) (by decide) _ (by omega), hc 18 (by decide) (by decide) _ (by omega)⟩
