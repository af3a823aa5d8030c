/-! SIGN OF THE REFERENCE -/
theorem sh_255 (x : BitVec 32) (k : Nat) (hk : k ≤ 24) : (x.sshiftRight k &&& 255#32) = (x >>> k &&& 255#32) := by
  apply BitVec.eq_of_getLsbD_eq
  intro i hi
  rw [BitVec.getLsbD_and, BitVec.getLsbD_and]
  by_cases c : i < 8
  · rw [BitVec.getLsbD_sshiftRight, BitVec.getLsbD_ushiftRight, if_pos (by omega)]
    have : ¬ 32 ≤ i := by omega
    rw [decide_eq_false this, Bool.not_false, Bool.true_and]
  · have e : (255#32).getLsbD i = false := by
      have : ∀ i : Nat, i < 32 → ¬ i < 8 → (255#32).getLsbD i = false := by decide +kernel
      exact this i hi c
    rw [e, Bool.and_false, Bool.and_false]
theorem so_24 (c : Int32) : (c >>> (Int32.ofNat 24 &&& 31)) &&& Int32.ofNat 255 = soct c 24 := by
  apply Int32.toBitVec.inj
  exact sh_255 c.toBitVec 24 (by decide)
theorem so_16 (c : Int32) : (c >>> (Int32.ofNat 16 &&& 31)) &&& Int32.ofNat 255 = soct c 16 := by
  apply Int32.toBitVec.inj
  exact sh_255 c.toBitVec 16 (by decide)
theorem so_8 (c : Int32) : (c >>> (Int32.ofNat 8 &&& 31)) &&& Int32.ofNat 255 = soct c 8 := by
  apply Int32.toBitVec.inj
  exact sh_255 c.toBitVec 8 (by decide)
theorem so_0 (c : Int32) : (c >>> (Int32.ofNat 0 &&& 31)) &&& Int32.ofNat 255 = soct c 0 := by
  apply Int32.toBitVec.inj
  exact sh_255 c.toBitVec 0 (by decide)
