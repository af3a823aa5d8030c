/-! WORDS BY THEIR PACKED OCTETS -/
theorem l_pack {V o : Nat} (ho : o < 256) : (Int64.ofNat V <<< (Int32.toInt64 (Int32.ofNat 8) &&& 63)) ||| Int64.ofNat o = Int64.ofNat (V * 256 + o) := by
  have e8 : (Int32.toInt64 (Int32.ofNat 8) &&& 63) = (8 : Int64) := by decide
  rw [e8]
  apply Int64.toBitVec_inj.mp
  apply BitVec.eq_of_toNat_eq
  have e : ((8 : Int64).toBitVec.smod 64 : BitVec 64) = 8#64 := by decide
  have h1 : ((Int64.ofNat V <<< (8 : Int64)) ||| Int64.ofNat o).toBitVec = (BitVec.ofNat 64 V <<< (8#64 : BitVec 64)) ||| BitVec.ofNat 64 o := by
    rw [Int64.toBitVec_or, Int64.toBitVec_shiftLeft, e]
    rfl
  have h2 : (BitVec.ofNat 64 V <<< (8#64 : BitVec 64)).toNat = (V % 72057594037927936) <<< 8 := by
    rw [BitVec.shiftLeft_eq', BitVec.toNat_shiftLeft, BitVec.toNat_ofNat]
    show ((V % 18446744073709551616) <<< 8) % 18446744073709551616 = (V % 72057594037927936) <<< 8
    rw [Nat.shiftLeft_eq, Nat.shiftLeft_eq]
    omega
  have h3 : (BitVec.ofNat 64 o).toNat = o := by
    rw [BitVec.toNat_ofNat]
    omega
  rw [h1, BitVec.toNat_or, h2, h3, ← Nat.shiftLeft_add_eq_or_of_lt (show o < 2 ^ 8 from ho), Nat.shiftLeft_eq]
  show V % 72057594037927936 * 256 + o = (BitVec.ofNat 64 (V * 256 + o)).toNat
  rw [BitVec.toNat_ofNat]
  omega
def pkl : List Int32 → Nat
  | [] => 0
  | x :: l => x.toNatClampNeg + 256 * pkl l
theorem pkl_snoc {x : Int32} : ∀ l : List Int32, pkl (l ++ [x]) = pkl l + 256 ^ l.length * x.toNatClampNeg
  | [] => by
    show x.toNatClampNeg + 256 * 0 = 0 + 1 * x.toNatClampNeg
    omega
  | y :: l => by
    show y.toNatClampNeg + 256 * pkl (l ++ [x]) = y.toNatClampNeg + 256 * pkl l + 256 ^ (l.length + 1) * x.toNatClampNeg
    rw [pkl_snoc l, Nat.mul_add, Nat.pow_succ, Nat.mul_comm (256 ^ l.length) 256, Nat.mul_assoc, Nat.add_assoc]
theorem cpy_snoc {f : Nat → Int32} : ∀ n p : Nat, cpy f (n + 1) p = cpy f n p ++ [f (p + n)]
  | 0, _ => rfl
  | n + 1, p => by
    show f p :: cpy f (n + 1) (p + 1) = f p :: (cpy f n (p + 1) ++ [f (p + (n + 1))])
    rw [cpy_snoc n (p + 1), show p + 1 + n = p + (n + 1) by omega]
theorem aln_app {l m : List Int32} : aln (l ++ m) ↔ aln l ∧ aln m := by
  unfold aln
  rw [List.all_append, Bool.and_eq_true]
theorem lpk_pkl {f : Nat → Int32} {fr : Nat} : ∀ n V : Nat, aln (cpy f n fr) → lpk f fr n (Int64.ofNat V) = Int64.ofNat (pkl (cpy f n fr) + 256 ^ n * V)
  | 0, V, _ => by
    show Int64.ofNat V = Int64.ofNat (0 + 1 * V)
    rw [Nat.one_mul, Nat.zero_add]
  | n + 1, V, h => by
    rw [cpy_snoc] at h
    obtain ⟨h1, h2⟩ := aln_app.mp h
    obtain ⟨o, ho, eo⟩ := waln_oct (aln_cons.mp h2).1
    have ih := lpk_pkl n (V * 256 + o) h1
    rw [lpk, eo, i_2l (a := o) (by omega), l_pack ho, ih, cpy_snoc, pkl_snoc, cpy_len, eo, i_cl (by omega), Nat.pow_succ]
    congr 1
    rw [Nat.mul_add, Nat.mul_comm V 256, Nat.mul_assoc]
    omega
theorem k_128 : ∀ n : Nat, n < 256 → waln (Int32.ofNat n) = true → n < 128 ∧ 1 ≤ n := by decide +kernel
theorem pkl_lt : ∀ l : List Int32, aln l → 2 * pkl l < 256 ^ l.length
  | [], _ => by decide
  | x :: l, h => by
    obtain ⟨h1, h2⟩ := aln_cons.mp h
    have ih := pkl_lt l h2
    obtain ⟨o, ho, rfl⟩ := waln_oct h1
    have k := k_128 o ho h1
    show 2 * ((Int32.ofNat o).toNatClampNeg + 256 * pkl l) < 256 ^ (l.length + 1)
    rw [i_cl (by omega), Nat.pow_succ]
    omega
theorem pkl_big {l : List Int32} (h : aln l) (hl : l.length ≤ 8) : pkl l < 9223372036854775808 := by
  have h1 := pkl_lt l h
  have h2 : 256 ^ l.length ≤ 256 ^ 8 := Nat.pow_le_pow_right (by decide) hl
  have h3 : 256 ^ 8 = 18446744073709551616 := by decide
  omega
def oct8 : Nat → Nat → List Int32
  | 0, _ => []
  | d + 1, n => if n = 0 then [] else Int32.ofNat (n % 256) :: oct8 d (n / 256)
theorem oct8_pkl : ∀ (l : List Int32) (d : Nat), aln l → l.length ≤ d → oct8 d (pkl l) = l
  | [], 0, _, _ => rfl
  | [], d + 1, _, _ => rfl
  | x :: l, 0, _, h => absurd h (Nat.not_succ_le_zero _)
  | x :: l, d + 1, h, hd => by
    obtain ⟨h1, h2⟩ := aln_cons.mp h
    obtain ⟨o, ho, rfl⟩ := waln_oct h1
    have k := k_128 o ho h1
    have ih := oct8_pkl l d h2 (Nat.le_of_succ_le_succ hd)
    have e0 : pkl (Int32.ofNat o :: l) = o + 256 * pkl l := by
      show (Int32.ofNat o).toNatClampNeg + 256 * pkl l = o + 256 * pkl l
      rw [i_cl (by omega)]
    have e1 : pkl (Int32.ofNat o :: l) % 256 = o := by omega
    have e2 : pkl (Int32.ofNat o :: l) / 256 = pkl l := by omega
    unfold oct8
    rw [if_neg (by omega), e1, e2, ih]
theorem rwc_spec {n : Nat} (hn : n < 9223372036854775808) : rwc (Int64.ofNat n) = 0 ∨ ∃ j : Nat, j < 16 ∧ oct8 8 n = Wd j := by
  by_cases c0 : Int64.ofNat n = (1953066613 : Int64)
  · have e : n = 1953066613 := (l_eq hn (by decide)).mp c0
    exact Or.inr ⟨0, by decide, by rw [e]; decide +kernel⟩
  by_cases c1 : Int64.ofNat n = (1701869940 : Int64)
  · have e : n = 1701869940 := (l_eq hn (by decide)).mp c1
    exact Or.inr ⟨1, by decide, by rw [e]; decide +kernel⟩
  by_cases c2 : Int64.ofNat n = (1635017060 : Int64)
  · have e : n = 1635017060 := (l_eq hn (by decide)).mp c2
    exact Or.inr ⟨3, by decide, by rw [e]; decide +kernel⟩
  by_cases c3 : Int64.ofNat n = (1953653104 : Int64)
  · have e : n = 1953653104 := (l_eq hn (by decide)).mp c3
    exact Or.inr ⟨4, by decide, by rw [e]; decide +kernel⟩
  by_cases c4 : Int64.ofNat n = (8315162691130847856 : Int64)
  · have e : n = 8315162691130847856 := (l_eq hn (by decide)).mp c4
    exact Or.inr ⟨5, by decide, by rw [e]; decide +kernel⟩
  by_cases c5 : Int64.ofNat n = (8315178084276987250 : Int64)
  · have e : n = 8315178084276987250 := (l_eq hn (by decide)).mp c5
    exact Or.inr ⟨6, by decide, by rw [e]; decide +kernel⟩
  by_cases c6 : Int64.ofNat n = (495806932331 : Int64)
  · have e : n = 495806932331 := (l_eq hn (by decide)).mp c6
    exact Or.inr ⟨7, by decide, by rw [e]; decide +kernel⟩
  by_cases c7 : Int64.ofNat n = (7239026 : Int64)
  · have e : n = 7239026 := (l_eq hn (by decide)).mp c7
    exact Or.inr ⟨8, by decide, by rw [e]; decide +kernel⟩
  by_cases c8 : Int64.ofNat n = (521610294885 : Int64)
  · have e : n = 521610294885 := (l_eq hn (by decide)).mp c8
    exact Or.inr ⟨9, by decide, by rw [e]; decide +kernel⟩
  by_cases c9 : Int64.ofNat n = (28271 : Int64)
  · have e : n = 28271 := (l_eq hn (by decide)).mp c9
    exact Or.inr ⟨10, by decide, by rw [e]; decide +kernel⟩
  by_cases c10 : Int64.ofNat n = (495605343602 : Int64)
  · have e : n = 495605343602 := (l_eq hn (by decide)).mp c10
    exact Or.inr ⟨11, by decide, by rw [e]; decide +kernel⟩
  by_cases c11 : Int64.ofNat n = (126879581958775 : Int64)
  · have e : n = 126879581958775 := (l_eq hn (by decide)).mp c11
    exact Or.inr ⟨12, by decide, by rw [e]; decide +kernel⟩
  by_cases c12 : Int64.ofNat n = (435610937463 : Int64)
  · have e : n = 435610937463 := (l_eq hn (by decide)).mp c12
    exact Or.inr ⟨13, by decide, by rw [e]; decide +kernel⟩
  by_cases c13 : Int64.ofNat n = (32760384594014051 : Int64)
  · have e : n = 32760384594014051 := (l_eq hn (by decide)).mp c13
    exact Or.inr ⟨14, by decide, by rw [e]; decide +kernel⟩
  by_cases c14 : Int64.ofNat n = (28532 : Int64)
  · have e : n = 28532 := (l_eq hn (by decide)).mp c14
    exact Or.inr ⟨15, by decide, by rw [e]; decide +kernel⟩
  refine Or.inl ?_
  unfold rwc
  rw [if_neg c0, if_neg c1, if_neg c2, if_neg c3, if_neg c4, if_neg c5, if_neg c6, if_neg c7, if_neg c8, if_neg c9, if_neg c10, if_neg c11, if_neg c12, if_neg c13, if_neg c14]
theorem k_rwc : ∀ j : Nat, j < 16 → j ≠ 2 → rwc (Int64.ofNat (pkl (Wd j))) = j + 1 := by decide +kernel
theorem k_W9 : ∀ j : Nat, j < 16 → ((Wd j).length = 9 ↔ j = 2) ∧ (Wd j).length ≤ 9 := by decide +kernel
/-- both look a word up alike -/
theorem rwo_wix {f : Nat → Int32} {fr ln : Nat} (h1 : 1 ≤ ln) (hl : ln ≤ 12) (ha : aln (cpy f ln fr)) : rwo f fr ln = wix (cpy f ln fr) := by
  have hlen : (cpy f ln fr).length = ln := cpy_len ln fr
  unfold rwo
  by_cases c9 : ln = 9
  · subst c9
    rw [if_pos rfl]
    have ha8 : aln (cpy f 8 fr) := (aln_app.mp (cpy_snoc (f := f) 8 fr ▸ ha)).1
    have e8 := lpk_pkl (f := f) (fr := fr) 8 0 ha8
    rw [Nat.mul_zero, Nat.add_zero] at e8
    have e8' : lpk f fr 8 0 = Int64.ofNat (pkl (cpy f 8 fr)) := e8
    have hb := pkl_big ha8 (by rw [cpy_len]; decide)
    by_cases c : lpk f fr 8 0 = (7161117524010233449 : Int64) ∧ f (fr + 8) = Int32.ofNat 101
    · rw [if_pos c]
      have c1 : pkl (cpy f 8 fr) = 7161117524010233449 := (l_eq hb (by decide)).mp (e8'.symm.trans c.1)
      have c2 : cpy f 8 fr = oct8 8 7161117524010233449 := by rw [← c1, oct8_pkl _ _ ha8 (by rw [cpy_len]; decide)]
      rw [cpy_snoc, c2, c.2]
      decide +kernel
    · rw [if_neg c]
      rcases wix_spec (cpy f 9 fr) with ⟨e, -⟩ | ⟨j, hj, e, e2⟩
      · exact e.symm
      · exfalso
        have k := k_W9 j hj
        rw [e2, hlen] at k
        have j2 := k.1.mp rfl
        subst j2
        apply c
        have q9 : cpy f 8 fr ++ [f (fr + 8)] = oct8 8 7161117524010233449 ++ [Int32.ofNat 101] := by
          rw [← cpy_snoc, ← e2]
          decide +kernel
        obtain ⟨q1, q2⟩ := List.append_inj' q9 rfl
        refine ⟨?_, (List.cons.inj q2).1⟩
        rw [e8', q1]
        decide +kernel
  rw [if_neg c9]
  by_cases c8 : 8 < ln
  · rw [if_pos c8]
    rcases wix_spec (cpy f ln fr) with ⟨e, -⟩ | ⟨j, hj, e, e2⟩
    · exact e.symm
    · have k := (k_W9 j hj).2
      rw [e2, hlen] at k
      omega
  · rw [if_neg c8]
    have e8 := lpk_pkl (f := f) (fr := fr) ln 0 ha
    rw [Nat.mul_zero, Nat.add_zero] at e8
    have e8' : lpk f fr ln 0 = Int64.ofNat (pkl (cpy f ln fr)) := e8
    have hb := pkl_big ha (by rw [hlen]; omega)
    rw [e8']
    rcases wix_spec (cpy f ln fr) with ⟨e, en⟩ | ⟨j, hj, e, e2⟩
    · rw [e]
      rcases rwc_spec hb with r | ⟨j, hj, r⟩
      · exact r
      · rw [oct8_pkl _ _ ha (by rw [hlen]; omega)] at r
        exact absurd r.symm (en j hj)
    · rw [e, ← e2]
      refine k_rwc j hj fun j2 => ?_
      have k := (k_W9 j hj).1.mpr j2
      rw [e2, hlen] at k
      exact c9 k
