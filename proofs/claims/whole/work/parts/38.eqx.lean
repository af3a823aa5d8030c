/-! THE RULES OF CONNECTORS, IN BOTH -/
theorem inner_eq {X : jX} {Y : jY} (hXY : jXY X Y) (hW : xWF X) {r : Nat} (h1 : 1 ≤ r) (h2 : r ≤ vN Y) (hk : vK Y r = Int32.ofNat 12) : xinner X r 1 = zone Y r ∧ xinner X r 5 = ztwo Y r := by
  obtain ⟨k, k1, k2, k3, k4, k5, k6⟩ := val_kind hXY h1 h2
  have hk12 : k = 12 := by
    have e := k4.symm.trans hk
    rw [i_eq (by omega) (by decide)] at e
    exact e
  subst hk12
  have hvb : vB Y r ≤ 120 := k5 ▸ xblock_le hW r
  obtain ⟨s1, s2, s3, s4⟩ := k6.2.2.2.2.1 rfl
  unfold xinner zone ztwo
  rw [k5, me7 hXY hW hvb, me7 hXY hW hvb, s1, s3]
  exact ⟨rfl, rfl⟩
theorem iport_eq {X : jX} {Y : jY} (hXY : jXY X Y) (hW : xWF X) (hS : xRes X) (hB : jBk Y) {r : Nat} (h1 : 1 ≤ r) (h2 : r ≤ vN Y) (hk : vK Y r = Int32.ofNat 12) : xiport X r 1 (zone Y r) = zfp Y r ∧ xiport X r 5 (ztwo Y r) = zsp Y r := by
  obtain ⟨k, k1, k2, k3, k4, k5, k6⟩ := val_kind hXY h1 h2
  have hk12 : k = 12 := by
    have e := k4.symm.trans hk
    rw [i_eq (by omega) (by decide)] at e
    exact e
  subst hk12
  obtain ⟨s1, s2, s3, s4⟩ := k6.2.2.2.2.1 rfl
  have t1 : xtar X (zone Y r) = zpo Y (zone Y r) := tar_inner hXY hW hS
  have t2 : xtar X (ztwo Y r) = zpo Y (ztwo Y r) := tar_inner hXY hW hS
  have b1 := xtar_le hW (zone Y r)
  have b2 := xtar_le hW (ztwo Y r)
  rw [t1] at b1
  rw [t2] at b2
  unfold xiport zfp zsp
  rw [t1, t2, me4 hXY hW b1, me4 hXY hW b2, zpi_eq hXY hB, zpi_eq hXY hB, s2, s4]
  exact ⟨rfl, rfl⟩
theorem me_end {Y : jY} {q : Nat} {n1 n2 : Int32} {X : jX} (hXY : jXY X Y) (hW : xWF X) (hS : xRes X) : yME X (zme Y 7 (vB Y q) n1) (zpi Y (zpo Y (zme Y 7 (vB Y q) n1)) n2) = zBE Y q n1 n2 := by
  unfold yME zBE
  rw [tar_inner hXY hW hS, Bool.and_comm]
theorem ways_eq {X : jX} {Y : jY} (hXY : jXY X Y) {f s : Nat} (hf : f ≤ vN Y) (hs : s ≤ vN Y) : (xkind X f = Int32.ofNat 64 ∨ xkind X s = Int32.ofNat 32) ↔ ((!decide (f = 0) && decide (vK Y f = Int32.ofNat 8)) || (!decide (s = 0) && decide (vK Y s = Int32.ofNat 7))) = true := by
  have hh : ∀ p c : Nat, p ≤ vN Y → 1 ≤ c → c < 14 → ((xkind X p = Int32.ofNat (kb c)) ↔ (!decide (p = 0) && decide (vK Y p = Int32.ofNat c)) = true) := by
    intro p c hp hc hc2
    by_cases c0 : p = 0
    · rw [c0, xkind_0]
      have : ∀ c : Nat, c < 14 → 1 ≤ c → ¬ Int32.ofNat 0 = Int32.ofNat (kb c) := by decide +kernel
      constructor
      · intro q; exact absurd q (this c hc2 hc)
      · intro q; rw [decide_eq_true rfl] at q; cases q
    · rw [kind_iff hXY (by omega) hp c hc hc2, decide_eq_false c0, Bool.not_false, Bool.true_and, decide_eq_true_eq]
  have h8 := hh f 8 hf (by decide) (by decide)
  have h7 := hh s 7 hs (by decide) (by decide)
  simp only [kb] at h8 h7
  rw [Bool.or_eq_true, h8, h7]
theorem type_un {X : jX} {Y : jY} (hXY : jXY X Y) (hW : xWF X) (hS : xRes X) {name : Int32} : xtar X (zme Y 1 0 name) = zUN Y (zme Y 1 0 name) := by
  by_cases c : zme Y 1 0 name = 0
  · rw [c, xtar_0]; rfl
  · obtain ⟨h1, h2, -, h4, h5⟩ := me_spec c
    obtain ⟨k, k1, k2, k3, k4, k5, k6⟩ := hXY.2 _ h4 h5
    rw [tar_eq hXY hW hS h4 h5]
    unfold zres zUN
    rw [if_neg c]
    rw [k4] at h1
    have : ∀ k : Nat, k < 14 → zsrt (Int32.ofNat k) 1 = true → k = 2 := by decide +kernel
    have hk := this k k2 h1
    rw [k4, hk, if_pos rfl]
theorem data_ty {X : jX} {Y : jY} (hXY : jXY X Y) (hW : xWF X) (hS : xRes X) {d : Nat} (h1 : 1 ≤ d) (h2 : d ≤ vN Y) (hk : vK Y d = Int32.ofNat 6) : xtar X d = zme Y 1 0 (vSe Y d) := by
  rw [tar_eq hXY hW hS h1 h2]
  unfold zres
  rw [hk, if_neg (by decide), if_pos (by decide)]
theorem num_val {X : jX} {Y : jY} (hXY : jXY X Y) {p s : Nat} (h1 : 1 ≤ p) (h2 : p ≤ vN Y) (hs : s ≤ 1) (hz : zsrt (vK Y p) s = true) : vLo Y p = xval X p 3 ∧ vHi Y p = xval X p 5 ∧ vSe Y p = xval X p 6 := by
  obtain ⟨k, k1, k2, k3, k4, k5, k6⟩ := hXY.2 _ h1 h2
  rw [k4] at hz
  have : ∀ k : Nat, k < 14 → ∀ s : Nat, s < 2 → zsrt (Int32.ofNat k) s = true → k ≤ 2 := by decide +kernel
  exact k6.2.2.1 (this k k2 s (by omega) hz)
/-- what a datum breaks: 6; 7; 8 once 7 is kept -/
def zDN (Y : jY) (one d : Nat) : Nat := cond (zDD Y one 6 d) 6 (cond (zDD Y one 7 d) 7 (cond (zDD Y one 8 d) 8 0))
theorem datum_eq {X : jX} {Y : jY} (hXY : jXY X Y) (hW : xWF X) (hS : xRes X) {one d : Nat} (h1 : 1 ≤ d) (h2 : d ≤ vN Y) (hk : vK Y d = Int32.ofNat 6) : yDA X (zme Y 9 one (vGi Y d)) d = zDN Y one d := by
  unfold zDN zDD
  rw [if_pos rfl, if_neg (by decide), if_neg (by decide)]
  by_cases c : zme Y 9 one (vGi Y d) = 0
  · unfold yDA
    rw [if_pos c, decide_eq_true c, cond_true]
  · obtain ⟨m1, m2, -, m4, m5⟩ := me_spec c
    have hkt : vK Y (zme Y 9 one (vGi Y d)) = Int32.ofNat 6 := of_decide_eq_true m1
    generalize zme Y 9 one (vGi Y d) = th at *
    rw [decide_eq_false c, cond_false, Bool.not_false, Bool.true_and, Bool.true_and]
    unfold yDA
    rw [if_neg c, data_ty hXY hW hS m4 m5 hkt, data_ty hXY hW hS h1 h2 hk, type_un hXY hW hS, type_un hXY hW hS]
    unfold zBT
    have tv : ∀ name : Int32, zUN Y (zme Y 1 0 name) ≠ 0 → zme Y 1 0 name ≠ 0 := by
      intro name q e
      rw [e] at q
      exact q rfl
    have uv : ∀ p : Nat, zUN Y p ≠ 0 → zsrt (vK Y (zUN Y p)) 0 = true ∧ 1 ≤ zUN Y p ∧ zUN Y p ≤ vN Y := by
      intro p q
      have e : zUN Y p = zme Y 0 0 (vSe Y p) := by
        unfold zUN at q ⊢
        by_cases e : p = 0
        · rw [if_pos e] at q; exact absurd rfl q
        · rw [if_neg e]
      rw [e] at q ⊢
      have := me_spec q
      exact ⟨this.1, this.2.2.2.1, this.2.2.2.2⟩
    have ty1 := tv (vSe Y th)
    have ty2 := tv (vSe Y d)
    have m1s := me_spec (Y := Y) (s := 1) (q := 0) (name := vSe Y th)
    have m2s := me_spec (Y := Y) (s := 1) (q := 0) (name := vSe Y d)
    generalize e1 : zme Y 1 0 (vSe Y th) = p at *
    generalize e2 : zme Y 1 0 (vSe Y d) = q at *
    by_cases c1 : zUN Y p = 0
    · rw [if_pos (Or.inl c1), if_pos c1, if_pos c1, cond_false, cond_false]
    by_cases c2 : zUN Y q = 0
    · rw [if_pos (Or.inr c2), if_neg c1, if_neg c1, if_pos c2, if_pos c2, cond_false, cond_false]
    obtain ⟨u1, u2, u3⟩ := uv p c1
    obtain ⟨w1, w2, w3⟩ := uv q c2
    obtain ⟨p1, -, -, p4, p5⟩ := m1s (ty1 c1)
    obtain ⟨q1, -, -, q4, q5⟩ := m2s (ty2 c2)
    obtain ⟨a1, a2, a3⟩ := num_val hXY u2 u3 (s := 0) (by decide) u1
    obtain ⟨b1, b2, b3⟩ := num_val hXY w2 w3 (s := 0) (by decide) w1
    obtain ⟨c1', c2', c3'⟩ := num_val hXY p4 p5 (s := 1) (by decide) p1
    obtain ⟨d1', d2', d3'⟩ := num_val hXY q4 q5 (s := 1) (by decide) q1
    rw [if_neg (fun z => z.elim c1 c2), if_neg c1, if_neg c1, if_neg c2, if_neg c2, if_pos (show (7 : Nat) = 7 from rfl), if_neg (show ¬ (8 : Nat) = 7 by decide)]
    have tp : xtar X p = zUN Y p := by rw [← e1]; exact type_un hXY hW hS
    have tq : xtar X q = zUN Y q := by rw [← e2]; exact type_un hXY hW hS
    by_cases c3 : vSe Y (zUN Y p) = vSe Y (zUN Y q)
    · rw [if_pos (by rw [← a3, ← b3]; exact c3), decide_eq_true c3, Bool.not_true, cond_false]
      unfold yAM yAP zT1
      rw [tp, tq, ← a1, ← a2, ← b1, ← b2, ← c1', ← c2', ← d1', ← d2', Int64.mul_assoc, Int64.mul_assoc, Int64.mul_assoc, Int64.mul_assoc]
      cases decide ((vLo Y p).toInt64 * ((vLo Y (zUN Y p)).toInt64 * (vHi Y (zUN Y q)).toInt64) < (vLo Y q).toInt64 * ((vLo Y (zUN Y q)).toInt64 * (vHi Y (zUN Y p)).toInt64)) <;> cases decide ((vHi Y q).toInt64 * ((vLo Y (zUN Y q)).toInt64 * (vHi Y (zUN Y p)).toInt64) < (vHi Y p).toInt64 * ((vLo Y (zUN Y p)).toInt64 * (vHi Y (zUN Y q)).toInt64)) <;> rfl
    · rw [if_neg (by rw [← a3, ← b3]; exact c3), decide_eq_false c3, Bool.not_false, cond_true]
/-- the least over all data, against one rule after the other -/
def zDT (Y : jY) (two d : Nat) : Bool := decide (vK Y d = Int32.ofNat 6) && decide (vB Y d = two)
def zMX (Y : jY) (one two : Nat) : Nat → Nat → Nat → Nat
  | 0, _, l => l
  | d + 1, j, l => zMX Y one two d (j + 1) (yLe l (cond (zDT Y two (j + 1)) (zDN Y one (j + 1)) 0))
theorem il_eq {X : jX} {Y : jY} (hXY : jXY X Y) (hW : xWF X) (hS : xRes X) {one two : Nat} (ho : one ≤ 120) : ∀ d j l : Nat, j + d = vN Y → yIL X one two d j l = zMX Y one two d j l
  | 0, _, _, _ => rfl
  | d + 1, j, l, hj => by
    unfold yIL zMX
    rw [il_eq hXY hW hS ho d (j + 1) _ (by omega)]
    congr 2
    obtain ⟨k, k1, k2, k3, k4, k5, k6⟩ := val_kind hXY (r := j + 1) (by omega) (by omega)
    have ki := kind_iff hXY (r := j + 1) (by omega) (by omega) 6 (by decide) (by decide)
    simp only [kb] at ki
    unfold yDR zDT
    by_cases c1 : vK Y (j + 1) = Int32.ofNat 6
    · by_cases c2 : vB Y (j + 1) = two
      · rw [if_pos ⟨by rw [ki]; exact c1, by rw [k5]; exact c2⟩, decide_eq_true c1, decide_eq_true c2, Bool.true_and, cond_true, me9 hXY hW ho]
        have hg := given_eq hXY (s := 9) (r := j + 1) (by decide) (by decide) (by omega) (by omega) (decide_eq_true c1)
        rw [← hg]
        exact datum_eq hXY hW hS (by omega) (by omega) c1
      · rw [if_neg (fun q => c2 (by rw [← k5]; exact q.2)), decide_eq_false c2, Bool.and_false, cond_false]
    · rw [if_neg (fun q => c1 (by rw [← ki]; exact q.1)), decide_eq_false c1, Bool.false_and, cond_false]
theorem jorS_or {P : Nat → Bool} : ∀ (d k : Nat) (m : Bool), jorS P d k m = (m || jorS P d k false)
  | 0, _, m => by unfold jorS; rw [Bool.or_false]
  | d + 1, k, m => by
    unfold jorS
    rw [jorS_or d (k + 1) (m || P (k + 1)), jorS_or d (k + 1) (false || P (k + 1)), Bool.false_or, Bool.or_assoc]
def z678 (l : Nat) (b6 b7 b8 : Bool) : Nat := cond (decide (l = 6) || b6) 6 (cond (decide (l = 7) || b7) 7 (cond (decide (l = 8) || b8) 8 0))
theorem yLe_c : ∀ l : Nat, l < 9 → l = 0 ∨ 6 ≤ l → ∀ n : Nat, n < 9 → n = 0 ∨ 6 ≤ n → ∀ b6 b7 b8 : Bool, z678 (yLe l n) b6 b7 b8 = z678 l (decide (n = 6) || b6) (decide (n = 7) || b7) (decide (n = 8) || b8) := by decide +kernel
theorem yLe_r : ∀ l : Nat, l < 9 → l = 0 ∨ 6 ≤ l → ∀ n : Nat, n < 9 → n = 0 ∨ 6 ≤ n → yLe l n < 9 ∧ (yLe l n = 0 ∨ 6 ≤ yLe l n) := by decide +kernel
theorem zDN_r {Y : jY} {one d : Nat} : zDN Y one d < 9 ∧ (zDN Y one d = 0 ∨ 6 ≤ zDN Y one d) := by
  unfold zDN
  cases zDD Y one 6 d <;> cases zDD Y one 7 d <;> cases zDD Y one 8 d <;> decide
theorem mx_eq {Y : jY} {one two : Nat} : ∀ d j l : Nat, l < 9 → l = 0 ∨ 6 ≤ l → zMX Y one two d j l = z678 l (jorS (fun d => decide (cond (zDT Y two d) (zDN Y one d) 0 = 6)) d j false) (jorS (fun d => decide (cond (zDT Y two d) (zDN Y one d) 0 = 7)) d j false) (jorS (fun d => decide (cond (zDT Y two d) (zDN Y one d) 0 = 8)) d j false)
  | 0, _, l, h1, h2 => by
    have : ∀ l : Nat, l < 9 → l = 0 ∨ 6 ≤ l → l = z678 l false false false := by decide +kernel
    exact this l h1 h2
  | d + 1, j, l, h1, h2 => by
    unfold zMX jorS
    have hn : cond (zDT Y two (j + 1)) (zDN Y one (j + 1)) 0 < 9 ∧ (cond (zDT Y two (j + 1)) (zDN Y one (j + 1)) 0 = 0 ∨ 6 ≤ cond (zDT Y two (j + 1)) (zDN Y one (j + 1)) 0) := by
      cases zDT Y two (j + 1)
      · exact ⟨show (0 : Nat) < 9 by decide, Or.inl rfl⟩
      · exact zDN_r
    have hr := yLe_r l h1 h2 _ hn.1 hn.2
    rw [mx_eq d (j + 1) _ hr.1 hr.2, yLe_c l h1 h2 _ hn.1 hn.2, Bool.false_or, Bool.false_or, Bool.false_or]
    rw [jorS_or d (j + 1) (decide (cond (zDT Y two (j + 1)) (zDN Y one (j + 1)) 0 = 6)), jorS_or d (j + 1) (decide (cond (zDT Y two (j + 1)) (zDN Y one (j + 1)) 0 = 7)), jorS_or d (j + 1) (decide (cond (zDT Y two (j + 1)) (zDN Y one (j + 1)) 0 = 8))]
theorem jorS_false {P : Nat → Bool} : ∀ d k : Nat, jorS P d k false = false → ∀ r, k < r → r ≤ k + d → P r = false
  | 0, k, _, r, h1, h2 => by omega
  | d + 1, k, h, r, h1, h2 => by
    unfold jorS at h
    rw [jorS_or, Bool.or_eq_false_iff, Bool.false_or] at h
    by_cases c : r = k + 1
    · rw [c]; exact h.1
    · exact jorS_false d (k + 1) h.2 r (by omega) (by omega)
theorem jorS_congr {P Q : Nat → Bool} : ∀ (d k : Nat) (m : Bool), (∀ r, k < r → r ≤ k + d → P r = Q r) → jorS P d k m = jorS Q d k m
  | 0, _, _, _ => rfl
  | d + 1, k, m, h => by
    unfold jorS
    rw [h (k + 1) (by omega) (by omega)]
    exact jorS_congr d (k + 1) _ fun r h1 h2 => h r (by omega) (by omega)
/-- the first of the rules 6, 7, 8 that is broken -/
theorem data_eq {Y : jY} {one two : Nat} (n : Nat) : z678 0 (jorS (fun d => decide (cond (zDT Y two d) (zDN Y one d) 0 = 6)) n 0 false) (jorS (fun d => decide (cond (zDT Y two d) (zDN Y one d) 0 = 7)) n 0 false) (jorS (fun d => decide (cond (zDT Y two d) (zDN Y one d) 0 = 8)) n 0 false) = cond (jorS (zDP Y one two 6) n 0 false) 6 (cond (jorS (zDP Y one two 7) n 0 false) 7 (cond (jorS (zDP Y one two 8) n 0 false) 8 0)) := by
  unfold z678
  have e6 : jorS (fun d => decide (cond (zDT Y two d) (zDN Y one d) 0 = 6)) n 0 false = jorS (zDP Y one two 6) n 0 false := by
    refine jorS_congr _ _ _ fun r _ _ => ?_
    unfold zDP zDT zDN
    cases decide (vK Y r = Int32.ofNat 6) <;> cases decide (vB Y r = two) <;> cases zDD Y one 6 r <;> cases zDD Y one 7 r <;> cases zDD Y one 8 r <;> rfl
  rw [e6, decide_eq_false (p := (0 : Nat) = 6) (by decide), decide_eq_false (p := (0 : Nat) = 7) (by decide), decide_eq_false (p := (0 : Nat) = 8) (by decide), Bool.false_or, Bool.false_or, Bool.false_or]
  cases c6 : jorS (zDP Y one two 6) n 0 false
  · rw [cond_false, cond_false]
    have f6 := jorS_false n 0 c6
    have e7 : jorS (fun d => decide (cond (zDT Y two d) (zDN Y one d) 0 = 7)) n 0 false = jorS (zDP Y one two 7) n 0 false := by
      refine jorS_congr _ _ _ fun r r1 r2 => ?_
      have q := f6 r r1 r2
      unfold zDP at q ⊢
      unfold zDT zDN
      revert q
      cases decide (vK Y r = Int32.ofNat 6) <;> cases decide (vB Y r = two) <;> cases zDD Y one 6 r <;> cases zDD Y one 7 r <;> cases zDD Y one 8 r <;> decide
    rw [e7]
    cases c7 : jorS (zDP Y one two 7) n 0 false
    · rw [cond_false, cond_false]
      have f7 := jorS_false n 0 c7
      have e8 : jorS (fun d => decide (cond (zDT Y two d) (zDN Y one d) 0 = 8)) n 0 false = jorS (zDP Y one two 8) n 0 false := by
        refine jorS_congr _ _ _ fun r r1 r2 => ?_
        have q := f6 r r1 r2
        have q7 := f7 r r1 r2
        unfold zDP at q q7 ⊢
        unfold zDT zDN
        revert q q7
        cases decide (vK Y r = Int32.ofNat 6) <;> cases decide (vB Y r = two) <;> cases zDD Y one 6 r <;> cases zDD Y one 7 r <;> cases zDD Y one 8 r <;> decide
      rw [e8]
    · rfl
  · rfl
theorem con_row {X : jX} {Y : jY} (hXY : jXY X Y) {r : Nat} (h1 : 1 ≤ r) (h2 : r ≤ vN Y) (hk : vK Y r = Int32.ofNat 12) : vSe Y r = xval X r 1 ∧ vTh Y r = xval X r 3 ∧ vFo Y r = xval X r 5 ∧ vFi Y r = xval X r 7 := by
  obtain ⟨k, k1, k2, k3, k4, k5, k6⟩ := val_kind hXY h1 h2
  have hk12 : k = 12 := by
    have e := k4.symm.trans hk
    rw [i_eq (by omega) (by decide)] at e
    exact e
  subst hk12
  exact k6.2.2.2.2.1 rfl
theorem twice_eq {X : jX} {Y : jY} (hXY : jXY X Y) {r : Nat} (h1 : 1 ≤ r) (h2 : r ≤ vN Y) (hk : vK Y r = Int32.ofNat 12) (hp : zsp Y r ≠ 0) : yCB X r = jany (zTP Y r) (r - 1) 0 := by
  unfold yCB
  refine jany_congr _ _ fun q a1 a2 => ?_
  have q2 : q ≤ vN Y := by omega
  obtain ⟨s1, s2, s3, s4⟩ := con_row hXY h1 h2 hk
  have ki := kind_iff hXY (r := q) (by omega) q2 12 (by decide) (by decide)
  simp only [kb] at ki
  unfold yCP zTP
  rw [block_eq hXY (by omega) q2, block_eq hXY h1 h2]
  simp only [ki]
  by_cases c1 : vK Y q = Int32.ofNat 12
  · obtain ⟨t1, t2, t3, t4⟩ := con_row hXY (r := q) (by omega) q2 c1
    rw [decide_eq_true c1, Bool.true_and, Bool.true_and]
    by_cases c2 : vB Y q = vB Y r
    · rw [decide_eq_true c2, Bool.true_and, Bool.true_and, ← s3, ← s4, ← t3, ← t4]
      have hz : zsp Y r = zpi Y (zpo Y (ztwo Y r)) (vFi Y r) := rfl
      have hpo : zpo Y (ztwo Y r) ≠ 0 := by
        intro e
        rw [hz, e] at hp
        exact hp rfl
      have htw : ztwo Y r ≠ 0 := by
        intro e
        rw [e] at hpo
        exact hpo rfl
      have hzm : zsp Y r = zme Y 4 (zpo Y (ztwo Y r)) (vFi Y r) := by rw [hz]; exact if_neg hpo
      have g1 : vGi Y (ztwo Y r) = vFo Y r := (me_spec htw).2.2.1
      have g2 : vGi Y (zsp Y r) = vFi Y r := by
        rw [hzm] at hp ⊢
        exact (me_spec hp).2.2.1
      have e3 : (ztwo Y q = ztwo Y r) ↔ (vFo Y q = vFo Y r) := by
        constructor
        · intro e
          have g3 : vGi Y (ztwo Y q) = vFo Y q := (me_spec (Y := Y) (s := 7) (q := vB Y q) (name := vFo Y q) (by have := htw; rw [← e] at this; exact this)).2.2.1
          rw [← g3, e, g1]
        · intro e
          unfold ztwo
          rw [c2, e]
      by_cases c3 : vFo Y q = vFo Y r
      · have et := e3.mpr c3
        rw [decide_eq_true c3, decide_eq_true et, Bool.true_and, Bool.true_and]
        have e4 : (zsp Y q = zsp Y r) ↔ (vFi Y q = vFi Y r) := by
          constructor
          · intro e
            have hq : zsp Y q = zme Y 4 (zpo Y (ztwo Y r)) (vFi Y q) := by
              show zpi Y (zpo Y (ztwo Y q)) (vFi Y q) = _
              rw [et]
              exact if_neg hpo
            have g4 : vGi Y (zsp Y q) = vFi Y q := by
              have hne : zsp Y q ≠ 0 := by rw [e]; exact hp
              rw [hq] at hne ⊢
              exact (me_spec hne).2.2.1
            rw [← g4, e, g2]
          · intro e
            show zpi Y (zpo Y (ztwo Y q)) (vFi Y q) = zpi Y (zpo Y (ztwo Y r)) (vFi Y r)
            rw [et, e]
        by_cases c4 : vFi Y q = vFi Y r
        · rw [decide_eq_true c4, decide_eq_true (e4.mpr c4)]
        · rw [decide_eq_false c4, decide_eq_false (fun z => c4 (e4.mp z))]
      · rw [decide_eq_false c3, decide_eq_false (fun z => c3 (e3.mp z)), Bool.false_and, Bool.false_and]
    · rw [decide_eq_false c2, Bool.false_and, Bool.false_and]
  · rw [decide_eq_false c1, Bool.false_and, Bool.false_and]
theorem con_eq {X : jX} {Y : jY} (hXY : jXY X Y) (hW : xWF X) (hS : xRes X) (hB : jBk Y) {r : Nat} (h1 : 1 ≤ r) (h2 : r ≤ vN Y) (hk : vK Y r = Int32.ofNat 12) : yCO X r = cond (zNA Y r) 2 (cond (zWA Y r) 5 (cond (zDA Y r 6) 6 (cond (zDA Y r 7) 7 (cond (zDA Y r 8) 8 (cond (zTW Y r) 9 0))))) := by
  obtain ⟨i1, i2⟩ := inner_eq hXY hW h1 h2 hk
  obtain ⟨p1, p2⟩ := iport_eq hXY hW hS hB h1 h2 hk
  have e1 : yME X (zone Y r) (zfp Y r) = zBE Y r (vSe Y r) (vTh Y r) := me_end hXY hW hS
  have e2 : yME X (ztwo Y r) (zsp Y r) = zBE Y r (vFo Y r) (vFi Y r) := me_end hXY hW hS
  have f1 : zfp Y r ≤ vN Y := zpi_le'
  have f2 : zsp Y r ≤ vN Y := zpi_le'
  have t1 : xtar X (zfp Y r) = zif Y (zfp Y r) := by
    have : zfp Y r = zme Y 4 (zpo Y (zone Y r)) (vTh Y r) := zpi_eq hXY hB
    rw [this]
    exact tar_port hXY hW hS
  have t2 : xtar X (zsp Y r) = zif Y (zsp Y r) := by
    have : zsp Y r = zme Y 4 (zpo Y (ztwo Y r)) (vFi Y r) := zpi_eq hXY hB
    rw [this]
    exact tar_port hXY hW hS
  have b1 := xtar_le hW (zfp Y r)
  unfold yCO
  rw [i1, i2, p1, p2, e1, e2, t1, t2]
  rw [t1] at b1
  have na : zNA Y r = (zBE Y r (vSe Y r) (vTh Y r) || zBE Y r (vFo Y r) (vFi Y r)) := by
    unfold zNA
    rw [hk, if_neg (by decide), if_neg (by decide), if_neg (by decide), if_neg (by decide), if_neg (by decide), if_neg (by decide), if_neg (by decide), if_pos rfl]
  have wa : zWA Y r = ((!decide (zfp Y r = 0) && decide (vK Y (zfp Y r) = Int32.ofNat 8)) || (!decide (zsp Y r = 0) && decide (vK Y (zsp Y r) = Int32.ofNat 7))) := by
    unfold zWA
    rw [hk, if_neg (by decide), if_pos rfl]
  have ww := ways_eq hXY f1 f2
  rw [na, wa]
  cases (zBE Y r (vSe Y r) (vTh Y r) || zBE Y r (vFo Y r) (vFi Y r))
  · rw [if_neg (by decide), cond_false]
    cases cw : ((!decide (zfp Y r = 0) && decide (vK Y (zfp Y r) = Int32.ofNat 8)) || (!decide (zsp Y r = 0) && decide (vK Y (zsp Y r) = Int32.ofNat 7)))
    · rw [if_neg (fun q => by have := ww.mp q; rw [cw] at this; cases this), cond_false]
      have iff1 : yIF X (zif Y (zfp Y r)) (zif Y (zsp Y r)) = cond (zDA Y r 6) 6 (cond (zDA Y r 7) 7 (cond (zDA Y r 8) 8 0)) := by
        unfold yIF zDA
        by_cases c1 : zif Y (zfp Y r) = 0
        · rw [if_pos (Or.inl c1), if_pos c1, if_pos c1, if_pos c1]
          rfl
        by_cases c2 : zif Y (zsp Y r) = 0
        · rw [if_pos (Or.inr c2), if_neg c1, if_neg c1, if_neg c1, if_pos c2, if_pos c2, if_pos c2]
          rfl
        rw [if_neg (fun q => q.elim c1 c2), if_neg c1, if_neg c1, if_neg c1, if_neg c2, if_neg c2, if_neg c2]
        rw [hXY.1, il_eq hXY hW hS b1 (vN Y) 0 0 (by omega), mx_eq _ _ _ (by decide) (Or.inl rfl), data_eq]
      have tw : (if zsp Y r = 0 then 0 else cond (yCB X r) 9 0) = cond (zTW Y r) 9 0 := by
        unfold zTW
        by_cases c : zsp Y r = 0
        · rw [if_pos c, if_pos c]; rfl
        · rw [if_neg c, if_neg c, twice_eq hXY h1 h2 hk c]
      rw [iff1, tw]
      cases zDA Y r 6 <;> cases zDA Y r 7 <;> cases zDA Y r 8 <;> rfl
    · rw [if_pos (ww.mpr cw)]
      rfl
  · rw [if_pos rfl]
    rfl
