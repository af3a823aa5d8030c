/-! A TEXT IS READ -/
theorem lnm_le {f : Nat → Int32} {len : Nat} : ∀ (d p : Nat) (y g : Int64), p ≤ len → p ≤ (lnm f len d p y g).2 ∧ (lnm f len d p y g).2 ≤ len
  | 0, p, y, g, h => ⟨Nat.le_refl _, h⟩
  | d + 1, p, y, g, h => by
    unfold lnm
    split
    · rename_i c
      have hp : p < len := by
        apply Classical.byContradiction
        intro q
        rw [(toc_out q).1] at c
        exact absurd c (by decide)
      have := lnm_le (f := f) d (p + 1) (y + (wcode (toc f len p)).toInt64 * g) (g * 37) hp
      exact ⟨by omega, this.2⟩
    · exact ⟨Nat.le_refl _, h⟩
theorem lnb_le {f : Nat → Int32} {len : Nat} : ∀ (d p : Nat) (v : Int32), p ≤ len → p ≤ (lnb f len d p v).2 ∧ (lnb f len d p v).2 ≤ len
  | 0, p, v, h => ⟨Nat.le_refl _, h⟩
  | d + 1, p, v, h => by
    unfold lnb
    split
    · rename_i c
      have hp : p < len := by
        apply Classical.byContradiction
        intro q
        rw [(toc_out q).2.1] at c
        cases c
      have := lnb_le (f := f) d (p + 1) (v * Int32.ofNat 10 + toc f len p - Int32.ofNat 48) hp
      exact ⟨by omega, this.2⟩
    · exact ⟨Nat.le_refl _, h⟩
theorem wcode_pos {n : Nat} (hn : n < 256) (h : wlet (Int32.ofNat n) = true ∨ wdig (Int32.ofNat n) = true) : Int32.ofNat 0 < wcode (Int32.ofNat n) := by
  have : ∀ n : Nat, n < 256 → wlet (Int32.ofNat n) = true ∨ wdig (Int32.ofNat n) = true → Int32.ofNat 0 < wcode (Int32.ofNat n) := by decide +kernel
  exact this n hn h
theorem so5 {p q : Prop} {x y z : Int32} (hx : x.toInt8.toInt32 = x) (hy : y.toInt8.toInt32 = y) (hz : z.toInt8.toInt32 = z) [Decidable p] [Decidable q] : (if p then x else if q then y else z).toInt8.toInt32 = (if p then x else if q then y else z) := by
  split
  · exact hx
  · split
    · exact hy
    · exact hz
theorem so3 {p : Prop} {x y : Int32} (hx : x.toInt8.toInt32 = x) (hy : y.toInt8.toInt32 = y) [Decidable p] : (if p then x else y).toInt8.toInt32 = (if p then x else y) := by
  split
  · exact hx
  · exact hy
theorem k_so : (Int32.ofNat 1).toInt8.toInt32 = Int32.ofNat 1 ∧ (Int32.ofNat 2).toInt8.toInt32 = Int32.ofNat 2 ∧ (Int32.ofNat 3).toInt8.toInt32 = Int32.ofNat 3 ∧ (Int32.ofNat 4).toInt8.toInt32 = Int32.ofNat 4 ∧ (Int32.ofNat 5).toInt8.toInt32 = Int32.ofNat 5 ∧ (Int32.ofNat 6).toInt8.toInt32 = Int32.ofNat 6 := by decide
theorem scF_ok {wn : Nat → Int64} {f : Nat → Int32} {len : Nat} {q : Int64 × Nat} {c : jS} : sOk (scF wn f len q c) := so5 (p := Int32.ofNat 0 < wcode (toc f len q.2)) (q := wbit wn q.1 = Int32.ofNat 0) k_so.2.2.2.2.1 k_so.2.1 k_so.1
theorem scU_ok {f : Nat → Int32} {len : Nat} {q : Int32 × Nat} {c : jS} : sOk (scU f len q c) := so3 (p := Int32.ofNat 0 < wcode (toc f len q.2)) k_so.2.2.2.2.1 k_so.2.2.1
/-- a token ends behind where it began; its sort is small -/
theorem adv_ok {wn : Nat → Int64} {f : Nat → Int32} {len : Nat} {c : jS} (hO : fOct f len) (hc : c.1 ≤ len) : (adv wn f len c).1 ≤ len ∧ sOk (adv wn f len c) ∧ ((adv wn f len c).2.2.1 ≠ Int32.ofNat 6 → c.1 < (adv wn f len c).1) := by
  have hs := lsk_le (f := f) 2001 c.1 c.2.1 hc
  unfold adv
  generalize lsk f len 2001 c.1 c.2.1 = q at *
  by_cases c1 : toc f len q.1 < Int32.ofNat 0
  · rw [if_pos c1]
    exact ⟨hs.1, k_so.2.2.2.2.2, fun z => absurd rfl z⟩
  rw [if_neg c1]
  have hp : q.1 < len := by
    apply Classical.byContradiction
    intro z
    rw [(toc_out z).2.2.2] at c1
    exact c1 (by decide)
  obtain ⟨n, hn, en⟩ := hO q.1 hp
  have et : toc f len q.1 = Int32.ofNat n := by rw [← en]; exact if_pos hp
  by_cases c2 : wlet (toc f len q.1) = true
  · rw [if_pos c2]
    have l1 : lnm f len 12 q.1 0 1 = lnm f len 11 (q.1 + 1) (0 + (wcode (toc f len q.1)).toInt64 * 1) (1 * 37) := by
      rw [lnm, if_pos (by rw [et]; exact wcode_pos hn (Or.inl (et ▸ c2)))]
    have l2 := lnm_le (f := f) (len := len) 11 (q.1 + 1) (0 + (wcode (toc f len q.1)).toInt64 * 1) (1 * 37) hp
    rw [← l1] at l2
    generalize lnm f len 12 q.1 0 1 = z at *
    exact ⟨l2.2, scF_ok, fun _ => Nat.lt_of_le_of_lt hs.2 l2.1⟩
  rw [if_neg c2]
  by_cases c3 : wdig (toc f len q.1) = true
  · rw [if_pos c3]
    have l1 : lnb f len 6 q.1 (Int32.ofNat 0) = lnb f len 5 (q.1 + 1) (Int32.ofNat 0 * Int32.ofNat 10 + toc f len q.1 - Int32.ofNat 48) := by
      rw [lnb, if_pos c3]
    have l2 := lnb_le (f := f) (len := len) 5 (q.1 + 1) (Int32.ofNat 0 * Int32.ofNat 10 + toc f len q.1 - Int32.ofNat 48) hp
    rw [← l1] at l2
    generalize lnb f len 6 q.1 (Int32.ofNat 0) = z at *
    exact ⟨l2.2, scU_ok, fun _ => Nat.lt_of_le_of_lt hs.2 l2.1⟩
  rw [if_neg c3]
  have l3 : c.1 < q.1 + 1 := Nat.lt_succ_of_le hs.2
  cases wsgn (toc f len q.1)
  · exact ⟨hp, k_so.2.2.2.2.1, fun _ => l3⟩
  · exact ⟨hp, k_so.2.2.2.1, fun _ => l3⟩
def dOv (D : jR) : Bool := decide (jlen.getD D.2.1 0 ≤ D.2.2.1)
def fl (wn : Nat → Int64) (f : Nat → Int32) (len : Nat) : Nat → jS → jR → jX → Bool × jS × jR × jX
  | 0, c, D, X => (false, c, D, X)
  | n + 1, c, D, X => if (adv wn f len c).2.2.1 = Int32.ofNat 6 then (decide (D.1 = 0) && dOv D, adv wn f len c, D, X) else if (cond (dOv D) (tBe (adv wn f len c) D X) (tSt (adv wn f len c) D X)).1 = true then fl wn f len n (adv wn f len c) (cond (dOv D) (tBe (adv wn f len c) D X) (tSt (adv wn f len c) D X)).2.1 (cond (dOv D) (tBe (adv wn f len c) D X) (tSt (adv wn f len c) D X)).2.2 else (false, adv wn f len c, (cond (dOv D) (tBe (adv wn f len c) D X) (tSt (adv wn f len c) D X)).2.1, (cond (dOv D) (tBe (adv wn f len c) D X) (tSt (adv wn f len c) D X)).2.2)
/-- what holds between two tokens -/
def fI (len : Nat) (c : jS) (D : jR) (X : jX) : Prop := c.1 ≤ len ∧ xI X ∧ D.1 ≤ xRc X ∧ D.2.1 < 11 ∧ D.2.2.1 ≤ 97 ∧ D.2.2.2.1 ≤ 8 ∧ xTc X ≤ c.1 ∧ (dOv D = false → 1 ≤ xRc X)
theorem fI_step {wn : Nat → Int64} {f : Nat → Int32} {len : Nat} {c : jS} {D : jR} {X : jX} (hO : fOct f len) (hl : len ≤ 2000) (h : fI len c D X) (h6 : (adv wn f len c).2.2.1 ≠ Int32.ofNat 6) (hq : (cond (dOv D) (tBe (adv wn f len c) D X) (tSt (adv wn f len c) D X)).1 = true) : fI len (adv wn f len c) (cond (dOv D) (tBe (adv wn f len c) D X) (tSt (adv wn f len c) D X)).2.1 (cond (dOv D) (tBe (adv wn f len c) D X) (tSt (adv wn f len c) D X)).2.2 := by
  obtain ⟨a1, a2, a3, a4, a5, a6, a7, a8⟩ := h
  obtain ⟨b1, b2, b3⟩ := adv_ok (wn := wn) hO a1
  have b4 := b3 h6
  cases e : dOv D
  · rw [e, cond_false] at hq
    rw [cond_false]
    have r1 := a8 e
    have hst : D.2.2.1 < jlen.getD D.2.1 0 := by
      have := of_decide_eq_false e
      omega
    have hjl := jlen_le D.2.1 a4
    obtain ⟨q1, q2, q3, q4, q5, q6, q7⟩ := tSt_ok (c := adv wn f len c) (D := D) a2 r1 (by omega) a4 (by omega) a6
    exact ⟨b1, q5, by rw [q1, q6]; exact a3, q2, q3, q4, by omega, fun _ => by rw [q6]; exact r1⟩
  · rw [e, cond_true] at hq
    rw [cond_true]
    obtain ⟨q1, q2, q3, q4, q5, q6, q7⟩ := tBe_ok (c := adv wn f len c) (D := D) a2 (by omega) a3 a4 a5 a6
    exact ⟨b1, q5, q1, q2, q3, q4, by omega, fun _ => q7 hq⟩
