/-! WHAT HOLDS WHILE A TEXT IS READ -/
def xI (X : jX) : Prop := xRc X ≤ 120 ∧ xTc X ≤ 2000 ∧ xNc X ≤ 1000 ∧ (∀ r : Nat, 1 ≤ r → r ≤ xRc X → xSt X r + xLe X r ≤ xTc X ∧ xBl X r < r ∧ xTa X r ≤ xRc X) ∧ (1 ≤ xRc X → xSt X (xRc X) + xLe X (xRc X) = xTc X)
theorem xI_WF {X : jX} (h : xI X) : xWF X := ⟨h.1, h.2.1, h.2.2.1, fun r h1 h2 => by have := h.2.2.2.1 r h1 h2; have := h.2.1; omega⟩
theorem upN_at {f : Nat → Nat} {k v : Nat} : upN f k v k = v := if_pos rfl
theorem upN_of {f : Nat → Nat} {k v j : Nat} (e : j ≠ k) : upN f k v j = f j := if_neg e
theorem xI_tok {X : jX} {s v : Int32} (h : xI X) (h1 : 1 ≤ xRc X) (h2 : xTc X < 2000) : xI (xaddTok X s v) := by
  obtain ⟨a1, a2, a3, a4, a5⟩ := h
  refine ⟨a1, (show xTc X + 1 ≤ 2000 by omega), a3, fun r r1 r2 => ?_, fun _ => ?_⟩
  · have r2' : r ≤ xRc X := r2
    have q := a4 r r1 r2'
    show xSt X r + upN (xLe X) (xRc X) (xLe X (xRc X) + 1) r ≤ xTc X + 1 ∧ xBl X r < r ∧ xTa X r ≤ xRc X
    by_cases e : r = xRc X
    · have := a5 h1
      rw [e, upN_at]
      rw [e] at q
      omega
    · rw [upN_of e]
      omega
  · show xSt X (xRc X) + upN (xLe X) (xRc X) (xLe X (xRc X) + 1) (xRc X) = xTc X + 1
    have := a5 h1
    rw [upN_at]
    omega
theorem xI_row {X : jX} {k : Int32} {b : Nat} (h : xI X) (h1 : xRc X < 120) (hb : b ≤ xRc X) : xI (xaddRow X k b) := by
  obtain ⟨a1, a2, a3, a4, a5⟩ := h
  refine ⟨(show xRc X + 1 ≤ 120 by omega), a2, a3, fun r r1 r2 => ?_, fun _ => ?_⟩
  · have r2' : r ≤ xRc X + 1 := r2
    show upN (xSt X) (xRc X + 1) (xTc X) r + upN (xLe X) (xRc X + 1) 0 r ≤ xTc X ∧ upN (xBl X) (xRc X + 1) b r < r ∧ upN (xTa X) (xRc X + 1) 0 r ≤ xRc X + 1
    by_cases e : r = xRc X + 1
    · rw [e, upN_at, upN_at, upN_at, upN_at]
      omega
    · have q := a4 r r1 (by omega)
      rw [upN_of e, upN_of e, upN_of e, upN_of e]
      omega
  · show upN (xSt X) (xRc X + 1) (xTc X) (xRc X + 1) + upN (xLe X) (xRc X + 1) 0 (xRc X + 1) = xTc X
    rw [upN_at, upN_at]
    rfl
theorem xI_nn {X : jX} {y : Int64} (h : xI X) : xI (xnn X y).2 ∧ xRc (xnn X y).2 = xRc X ∧ xTc (xnn X y).2 = xTc X := by
  unfold xnn
  cases xnf X y (xNc X) 0 with
  | some j => exact ⟨h, rfl, rfl⟩
  | none =>
    by_cases c1 : xNc X < 1000
    · simp only [if_pos c1]
      exact ⟨⟨h.1, h.2.1, (show xNc X + 1 ≤ 1000 by omega), h.2.2.2.1, h.2.2.2.2⟩, rfl, rfl⟩
    · simp only [if_neg c1]
      exact ⟨h, trivial, trivial⟩
/-- a step's outcome is in order -/
def tOk (D : jR) (X : jX) (q : Bool × jR × jX) : Prop := q.2.1.1 = D.1 ∧ q.2.1.2.1 < 11 ∧ q.2.1.2.2.1 ≤ 97 ∧ q.2.1.2.2.2.1 ≤ 8 ∧ xI q.2.2 ∧ xRc q.2.2 = xRc X ∧ xTc q.2.2 ≤ xTc X + 1
theorem tOk_tok {D : jR} {X : jX} {b : Bool} {s v : Int32} {fo st ac : Nat} {mi : Bool} (h : xI X) (h1 : 1 ≤ xRc X) (h2 : xTc X < 2000) (hf : fo < 11) (hs : st ≤ 97) (ha : ac ≤ 8) : tOk D X (b, (D.1, fo, st, ac, mi), xaddTok X s v) := ⟨rfl, hf, hs, ha, xI_tok h h1 h2, rfl, Nat.le_refl _⟩
theorem tOk_no {D : jR} {X : jX} {b : Bool} {fo st ac : Nat} {mi : Bool} (h : xI X) (hf : fo < 11) (hs : st ≤ 97) (ha : ac ≤ 8) : tOk D X (b, (D.1, fo, st, ac, mi), X) := ⟨rfl, hf, hs, ha, h, rfl, Nat.le_succ _⟩
theorem tAc_ok {c : jS} {D : jR} {X : jX} (h : xI X) (h1 : 1 ≤ xRc X) (h2 : xTc X < 2000) (hf : D.2.1 < 11) (hs : D.2.2.1 ≤ 97) (ha : D.2.2.2.1 ≤ 8) : tOk D X (tAc c D X) := by
  unfold tAc
  split
  · rename_i q
    exact tOk_tok h h1 h2 (by decide) (by decide) (by omega)
  · split
    · exact tOk_tok h h1 h2 hf hs ha
    · exact tOk_no h hf hs ha
theorem tTr_ok {c : jS} {D : jR} {X : jX} (h : xI X) (h1 : 1 ≤ xRc X) (h2 : xTc X < 2000) (hf : D.2.1 < 11) (hs : D.2.2.1 ≤ 97) (ha : D.2.2.2.1 ≤ 8) : tOk D X (tTr c D X) := by
  unfold tTr
  split
  · exact tOk_tok h h1 h2 (by decide) (by decide) ha
  · split
    · exact tOk_tok h h1 h2 (by decide) (by decide) ha
    · exact tAc_ok h h1 h2 hf hs ha
theorem tVa_ok {c : jS} {D : jR} {X : jX} (h : xI X) (h1 : 1 ≤ xRc X) (h2 : xTc X < 2000) (hf : D.2.1 < 11) (hs : D.2.2.1 ≤ 97) (ha : D.2.2.2.1 ≤ 8) : tOk D X (tVa c D X) := by
  unfold tVa
  split
  · exact tOk_no h hf (by omega) ha
  · split
    · exact tOk_tok h h1 h2 hf hs ha
    · exact tOk_no h hf hs ha
theorem tSw_ok {u : Int32} {c : jS} {D : jR} {X : jX} (h : xI X) (h1 : 1 ≤ xRc X) (h2 : xTc X < 2000) (hf : D.2.1 < 11) (hs : D.2.2.1 ≤ 97) (ha : D.2.2.2.1 ≤ 8) : tOk D X (tSw u c D X) := by
  have no : ∀ b, tOk D X (b, D, X) := fun b => tOk_no h hf hs ha
  have yes : ∀ b s v, tOk D X (b, D, xaddTok X s v) := fun b s v => tOk_tok h h1 h2 hf hs ha
  unfold tSw
  split
  · exact tAc_ok h h1 h2 hf hs ha
  split
  · split
    · have q := xI_nn (y := c.2.2.2.2) h
      refine ⟨rfl, hf, hs, ha, xI_tok q.1 (by rw [q.2.1]; exact h1) (by rw [q.2.2]; exact h2), q.2.1, ?_⟩
      show xTc (xnn X c.2.2.2.2).2 + 1 ≤ xTc X + 1
      rw [q.2.2]
      exact Nat.le_refl _
    · exact no _
  split
  · cases sNu c (Int32.ofNat 1) (Int32.ofNat 9999)
    · exact no _
    · exact yes _ _ _
  split
  · exact tTr_ok h h1 h2 hf hs ha
  split
  · cases sWd c (Int32.ofNat 32768)
    · exact no _
    · exact yes _ _ _
  split
  · exact tVa_ok h h1 h2 hf hs ha
  split
  · cases sNu c (Int32.ofNat 1) (Int32.ofNat 999999)
    · exact no _
    · exact yes _ _ _
  · cases sSg c u
    · exact no _
    · exact yes _ _ _
theorem tSt_ok {c : jS} {D : jR} {X : jX} (h : xI X) (h1 : 1 ≤ xRc X) (h2 : xTc X < 2000) (hf : D.2.1 < 11) (hs : D.2.2.1 ≤ 96) (ha : D.2.2.2.1 ≤ 8) : tOk D X (tSt c D X) := tSw_ok (D := (D.1, D.2.1, D.2.2.1 + 1, D.2.2.2)) h h1 h2 hf (show D.2.2.1 + 1 ≤ 97 by omega) ha
theorem tBe_ok {c : jS} {D : jR} {X : jX} (h : xI X) (h2 : xTc X < 2000) (hb : D.1 ≤ xRc X) (hf : D.2.1 < 11) (hs : D.2.2.1 ≤ 97) (ha : D.2.2.2.1 ≤ 8) : (tBe c D X).2.1.1 ≤ xRc (tBe c D X).2.2 ∧ (tBe c D X).2.1.2.1 < 11 ∧ (tBe c D X).2.1.2.2.1 ≤ 97 ∧ (tBe c D X).2.1.2.2.2.1 ≤ 8 ∧ xI (tBe c D X).2.2 ∧ xTc (tBe c D X).2.2 ≤ xTc X + 1 ∧ ((tBe c D X).1 = true → 1 ≤ xRc (tBe c D X).2.2) := by
  unfold tBe
  split
  · rename_i c1
    exact ⟨hb, hf, hs, ha, h, Nat.le_succ _, fun q => by cases q⟩
  · rename_i c1
    have hr1 : xRc X < 120 := by omega
    split
    · have x1 := xI_row (k := Int32.ofNat 131072) h hr1 hb
      exact ⟨Nat.zero_le _, hf, hs, ha, xI_tok x1 (Nat.le_add_left 1 (xRc X)) h2, Nat.le_refl _, fun _ => Nat.le_add_left 1 (xRc X)⟩
    · split
      · have x1 := xI_row (k := tKi c D) h hr1 hb
        refine ⟨?_, fOf_lt _, Nat.zero_le _, Nat.zero_le _, xI_tok x1 (Nat.le_add_left 1 (xRc X)) h2, Nat.le_refl _, fun _ => Nat.le_add_left 1 (xRc X)⟩
        show (if tKi c D &&& Int32.ofNat 8212 = Int32.ofNat 0 then D.1 else xRc X + 1) ≤ xRc X + 1
        split <;> omega
      · exact ⟨hb, hf, hs, ha, h, Nat.le_succ _, fun q => by cases q⟩
