/-! BOTH LEXERS SEE THE SAME TOKENS -/
theorem toc_cases {f : Nat → Int32} {len p : Nat} (hO : fOct f len) : toc f len p = -(Int32.ofNat 1) ∨ ∃ n : Nat, n < 256 ∧ toc f len p = Int32.ofNat n := by
  by_cases c : p < len
  · obtain ⟨n, hn, e⟩ := hO p c
    exact Or.inr ⟨n, hn, by rw [← e]; exact if_pos c⟩
  · exact Or.inl (if_neg c)
theorem k_aln : ∀ n : Nat, n < 256 → ((Int32.ofNat 0 < wcode (Int32.ofNat n)) ↔ waln (Int32.ofNat n) = true) := by decide +kernel
theorem k_sgn : ∀ n : Nat, n < 256 → wsgn (Int32.ofNat n) = rsg (Int32.ofNat n) := by decide +kernel
theorem aln_iff {f : Nat → Int32} {len p : Nat} (hO : fOct f len) : (Int32.ofNat 0 < wcode (toc f len p)) ↔ waln (toc f len p) = true := by
  rcases toc_cases hO (p := p) with e | ⟨n, hn, e⟩
  · rw [e]; decide
  · rw [e]; exact k_aln n hn
theorem lnm_lal {f : Nat → Int32} {len : Nat} (hO : fOct f len) : ∀ (d p : Nat) (y g : Int64), (lnm f len d p y g).2 = lal f len d p
  | 0, _, _, _ => rfl
  | d + 1, p, y, g => by
    unfold lnm lal
    by_cases c : Int32.ofNat 0 < wcode (toc f len p)
    · rw [if_pos c, (aln_iff hO).mp c, cond_true]
      exact lnm_lal hO d (p + 1) _ _
    · rw [if_neg c]
      cases e : waln (toc f len p)
      · rfl
      · exact absurd ((aln_iff hO).mpr e) c
theorem lal_min {f : Nat → Int32} {len : Nat} : ∀ d e p : Nat, d ≤ e → lal f len d p = min (p + d) (lal f len e p)
  | 0, e, p, h => by
    have : p ≤ lal f len e p := by
      induction e generalizing p with
      | zero => exact Nat.le_refl _
      | succ e ih =>
        unfold lal
        cases waln (toc f len p)
        · exact Nat.le_refl _
        · have := ih (p + 1) (Nat.zero_le _)
          rw [cond_true]
          omega
    show p = min (p + 0) (lal f len e p)
    omega
  | d + 1, e, p, h => by
    obtain ⟨e, rfl⟩ : ∃ e', e = e' + 1 := ⟨e - 1, by omega⟩
    unfold lal
    cases waln (toc f len p)
    · rw [cond_false, cond_false]
      omega
    · rw [cond_true, cond_true, lal_min d e (p + 1) (by omega)]
      omega
/-- a run of letters that is cut ends at a letter, one that isn't ends behind the last -/
theorem lal_end {f : Nat → Int32} {len : Nat} : ∀ d p : Nat, lal f len d p < p + d → waln (toc f len (lal f len d p)) = false
  | 0, p, h => absurd h (Nat.lt_irrefl _)
  | d + 1, p, h => by
    unfold lal at h ⊢
    cases c : waln (toc f len p)
    · rw [cond_false]; exact c
    · rw [c, cond_true] at h
      rw [cond_true]
      exact lal_end d (p + 1) (by omega)
theorem lal_in {f : Nat → Int32} {len : Nat} : ∀ d p i : Nat, p ≤ i → i < lal f len d p → waln (toc f len i) = true
  | 0, p, i, h1, h2 => by
    have : i < p := h2
    omega
  | d + 1, p, i, h1, h2 => by
    unfold lal at h2
    cases c : waln (toc f len p)
    · rw [c, cond_false] at h2
      omega
    · rw [c, cond_true] at h2
      by_cases e : i = p
      · rw [e]; exact c
      · exact lal_in d (p + 1) i (by omega) h2
theorem lnb_lnd {f : Nat → Int32} {len : Nat} : ∀ (d p : Nat) (v : Int32), lnd f len d p v = lnb f len d p v
  | 0, _, _ => rfl
  | d + 1, p, v => by
    unfold lnd lnb
    cases c : wdig (toc f len p)
    · rfl
    · rw [cond_true, if_pos rfl, Int32.mul_comm (Int32.ofNat 10) v]
      exact lnb_lnd d (p + 1) _
theorem lnd_more {f : Nat → Int32} {len : Nat} : ∀ (d p : Nat) (v : Int32), wdig (toc f len (lnd f len d p v).2) = false → lnd f len (d + 1) p v = lnd f len d p v
  | 0, p, v, h => by
    have h' : wdig (toc f len p) = false := h
    unfold lnd
    rw [h', cond_false]
  | d + 1, p, v, h => by
    unfold lnd at h
    rw [lnd]
    conv => rhs; rw [lnd]
    cases c : wdig (toc f len p)
    · rfl
    · rw [c, cond_true] at h
      rw [cond_true, cond_true]
      exact lnd_more d (p + 1) _ h
