/-! WHAT A TOKEN IS, CASE BY CASE -/
theorem lsk_prev {f : Nat → Int32} {len : Nat} : ∀ d p l : Nat, p ≤ len → (lsk f len d p l).1 ≤ len ∧ (lsk f len d p l).2 + p ≤ l + (lsk f len d p l).1 ∧ ((lsk f len d p l).1 = p ∨ p < (lsk f len d p l).1 ∧ waln (f ((lsk f len d p l).1 - 1)) = false)
  | 0, p, l, h => ⟨h, Nat.le_refl _, Or.inl rfl⟩
  | d + 1, p, l, h => by
    unfold lsk
    split
    · rename_i c
      obtain ⟨h1, h2, h3⟩ := lsk_prev (f := f) d (p + 1) (if f p = Int32.ofNat 10 then l + 1 else l) (show p + 1 ≤ len by omega)
      refine ⟨h1, ?_, Or.inr ?_⟩
      · have : (if f p = Int32.ofNat 10 then l + 1 else l) ≤ l + 1 := by split <;> omega
        omega
      · rcases h3 with e | ⟨e1, e2⟩
        · refine ⟨by omega, ?_⟩
          rw [e, Nat.add_sub_cancel]
          have cb := c.2
          unfold wblk at cb
          rw [Bool.or_eq_true, Bool.or_eq_true, Bool.or_eq_true] at cb
          rcases cb with q | q | q | q <;> rw [of_decide_eq_true q] <;> decide
        · exact ⟨by omega, e2⟩
    · exact ⟨h, Nat.le_refl _, Or.inl rfl⟩
theorem lback_run {f : Nat → Int32} {s : Nat} : ∀ p : Nat, s ≤ p → (∀ i : Nat, s ≤ i → i < p → waln (f i) = true) → s = 0 ∨ waln (f (s - 1)) = false → lback f p = s
  | 0, h, _, _ => by
    have : s = 0 := by omega
    rw [this]
    rfl
  | p + 1, h, ha, hs => by
    unfold lback
    by_cases e : s = p + 1
    · subst e
      rcases hs with q | q
      · omega
      · rw [Nat.add_sub_cancel] at q
        rw [q, cond_false]
    · rw [ha p (by omega) (by omega), cond_true]
      exact lback_run p (by omega) (fun i h1 h2 => ha i h1 (by omega)) hs
theorem lnd_full {f : Nat → Int32} {len : Nat} : ∀ (d p : Nat) (v : Int32), wdig (toc f len (lnd f len d p v).2) = true → (lnd f len (d + 1) p v).2 = p + d + 1
  | 0, p, v, h => by
    have h' : wdig (toc f len p) = true := h
    unfold lnd
    rw [h', cond_true]
    rfl
  | d + 1, p, v, h => by
    unfold lnd at h
    rw [lnd]
    cases c : wdig (toc f len p)
    · rw [c, cond_false] at h
      rw [c] at h
      cases h
    · rw [c, cond_true] at h
      rw [cond_true, lnd_full d (p + 1) _ h]
      omega
theorem k_dig : ∀ n : Nat, n < 256 → wdig (Int32.ofNat n) = true → 48 ≤ n ∧ n ≤ 57 := by decide +kernel
theorem lnd_val {f : Nat → Int32} {len : Nat} (hO : fOct f len) : ∀ (d p V t : Nat), V < 10 ^ t → ∃ m : Nat, (lnd f len d p (Int32.ofNat V)).1 = Int32.ofNat m ∧ m < 10 ^ (t + ((lnd f len d p (Int32.ofNat V)).2 - p)) ∧ p ≤ (lnd f len d p (Int32.ofNat V)).2 ∧ ∀ i : Nat, p ≤ i → i < (lnd f len d p (Int32.ofNat V)).2 → waln (f i) = true
  | 0, p, V, t, h => ⟨V, rfl, (by show V < 10 ^ (t + (p - p)); rw [Nat.sub_self]; exact h), Nat.le_refl _, fun i h1 h2 => absurd h2 (Nat.not_lt.mpr h1)⟩
  | d + 1, p, V, t, h => by
    unfold lnd
    cases c : wdig (toc f len p)
    · exact ⟨V, rfl, (by show V < 10 ^ (t + (p - p)); rw [Nat.sub_self]; exact h), Nat.le_refl _, fun i h1 h2 => absurd h2 (Nat.not_lt.mpr h1)⟩
    · have hp : p < len := by
        apply Classical.byContradiction
        intro q
        rw [(toc_out q).2.1] at c
        cases c
      obtain ⟨o, ho, eo⟩ := hO p hp
      have et : toc f len p = Int32.ofNat o := by rw [← eo]; exact if_pos hp
      rw [et] at c
      have k := k_dig o ho c
      have e : Int32.ofNat 10 * Int32.ofNat V + toc f len p - Int32.ofNat 48 = Int32.ofNat (10 * V + o - 48) := by rw [et, i_mul, i_add, i_sub (by omega)]
      have hV : 10 * V + o - 48 < 10 ^ (t + 1) := by rw [Nat.pow_succ]; omega
      obtain ⟨m, m1, m2, m3, m4⟩ := lnd_val hO d (p + 1) (10 * V + o - 48) (t + 1) hV
      rw [cond_true, e]
      refine ⟨m, m1, ?_, by omega, fun i h1 h2 => ?_⟩
      · have e2 : t + ((lnd f len d (p + 1) (Int32.ofNat (10 * V + o - 48))).2 - p) = t + 1 + ((lnd f len d (p + 1) (Int32.ofNat (10 * V + o - 48))).2 - (p + 1)) := by omega
        rw [e2]
        exact m2
      · by_cases ei : i = p
        · rw [ei, eo]
          unfold waln
          rw [c, Bool.or_true]
        · exact m4 i (by omega) h2
theorem dg_len {m k : Nat} (h1 : 1 ≤ k) (h6 : k ≤ 6) (hm : m < 10 ^ k) : (dg100000 m).length ≤ k := by
  have hk : k = 1 ∨ k = 2 ∨ k = 3 ∨ k = 4 ∨ k = 5 ∨ k = 6 := by omega
  unfold dg100000 dg10000 dg1000 dg100 dg10 dg1
  rcases hk with e | e | e | e | e | e <;> subst e <;> simp only [Nat.reducePow] at hm <;> repeat' split
  all_goals simp only [List.length_cons, List.length_nil]
  all_goals omega
theorem dg_pos (m : Nat) : 1 ≤ (dg100000 m).length := by
  unfold dg100000 dg10000 dg1000 dg100 dg10 dg1
  repeat' split
  all_goals simp only [List.length_cons, List.length_nil]
  all_goals omega
/-- what holds of a place between two tokens -/
def Pl (f : Nat → Int32) (len : Nat) (c : jS) (N : Nat) : Prop := c.1 ≤ len ∧ c.2.1 ≤ c.1 + 1 ∧ (c.1 = 0 ∨ waln (f (c.1 - 1)) = false ∨ waln (toc f len c.1) = false) ∧ 2 * N ≤ c.1 + 1 ∧ (c.1 = 0 ∨ waln (f (c.1 - 1)) = false → 2 * N ≤ c.1)
def shE (f : Nat → Int32) (len s l : Nat) (q : jS) : Prop := toc f len s < Int32.ofNat 0 ∧ q.1 = s ∧ q.2.1 = l ∧ q.2.2.1 = Int32.ofNat 6
def shL (f : Nat → Int32) (len s l : Nat) (q : jS) : Prop := ¬ toc f len s < Int32.ofNat 0 ∧ wlet (toc f len s) = true ∧ s < lal f len (2001 - s) s ∧ lal f len (2001 - s) s ≤ len ∧ (12 < lal f len (2001 - s) s - s ∧ q.2.2.1 = Int32.ofNat 5 ∧ q.2.1 = l ∨ lal f len (2001 - s) s - s ≤ 12 ∧ aln (cpy f (lal f len (2001 - s) s - s) s) ∧ q.1 = lal f len (2001 - s) s ∧ q.2.1 = l ∧ q.2.2.1 = (if wix (cpy f (lal f len (2001 - s) s - s) s) = 0 then Int32.ofNat 2 else Int32.ofNat 1) ∧ q.2.2.2.1 = (if wix (cpy f (lal f len (2001 - s) s - s) s) = 0 then Int32.ofNat 0 else Int32.ofNat (2 ^ (wix (cpy f (lal f len (2001 - s) s - s) s) - 1))) ∧ q.2.2.2.2 = Int64.ofNat (lcd (cpy f (lal f len (2001 - s) s - s) s)) ∧ lback f (lal f len (2001 - s) s) = s ∧ waln (toc f len (lal f len (2001 - s) s)) = false)
def shD (f : Nat → Int32) (len s l : Nat) (q : jS) : Prop := ¬ toc f len s < Int32.ofNat 0 ∧ wlet (toc f len s) = false ∧ wdig (toc f len s) = true ∧ ((6 < (lnd f len 7 s (Int32.ofNat 0)).2 - s ∨ wlet (toc f len (lnd f len 7 s (Int32.ofNat 0)).2) = true) ∧ q.2.2.1 = Int32.ofNat 5 ∧ q.2.1 = l ∨ ¬ (6 < (lnd f len 7 s (Int32.ofNat 0)).2 - s ∨ wlet (toc f len (lnd f len 7 s (Int32.ofNat 0)).2) = true) ∧ q.1 = (lnd f len 7 s (Int32.ofNat 0)).2 ∧ q.2.1 = l ∧ q.2.2.1 = Int32.ofNat 3 ∧ q.2.2.2.1 = (lnd f len 7 s (Int32.ofNat 0)).1 ∧ s < (lnd f len 7 s (Int32.ofNat 0)).2 ∧ (lnd f len 7 s (Int32.ofNat 0)).2 ≤ len ∧ lback f (lnd f len 7 s (Int32.ofNat 0)).2 = s ∧ waln (toc f len (lnd f len 7 s (Int32.ofNat 0)).2) = false ∧ ∃ m : Nat, m < 1000000 ∧ (lnd f len 7 s (Int32.ofNat 0)).1 = Int32.ofNat m ∧ (dg100000 m).length + s ≤ (lnd f len 7 s (Int32.ofNat 0)).2)
def shS (f : Nat → Int32) (len s l : Nat) (q : jS) : Prop := ¬ toc f len s < Int32.ofNat 0 ∧ wlet (toc f len s) = false ∧ wdig (toc f len s) = false ∧ s < len ∧ q.1 = s + 1 ∧ q.2.1 = l ∧ q.2.2.1 = cond (rsg (toc f len s)) (Int32.ofNat 4) (Int32.ofNat 5) ∧ q.2.2.2.1 = toc f len s ∧ lback f (s + 1) = s + 1 ∧ waln (f s) = false
theorem adv_shape {wn : Nat → Int64} {f : Nat → Int32} {len N : Nat} {c : jS} (hw : wnOk wn) (hO : fOct f len) (hl : len ≤ 2000) (hP : Pl f len c N) : ∃ s l : Nat, lsk f len 2001 c.1 c.2.1 = (s, l) ∧ c.1 ≤ s ∧ s ≤ len ∧ l ≤ s + 1 ∧ (s = 0 ∨ waln (f (s - 1)) = false ∨ waln (toc f len s) = false) ∧ (s = c.1 ∨ c.1 < s ∧ waln (f (s - 1)) = false) ∧ (shE f len s l (adv wn f len c) ∨ shL f len s l (adv wn f len c) ∨ shD f len s l (adv wn f len c) ∨ shS f len s l (adv wn f len c)) := by
  obtain ⟨p1, p2, p3, p4, p5⟩ := hP
  have hs := lsk_prev (f := f) 2001 c.1 c.2.1 p1
  have hs2 := lsk_le (f := f) 2001 c.1 c.2.1 p1
  unfold adv
  generalize lsk f len 2001 c.1 c.2.1 = z at *
  obtain ⟨s, l⟩ := z
  obtain ⟨s1, s2, s3⟩ := hs
  have s4 : c.1 ≤ s := hs2.2
  have s5 : s ≤ len := s1
  have s6 : l + c.1 ≤ c.2.1 + s := s2
  have s7 : s = 0 ∨ waln (f (s - 1)) = false ∨ waln (toc f len s) = false := by
    rcases s3 with e | ⟨-, e⟩
    · have e' : s = c.1 := e
      rw [e']; exact p3
    · exact Or.inr (Or.inl e)
  refine ⟨s, l, rfl, s4, s5, by omega, s7, s3, ?_⟩
  show shE f len s l (if toc f len s < Int32.ofNat 0 then _ else _) ∨ _
  by_cases c1 : toc f len s < Int32.ofNat 0
  · simp only [if_pos c1]
    exact Or.inl ⟨c1, rfl, rfl, rfl⟩
  simp only [if_neg c1]
  have hsl : s < len := by
    apply Classical.byContradiction
    intro q
    rw [(toc_out q).2.2.2] at c1
    exact c1 (by decide)
  have et : toc f len s = f s := if_pos hsl
  cases c2 : wlet (toc f len s)
  · simp only [Bool.false_eq_true, if_false]
    cases c3 : wdig (toc f len s)
    · simp only [Bool.false_eq_true, if_false]
      obtain ⟨o, ho, eo⟩ := hO s hsl
      have na : waln (f s) = false := by
        rw [← et]
        unfold waln
        rw [c2, c3]
        rfl
      refine Or.inr (Or.inr (Or.inr ⟨c1, c2, c3, hsl, rfl, rfl, ?_, rfl, ?_, na⟩))
      · show cond (wsgn (toc f len s)) (Int32.ofNat 4) (Int32.ofNat 5) = cond (rsg (toc f len s)) (Int32.ofNat 4) (Int32.ofNat 5)
        rw [et, eo, k_sgn o ho]
      · unfold lback
        rw [na, cond_false]
    · simp only [if_true]
      have pv : s = 0 ∨ waln (f (s - 1)) = false := by
        rcases s7 with e | e | e
        · exact Or.inl e
        · exact Or.inr e
        · exfalso
          unfold waln at e
          rw [c3, Bool.or_true] at e
          cases e
      refine Or.inr (Or.inr (Or.inl ⟨c1, c2, c3, ?_⟩))
      have e6 := lnb_lnd (f := f) (len := len) 6 s (Int32.ofNat 0)
      unfold scU
      rw [← e6]
      cases c4 : wdig (toc f len (lnd f len 6 s (Int32.ofNat 0)).2)
      · have e7 := lnd_more (f := f) (len := len) 6 s (Int32.ofNat 0) c4
        rw [e7]
        obtain ⟨m, m1, m2, m3, m4⟩ := lnd_val hO 6 s 0 0 (by decide)
        have le := lnd_le (f := f) (len := len) 6 s (Int32.ofNat 0) s5
        have gt : s < (lnd f len 6 s (Int32.ofNat 0)).2 := by
          apply Classical.byContradiction
          intro q
          have e : (lnd f len 6 s (Int32.ofNat 0)).2 = s := by omega
          rw [e, c3] at c4
          cases c4
        generalize lnd f len 6 s (Int32.ofNat 0) = z at *
        have nl : (Int32.ofNat 0 < wcode (toc f len z.2)) ↔ wlet (toc f len z.2) = true := by
          rw [aln_iff hO]
          unfold waln
          rw [c4, Bool.or_false]
        cases c5 : wlet (toc f len z.2)
        · have n1 : ¬ Int32.ofNat 0 < wcode (toc f len z.2) := fun q => by rw [nl, c5] at q; cases q
          have m6 : m < 10 ^ (z.2 - s) := by rw [Nat.zero_add] at m2; exact m2
          have m7 : 10 ^ (z.2 - s) ≤ 10 ^ 6 := Nat.pow_le_pow_right (by decide) (by omega)
          refine Or.inr ⟨?_, rfl, rfl, if_neg n1, rfl, gt, le.2.1, lback_run z.2 m3 m4 pv, ?_, m, ?_, m1, ?_⟩
          · rintro (q | q)
            · omega
            · cases q
          · unfold waln
            rw [c5, c4]
            rfl
          · have : 10 ^ 6 = 1000000 := by decide
            omega
          · have := dg_len (m := m) (k := z.2 - s) (by omega) (by omega) m6
            omega
        · exact Or.inl ⟨Or.inr rfl, if_pos (nl.mpr c5), rfl⟩
      · have e7 := lnd_full (f := f) (len := len) 6 s (Int32.ofNat 0) c4
        have n1 : Int32.ofNat 0 < wcode (toc f len (lnd f len 6 s (Int32.ofNat 0)).2) := by
          rw [aln_iff hO]
          unfold waln
          rw [c4, Bool.or_true]
        refine Or.inl ⟨Or.inl ?_, if_pos n1, rfl⟩
        rw [e7]
        omega
  · simp only [if_true]
    have pv : s = 0 ∨ waln (f (s - 1)) = false := by
      rcases s7 with e | e | e
      · exact Or.inl e
      · exact Or.inr e
      · exfalso
        unfold waln at e
        rw [c2, Bool.true_or] at e
        cases e
    have en := lnm_lcd hO 12 s 0 1
    have en' : lnm f len 12 s 0 1 = (Int64.ofNat (0 + 1 * lcd (cpy f (lal f len 12 s - s) s)), lal f len 12 s) := en
    rw [Nat.zero_add, Nat.one_mul] at en'
    unfold scF
    rw [en']
    have em := lal_min (f := f) (len := len) 12 (2001 - s)
    have em2 := lal_end (f := f) (len := len) (2001 - s) s
    have em3 := lal_in (f := f) (len := len) (2001 - s) s
    have le := lal_le (f := f) (len := len) (2001 - s) s s5
    have gt : s < lal f len (2001 - s) s := by
      have e : 2001 - s = (2000 - s) + 1 := by omega
      rw [e, lal]
      unfold waln
      rw [c2, Bool.true_or, cond_true]
      exact Nat.lt_of_lt_of_le (Nat.lt_succ_self s) (lal_ge (2000 - s) (s + 1))
    have hlast : waln (toc f len (lal f len (2001 - s) s)) = false := em2 (by omega)
    have e12 : lal f len 12 s = min (s + 12) (lal f len (2001 - s) s) := by
      by_cases c13 : 12 ≤ 2001 - s
      · exact em s c13
      · have e := lal_min (f := f) (len := len) (2001 - s) 12 s (by omega)
        have l2 := lal_le (f := f) (len := len) 12 s s5
        omega
    refine Or.inr (Or.inl ⟨c1, c2, gt, le.2, ?_⟩)
    rw [e12]
    generalize hE : lal f len (2001 - s) s = E at *
    by_cases c4 : 12 < E - s
    · have e : min (s + 12) E = s + 12 := by omega
      refine Or.inl ⟨c4, ?_, rfl⟩
      rw [e]
      refine if_pos ?_
      rw [aln_iff hO]
      exact em3 (s + 12) (by omega) (by omega)
    · have e : min (s + 12) E = E := by omega
      rw [e]
      have ha : aln (cpy f (E - s) s) := cpy_aln _ _ fun i h1 h2 => by
        have q := em3 i h1 (by omega)
        rw [show toc f len i = f i from if_pos (by omega)] at q
        exact q
      have nn : ¬ Int32.ofNat 0 < wcode (toc f len E) := fun q => by rw [aln_iff hO, hlast] at q; cases q
      have wb := wbit_wix hw ha (by rw [cpy_len]; omega)
      refine Or.inr ⟨by omega, ha, rfl, rfl, ?_, wb, rfl, lback_run E (by omega) (fun i h1 h2 => ?_) pv, hlast⟩
      · show (if Int32.ofNat 0 < wcode (toc f len E) then Int32.ofNat 5 else if wbit wn (Int64.ofNat (lcd (cpy f (E - s) s))) = Int32.ofNat 0 then Int32.ofNat 2 else Int32.ofNat 1) = _
        rw [if_neg nn, wb]
        rcases wix_spec (cpy f (E - s) s) with ⟨e0, -⟩ | ⟨j, hj, e0, -⟩
        · rw [e0, if_pos rfl, if_pos rfl, if_pos rfl]
        · have hj1 : ¬ j + 1 = 0 := by omega
          have : ∀ j : Nat, j < 16 → ¬ Int32.ofNat (2 ^ (j + 1 - 1)) = Int32.ofNat 0 := by decide +kernel
          rw [e0]
          simp only [if_neg hj1, if_neg (this j hj)]
      · have q := em3 i h1 h2
        rw [show toc f len i = f i from if_pos (by omega)] at q
        exact q
