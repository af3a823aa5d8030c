/-! READ OF BOTH -/
/-- the reference's end of a reading that found no fault -/
theorem rd_end {G : jx_Gv} {h : jx_H} {b m ac w E : Nat} {S : Nat → Int32} {A : Nat → Nat → Int32} {z : Option Value} (h7 : S 7 = Int32.ofNat 1) (h11 : S 11 = Int32.ofNat m) (hm : m ≤ 120) (h24 : S 24 = Int32.ofNat ac) (hac : ac ≤ 600) (h28 : S 28 = Int32.ofNat w) (hw : w ≤ 6000) (h51 : S 51 = Int32.ofNat E) (hE : E < 2147483000) : ∃ S' A', (∀ {x : Int32}, jE G (104, 0, [some (.ref b)], [], hR h b S' A') = some (some (.int x), hR h b S' A') → jE G (105, 65, [some (.ref b), z], [], hR h b S A) = some (some (.int x), hR h b S' A')) ∧ S' 32 = Int32.ofNat 1 ∧ S' 33 = Int32.ofNat m ∧ S' 51 = Int32.ofNat (E + 1) ∧ S' 0 = Int32.ofNat 0 ∧ (∀ k : Nat, 21 ≤ k → k ≤ 32 → ∀ j : Nat, j < m → A' k j = A (k - 17) j) ∧ (∀ k : Nat, 33 ≤ k → k ≤ 35 → ∀ j : Nat, j < ac → A' k j = A (k - 17) j) ∧ (∀ j : Nat, j < w → A' 36 j = A 19 j) ∧ (∀ j : Nat, j < m → A' 37 j = A 20 j) ∧ A' 37 m = Int32.ofNat w ∧ (∀ k : Nat, k < 20 → A' k = A k) ∧ (E < 8 → A' 38 E = Int32.ofNat m ∧ (∀ j : Nat, j < m → A' 39 (120 * E + j) = A' 22 j) ∧ (∀ j : Nat, j ≤ m → A' 40 (121 * E + j) = A' 37 j) ∧ ∀ j : Nat, j < w → A' 41 (6000 * E + j) = A' 36 j) ∧ (∀ x : Nat, x ≠ E → A' 38 x = A 38 x) ∧ (∀ x : Nat, x < 120 * E → A' 39 x = A 39 x) ∧ (∀ x : Nat, x < 121 * E → A' 40 x = A 40 x) ∧ (∀ x : Nat, x < 6000 * E → A' 41 x = A 41 x) ∧ (8 ≤ E → ∀ k : Nat, 38 ≤ k → A' k = A k) := by
  have u0 : ∀ j : Nat, j ≠ 0 → upd S 0 (Int32.ofNat 0) j = S j := fun j hj => upd_of hj
  obtain ⟨A2, e2, p1, p2, p3, p4, p5⟩ := cmH (G := G) (h := h) (b := b) (A := upA A 20 (upd (A 20) m (Int32.ofNat w))) hm ((u0 11 (by decide)).trans h11) hac ((u0 24 (by decide)).trans h24) hw ((u0 28 (by decide)).trans h28)
  have e2' := fun {β : Type} {f : jx_R → Option β} => bnd (f := f) e2
  have k5 : upd (upd (upd S 0 (Int32.ofNat 0)) 32 (Int32.ofNat 1)) 33 (Int32.ofNat m) 51 = Int32.ofNat E := by
    rw [upd_of (by decide), upd_of (by decide), u0 51 (by decide)]
    exact h51
  have q1 : ∀ k : Nat, 21 ≤ k → k ≤ 32 → ∀ j : Nat, j < m → A2 k j = A (k - 17) j := fun k k1 k2 j hj => by rw [p1 k k1 k2 j hj, upA_of (by omega)]
  have q2 : ∀ k : Nat, 33 ≤ k → k ≤ 35 → ∀ j : Nat, j < ac → A2 k j = A (k - 17) j := fun k k1 k2 j hj => by rw [p2 k k1 k2 j hj, upA_of (by omega)]
  have q3 : ∀ j : Nat, j < w → A2 36 j = A 19 j := fun j hj => by rw [p3 j hj, upA_of (by decide)]
  have q4 : ∀ j : Nat, j < m → A2 37 j = A 20 j := fun j hj => by rw [p4 j (by omega), upA_at, upd_of (by omega)]
  have q5 : A2 37 m = Int32.ofNat w := by rw [p4 m (Nat.le_refl _), upA_at, upd_at]
  have q6 : ∀ k : Nat, k < 20 → A2 k = A k := fun k hk => by rw [p5 k (by omega), upA_of (by omega)]
  have q7 : ∀ k : Nat, 38 ≤ k → A2 k = A k := fun k hk => by rw [p5 k (by omega), upA_of (by omega)]
  have go : ∀ {A3 : Nat → Nat → Int32} {x : Int32}, (8 ≤ E ∧ A3 = A2 ∨ E < 8 ∧ jE G (99, 0, [some (.ref b), some (.int (Int32.ofNat E)), none], [], hR h b (upd (upd (upd (upd S 0 (Int32.ofNat 0)) 32 (Int32.ofNat 1)) 33 (Int32.ofNat m)) 51 (Int32.ofNat (E + 1))) A2) = some (none, hR h b (upd (upd (upd (upd S 0 (Int32.ofNat 0)) 32 (Int32.ofNat 1)) 33 (Int32.ofNat m)) 51 (Int32.ofNat (E + 1))) A3)) → jE G (104, 0, [some (.ref b)], [], hR h b (upd (upd (upd (upd S 0 (Int32.ofNat 0)) 32 (Int32.ofNat 1)) 33 (Int32.ofNat m)) 51 (Int32.ofNat (E + 1))) A3) = some (some (.int x), hR h b (upd (upd (upd (upd S 0 (Int32.ofNat 0)) 32 (Int32.ofNat 1)) 33 (Int32.ofNat m)) 51 (Int32.ofNat (E + 1))) A3) → jE G (105, 65, [some (.ref b), z], [], hR h b S A) = some (some (.int x), hR h b (upd (upd (upd (upd S 0 (Int32.ofNat 0)) 32 (Int32.ofNat 1)) 33 (Int32.ofNat m)) 51 (Int32.ofNat (E + 1))) A3) := by
    intro A3 x hk hp
    have hp' := fun {β : Type} {f : jx_R → Option β} => bnd (f := f) hp
    have i7 : upd S 0 (Int32.ofNat 0) 7 = Int32.ofNat 1 := (u0 7 (by decide)).trans h7
    have i11 : upd S 0 (Int32.ofNat 0) 11 = Int32.ofNat m := (u0 11 (by decide)).trans h11
    have i28 : upd S 0 (Int32.ofNat 0) 28 = Int32.ofNat w := (u0 28 (by decide)).trans h28
    rcases hk with ⟨c1, c2⟩ | ⟨c1, c2⟩
    · subst c2
      simp (disch := omega) only [e_105_65, e_105_85, e_105_102, e_105_131, e_105_135, rr_v, ↓rg_tokenLine_b, ↓rp_size_b, ↓rg_good_b, ↓rg_rows_b, ↓rg_written_b, ↓ra_writeAt_b, ↓rs_writeAt_b, ↓rg_editions_b, ↓rp_editions_b, i7, i11, i28, k5, upd_at, ↓e2', ↓hp', ↓Option.bind_some, ↓jzo_0b, ↓jzo_1b, ↓jzo_bb, Option.toList_some, Option.toList_none, List.cons_append, List.nil_append, ↓reduceIte, jzo_0, jzo_1, jzo_b, jbi_t, jbi_f, i_add, ↓i_ltP, ↓i_ltN, ↓i_eqP, ↓i_eqN, i_lt, i_eq, jbi_0, pt_lt, pf_lt, pt_eq, pf_eq, pt_le, pf_le, Nat.reduceEqDiff, eq_self, true_or, or_true, false_or, or_false, true_and, and_true, false_and, and_false, jE_sw, jE_sw0]
    · have c2' := fun {β : Type} {f : jx_R → Option β} => bnd (f := f) c2
      simp (disch := omega) only [e_105_65, e_105_85, e_105_102, e_105_121, e_105_131, e_105_135, rr_v, ↓rg_tokenLine_b, ↓rp_size_b, ↓rg_good_b, ↓rg_rows_b, ↓rg_written_b, ↓ra_writeAt_b, ↓rs_writeAt_b, ↓rg_editions_b, ↓rp_editions_b, i7, i11, i28, k5, upd_at, i_sub, Nat.add_sub_cancel, ↓e2', ↓c2', ↓hp', ↓Option.bind_some, ↓jzo_0b, ↓jzo_1b, ↓jzo_bb, Option.toList_some, Option.toList_none, List.cons_append, List.nil_append, ↓reduceIte, jzo_0, jzo_1, jzo_b, jbi_t, jbi_f, i_add, ↓i_ltP, ↓i_ltN, ↓i_eqP, ↓i_eqN, i_lt, i_eq, jbi_0, pt_lt, pf_lt, pt_eq, pf_eq, pt_le, pf_le, Nat.reduceEqDiff, eq_self, true_or, or_true, false_or, or_false, true_and, and_true, false_and, and_false, jE_sw, jE_sw0]
  have t32 : upd (upd (upd (upd S 0 (Int32.ofNat 0)) 32 (Int32.ofNat 1)) 33 (Int32.ofNat m)) 51 (Int32.ofNat (E + 1)) 32 = Int32.ofNat 1 := by rw [upd_of (by decide), upd_of (by decide), upd_at]
  have t33 : upd (upd (upd (upd S 0 (Int32.ofNat 0)) 32 (Int32.ofNat 1)) 33 (Int32.ofNat m)) 51 (Int32.ofNat (E + 1)) 33 = Int32.ofNat m := by rw [upd_of (by decide), upd_at]
  have t0 : upd (upd (upd (upd S 0 (Int32.ofNat 0)) 32 (Int32.ofNat 1)) 33 (Int32.ofNat m)) 51 (Int32.ofNat (E + 1)) 0 = Int32.ofNat 0 := by rw [upd_of (by decide), upd_of (by decide), upd_of (by decide), upd_at]
  by_cases c8 : E < 8
  · obtain ⟨A3, e3, r1, r2, r3, r4, r5, r6, r7, r8, r9⟩ := kpE (G := G) (h := h) (b := b) (e := E) (n := m) (w := w) (A := A2) c8 hm t33 hw q5
    refine ⟨_, A3, fun hp => go (Or.inr ⟨c8, e3⟩) hp, t32, t33, upd_at, t0, fun k k1 k2 j hj => ?_, fun k k1 k2 j hj => ?_, fun j hj => ?_, fun j hj => ?_, ?_, fun k hk => ?_, fun _ => ⟨r1, fun j hj => ?_, fun j hj => ?_, fun j hj => ?_⟩, fun x hx => ?_, fun x hx => ?_, fun x hx => ?_, fun x hx => ?_, fun z => by omega⟩
    · rw [r9 k (by omega)]; exact q1 k k1 k2 j hj
    · rw [r9 k (by omega)]; exact q2 k k1 k2 j hj
    · rw [r9 36 (by omega)]; exact q3 j hj
    · rw [r9 37 (by omega)]; exact q4 j hj
    · rw [r9 37 (by omega)]; exact q5
    · rw [r9 k (by omega)]; exact q6 k hk
    · rw [r3 j hj, r9 22 (by omega)]
    · rw [r5 j hj, r9 37 (by omega)]
    · rw [r7 j hj, r9 36 (by omega)]
    · rw [r2 x hx, q7 38 (by decide)]
    · rw [r4 x (Or.inl hx), q7 39 (by decide)]
    · rw [r6 x (Or.inl hx), q7 40 (by decide)]
    · rw [r8 x (Or.inl hx), q7 41 (by decide)]
  · refine ⟨_, A2, fun hp => go (Or.inl ⟨by omega, rfl⟩) hp, t32, t33, upd_at, t0, q1, q2, q3, q4, q5, q6, fun z => by omega, fun x _ => by rw [q7 38 (by decide)], fun x _ => by rw [q7 39 (by decide)], fun x _ => by rw [q7 40 (by decide)], fun x _ => by rw [q7 41 (by decide)], fun _ => q7⟩
