/-! THE REFERENCE PRINTS -/
def hX (h : jx_H) (b : Nat) (S : Nat → Int32) (A : Nat → Nat → Int32) (q : (Nat → Int32) × Nat) : jx_H := hR h b (upd S 0 (Int32.ofNat q.2)) (upA A 1 q.1)
section JHX
variable {h : jx_H} {b i : Nat} {S : Nat → Int32} {A : Nat → Nat → Int32} {q : (Nat → Int32) × Nat} {x : Int32}
theorem xg_size : jx_fI (hX h b S A q) b 8 0 = some (Int32.ofNat q.2) := rg_size
theorem xg_size_b  {β_ : Type} {f_ : Int32 → Option β_} : (jx_fI (hX h b S A q) b 8 0).bind f_ = f_ ((Int32.ofNat q.2)) := bnd (xg_size )
theorem xg_hRows : jx_fI (hX h b S A q) b 8 33 = some (S 33) := rg_hRows
theorem xg_hRows_b  {β_ : Type} {f_ : Int32 → Option β_} : (jx_fI (hX h b S A q) b 8 33).bind f_ = f_ ((S 33)) := bnd (xg_hRows )
theorem xa_text : jx_fA (hX h b S A q) b 8 1 = some (b + 1) := ra_text
theorem xa_text_b  {β_ : Type} {f_ : Nat → Option β_} : (jx_fA (hX h b S A q) b 8 1).bind f_ = f_ ((b + 1)) := bnd (xa_text )
theorem xa_hText : jx_fA (hX h b S A q) b 8 49 = some (b + 36) := ra_hText
theorem xa_hText_b  {β_ : Type} {f_ : Nat → Option β_} : (jx_fA (hX h b S A q) b 8 49).bind f_ = f_ ((b + 36)) := bnd (xa_hText )
theorem xa_hAt : jx_fA (hX h b S A q) b 8 50 = some (b + 37) := ra_hAt
theorem xa_hAt_b  {β_ : Type} {f_ : Nat → Option β_} : (jx_fA (hX h b S A q) b 8 50).bind f_ = f_ ((b + 37)) := bnd (xa_hAt )
theorem xl_hText (hi : i < 6000) : jx_aI (hX h b S A q) 0 (b + 36) (Int32.ofNat i) = some (A 36 i) := rl_hText hi
theorem xl_hText_b (hi : i < 6000) {β_ : Type} {f_ : Int32 → Option β_} : (jx_aI (hX h b S A q) 0 (b + 36) (Int32.ofNat i)).bind f_ = f_ ((A 36 i)) := bnd (xl_hText hi)
theorem xl_hAt (hi : i < 121) : jx_aI (hX h b S A q) 0 (b + 37) (Int32.ofNat i) = some (A 37 i) := rl_hAt hi
theorem xl_hAt_b (hi : i < 121) {β_ : Type} {f_ : Int32 → Option β_} : (jx_aI (hX h b S A q) 0 (b + 37) (Int32.ofNat i)).bind f_ = f_ ((A 37 i)) := bnd (xl_hAt hi)
theorem xs_text2 (hq : q.2 < 2000) : jx_sI (hX h b S A q) 0 (b + 1) (Int32.ofNat q.2) x = some (hX h b S A (upd q.1 q.2 x, q.2)) := by
  unfold hX
  rw [rs_text hq, upA_at, upA_upA]
theorem xs_text2_b (hq : q.2 < 2000) {β_ : Type} {f_ : jx_H → Option β_} : (jx_sI (hX h b S A q) 0 (b + 1) (Int32.ofNat q.2) x).bind f_ = f_ ((hX h b S A (upd q.1 q.2 x, q.2))) := bnd (xs_text2 hq)
theorem xp_size {n : Nat} {g : Nat → Int32} : jx_put (hX h b S A (g, i)) b 8 0 (.int (Int32.ofNat n)) = some (hX h b S A (g, n)) := by
  unfold hX
  rw [rp_size, upd_upd]
theorem xp_size_b {n : Nat} {g : Nat → Int32} {β_ : Type} {f_ : jx_H → Option β_} : (jx_put (hX h b S A (g, i)) b 8 0 (.int (Int32.ofNat n))).bind f_ = f_ ((hX h b S A (g, n))) := bnd (xp_size )
end JHX
theorem N_pr_in {G : jx_Gv} {h : jx_H} {b : Nat} {S : Nat → Int32} {A : Nat → Nat → Int32} {at' : Nat → Nat} {n : Nat} (hn : S 33 = Int32.ofNat n) (hn2 : n ≤ 120) (hA : ∀ i : Nat, i ≤ n → A 37 i = Int32.ofNat (at' i) ∧ at' i ≤ 6000) {r : Nat} (hr1 : r < n) : ∀ (d k : Nat) (q : (Nat → Int32) × Nat), k + d = at' (r + 1) → q.2 + d < 2000 → jE G (181, 55, [some (.ref b), some (.int (Int32.ofNat r)), some (.int (Int32.ofNat k))], [], hX h b S A q) = jE G (181, 40, [some (.ref b), some (.int (Int32.ofNat (r + 1))), some (.int (Int32.ofNat (at' (r + 1))))], [], hX h b S A (wps q (cpy (A 36) d k ++ [Int32.ofNat 10])))
  | 0, k, q, hk, hq => by
    have a1 := hA (r + 1) (by omega)
    rw [e_181_55, cpy, ← hk]
    simp (disch := omega) only [e_181_0, e_181_7, e_181_10, e_181_35, e_181_38, e_181_48, e_181_67, e_181_98, e_181_125, ↓xa_hAt_b, ↓xl_hAt_b, a1.1, ↓xa_text_b, ↓xg_size_b, ↓xs_text2_b, ↓xp_size_b, ↓Option.bind_some, ↓jzo_0b, ↓jzo_1b, ↓jzo_bb, Option.toList_some, Option.toList_none, List.cons_append, List.nil_append, ↓reduceIte, jzo_0, jzo_1, jzo_b, jbi_t, jbi_f, i_add, ↓i_ltP, ↓i_ltN, ↓i_eqP, ↓i_eqN, i_lt, i_eq, jbi_0, pt_lt, pf_lt, pt_eq, pf_eq, pt_le, pf_le, Nat.reduceEqDiff, eq_self, true_or, or_true, false_or, or_false, true_and, and_true, false_and, and_false, jE_sw, jE_sw0]
    rfl
  | d + 1, k, q, hk, hq => by
    have a1 := hA (r + 1) (by omega)
    have ih := N_pr_in (G := G) (h := h) (b := b) hn hn2 hA hr1 d (k + 1) (wp q (A 36 k)) (by omega) (show q.2 + 1 + d < 2000 by omega)
    rw [e_181_55, cpy]
    refine Eq.trans ?_ ih
    simp (disch := omega) only [e_181_0, e_181_7, e_181_10, e_181_35, e_181_38, e_181_48, e_181_67, e_181_98, e_181_125, ↓xa_hAt_b, ↓xl_hAt_b, a1.1, ↓xa_hText_b, ↓xl_hText_b, ↓xa_text_b, ↓xg_size_b, ↓xs_text2_b, ↓xp_size_b, ↓Option.bind_some, ↓jzo_0b, ↓jzo_1b, ↓jzo_bb, Option.toList_some, Option.toList_none, List.cons_append, List.nil_append, ↓reduceIte, jzo_0, jzo_1, jzo_b, jbi_t, jbi_f, i_add, ↓i_ltP, ↓i_ltN, ↓i_eqP, ↓i_eqN, i_lt, i_eq, jbi_0, pt_lt, pf_lt, pt_eq, pf_eq, pt_le, pf_le, Nat.reduceEqDiff, eq_self, true_or, or_true, false_or, or_false, true_and, and_true, false_and, and_false, jE_sw, jE_sw0]
    rfl
