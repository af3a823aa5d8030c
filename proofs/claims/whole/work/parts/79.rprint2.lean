/-! THE REFERENCE PRINTS ALL -/
def prows (f : Nat → Int32) (at' : Nat → Nat) : Nat → Nat → List Int32
  | 0, _ => []
  | d + 1, r => (cpy f (at' (r + 1) - at' r) (at' r) ++ [Int32.ofNat 10]) ++ prows f at' d (r + 1)
theorem cpy_len {f : Nat → Int32} : ∀ d k : Nat, (cpy f d k).length = d
  | 0, _ => rfl
  | d + 1, k => by
    show (cpy f d (k + 1)).length + 1 = d + 1
    rw [cpy_len d (k + 1)]
theorem at_mono {at' : Nat → Nat} {n : Nat} (h : ∀ i : Nat, i < n → at' i ≤ at' (i + 1)) : ∀ d i : Nat, i + d ≤ n → at' i ≤ at' (i + d)
  | 0, i, _ => Nat.le_refl _
  | d + 1, i, hd => Nat.le_trans (at_mono h d i (by omega)) (h (i + d) (by omega))
theorem N_pr_out {G : jx_Gv} {h : jx_H} {b : Nat} {S : Nat → Int32} {A : Nat → Nat → Int32} {at' : Nat → Nat} {n : Nat} (hn : S 33 = Int32.ofNat n) (hn2 : n ≤ 120) (hA : ∀ i : Nat, i ≤ n → A 37 i = Int32.ofNat (at' i) ∧ at' i ≤ 6000) (hm : ∀ i : Nat, i < n → at' i ≤ at' (i + 1)) : ∀ (d r : Nat) (q : (Nat → Int32) × Nat) (z2 : Option Value), r + d = n → q.2 + (at' n - at' r) + d ≤ 2000 → jE G (181, 40, [some (.ref b), some (.int (Int32.ofNat r)), z2], [], hX h b S A q) = some (some (.int (Int32.ofNat (wps q (prows (A 36) at' d r)).2)), hX h b S A (wps q (prows (A 36) at' d r)))
  | 0, r, q, z2, hd, hq => by
    rw [e_181_40, prows]
    simp (disch := omega) only [e_181_0, e_181_7, e_181_10, e_181_35, e_181_38, e_181_48, e_181_67, e_181_98, e_181_125, ↓xg_hRows_b, hn, ↓xg_size_b, ↓Option.bind_some, ↓jzo_0b, ↓jzo_1b, ↓jzo_bb, Option.toList_some, Option.toList_none, List.cons_append, List.nil_append, ↓reduceIte, jzo_0, jzo_1, jzo_b, jbi_t, jbi_f, i_add, ↓i_ltP, ↓i_ltN, ↓i_eqP, ↓i_eqN, i_lt, i_eq, jbi_0, pt_lt, pf_lt, pt_eq, pf_eq, pt_le, pf_le, Nat.reduceEqDiff, eq_self, true_or, or_true, false_or, or_false, true_and, and_true, false_and, and_false, jE_sw, jE_sw0]
    rfl
  | d + 1, r, q, z2, hd, hq => by
    have a0 := hA r (by omega)
    have m1 := hm r (by omega)
    have m2 := at_mono hm (n - (r + 1)) (r + 1) (by omega)
    rw [show r + 1 + (n - (r + 1)) = n by omega] at m2
    have e1 := N_pr_in (G := G) (h := h) (b := b) hn hn2 hA (r := r) (by omega) (at' (r + 1) - at' r) (at' r) q (by omega) (by omega)
    have hlen : (wps q (cpy (A 36) (at' (r + 1) - at' r) (at' r) ++ [Int32.ofNat 10])).2 = q.2 + (at' (r + 1) - at' r + 1) := by
      rw [wps_len, List.length_append, cpy_len]
      rfl
    have ih := N_pr_out (G := G) (h := h) (b := b) hn hn2 hA hm d (r + 1) (wps q (cpy (A 36) (at' (r + 1) - at' r) (at' r) ++ [Int32.ofNat 10])) (some (.int (Int32.ofNat (at' (r + 1))))) (by omega) (by rw [hlen]; omega)
    rw [wps_app] at ih
    rw [e_181_40, prows]
    refine Eq.trans ?_ (e1.trans ih)
    simp (disch := omega) only [e_181_0, e_181_7, e_181_10, e_181_35, e_181_38, e_181_48, e_181_67, e_181_98, e_181_125, ↓xg_hRows_b, hn, ↓xa_hAt_b, ↓xl_hAt_b, a0.1, ↓Option.bind_some, ↓jzo_0b, ↓jzo_1b, ↓jzo_bb, Option.toList_some, Option.toList_none, List.cons_append, List.nil_append, ↓reduceIte, jzo_0, jzo_1, jzo_b, jbi_t, jbi_f, i_add, ↓i_ltP, ↓i_ltN, ↓i_eqP, ↓i_eqN, i_lt, i_eq, jbi_0, pt_lt, pf_lt, pt_eq, pf_eq, pt_le, pf_le, Nat.reduceEqDiff, eq_self, true_or, or_true, false_or, or_false, true_and, and_true, false_and, and_false, jE_sw, jE_sw0]
theorem N_print {G : jx_Gv} {h : jx_H} {b : Nat} {S : Nat → Int32} {A : Nat → Nat → Int32} {at' : Nat → Nat} {n : Nat} (h32 : S 32 = Int32.ofNat 1) (hn : S 33 = Int32.ofNat n) (hn2 : n ≤ 120) (hA : ∀ i : Nat, i ≤ n → A 37 i = Int32.ofNat (at' i) ∧ at' i ≤ 6000) (hm : ∀ i : Nat, i < n → at' i ≤ at' (i + 1)) (h0 : at' 0 = 0) : jE G (181, 0, [some (.ref b), none, none], [], hR h b S A) = if 2000 < at' n + n then some (some (.int (-(Int32.ofNat 4))), hX h b S A (A 1, 0)) else some (some (.int (Int32.ofNat (wps (A 1, 0) (prows (A 36) at' n 0)).2)), hX h b S A (wps (A 1, 0) (prows (A 36) at' n 0))) := by
  have ex : hR h b (upd S 0 (Int32.ofNat 0)) A = hX h b S A (A 1, 0) := by
    unfold hX
    congr 1
    funext j
    unfold upA
    by_cases e : j = 1
    · rw [if_pos e, e]
    · rw [if_neg e]
  have an := hA n (Nat.le_refl _)
  by_cases c : 2000 < at' n + n
  · rw [if_pos c]
    simp (disch := omega) only [e_181_0, e_181_7, e_181_10, e_181_35, e_181_38, e_181_48, e_181_67, e_181_98, e_181_125, ↓rg_inHand_b, h32, ↓rp_size_b, ex, ↓xa_hAt_b, ↓xl_hAt_b, ↓xg_hRows_b, hn, an.1, ↓Option.bind_some, ↓jzo_0b, ↓jzo_1b, ↓jzo_bb, Option.toList_some, Option.toList_none, List.cons_append, List.nil_append, ↓reduceIte, jzo_0, jzo_1, jzo_b, jbi_t, jbi_f, i_add, ↓i_ltP, ↓i_ltN, ↓i_eqP, ↓i_eqN, i_lt, i_eq, jbi_0, pt_lt, pf_lt, pt_eq, pf_eq, pt_le, pf_le, Nat.reduceEqDiff, eq_self, true_or, or_true, false_or, or_false, true_and, and_true, false_and, and_false, jE_sw, jE_sw0]
  · rw [if_neg c]
    have q := N_pr_out (G := G) (h := h) (b := b) hn hn2 hA hm n 0 (A 1, 0) none (by omega) (by show 0 + (at' n - at' 0) + n ≤ 2000; omega)
    refine Eq.trans ?_ q
    simp (disch := omega) only [e_181_0, e_181_7, e_181_10, e_181_35, e_181_38, e_181_48, e_181_67, e_181_98, e_181_125, ↓rg_inHand_b, h32, ↓rp_size_b, ex, ↓xa_hAt_b, ↓xl_hAt_b, ↓xg_hRows_b, hn, an.1, ↓Option.bind_some, ↓jzo_0b, ↓jzo_1b, ↓jzo_bb, Option.toList_some, Option.toList_none, List.cons_append, List.nil_append, ↓reduceIte, jzo_0, jzo_1, jzo_b, jbi_t, jbi_f, i_add, ↓i_ltP, ↓i_ltN, ↓i_eqP, ↓i_eqN, i_lt, i_eq, jbi_0, pt_lt, pf_lt, pt_eq, pf_eq, pt_le, pf_le, Nat.reduceEqDiff, eq_self, true_or, or_true, false_or, or_false, true_and, and_true, false_and, and_false, jE_sw, jE_sw0]
