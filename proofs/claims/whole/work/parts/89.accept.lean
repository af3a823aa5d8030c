/-! THE REFERENCE TAKES A TOKEN -/
theorem upA_id {A : Nat → Nat → Int32} {k : Nat} : upA A k (A k) = A := by
  funext j
  unfold upA
  by_cases c : j = k
  · rw [if_pos c, c]
  · rw [if_neg c]
theorem hW_self {h : jx_H} {b w : Nat} {S : Nat → Int32} {A : Nat → Nat → Int32} (e : S 28 = Int32.ofNat w) : hW h b S A (A 19, w) = hR h b S A := by
  unfold hW
  rw [show ((A 19, w) : (Nat → Int32) × Nat).2 = w from rfl, ← e, upd_id, show ((A 19, w) : (Nat → Int32) × Nat).1 = A 19 from rfl, upA_id]
theorem lS_self {S : Nat → Int32} {p l tl : Nat} (h2 : S 2 = Int32.ofNat p) (h3 : S 3 = Int32.ofNat l) (h6 : S 6 = Int32.ofNat tl) : lS S p l (S 4) (S 5) tl = S := by
  funext j
  unfold lS
  by_cases e2 : j = 2
  · rw [if_pos e2, e2, h2]
  rw [if_neg e2]
  by_cases e3 : j = 3
  · rw [if_pos e3, e3, h3]
  rw [if_neg e3]
  by_cases e4 : j = 4
  · rw [if_pos e4, e4]
  rw [if_neg e4]
  by_cases e5 : j = 5
  · rw [if_pos e5, e5]
  rw [if_neg e5]
  by_cases e6 : j = 6
  · rw [if_pos e6, e6, h6]
  rw [if_neg e6]
theorem nTab_congr {A B : Nat → Nat → Int32} {X X' : jX} (h : nTab A X) (h1 : xNa X' = xNa X) (h2 : xNc X' = xNc X) (h3 : B 2 = A 2) (h4 : B 3 = A 3) : nTab B X' := by
  unfold nTab
  rw [h1, h2, h3, h4]
  exact h
theorem ac_ok {G : jx_Gv} {h : jx_H} {b : Nat} {S : Nat → Int32} {A : Nat → Nat → Int32} {wn : Nat → Int64} {f : Nat → Int32} {len : Nat} {c : jS} {X X' : jX} {m wa w : Nat} (hw : wnOk wn) (hO : fOct f len) (hl : len ≤ 2000) (h0 : S 0 = Int32.ofNat len) (h1 : A 1 = f) (hA : hLn A) (hP : Pl f len c (xNc X)) (hK : Tk f c.1 (adv wn f len c) X S A) (h5 : (adv wn f len c).2.2.1 ≠ Int32.ofNat 5) (h6 : (adv wn f len c).2.2.1 ≠ Int32.ofNat 6) (hm : S 11 = Int32.ofNat (m + 1)) (hm2 : m < 120) (hwa : A 20 m = Int32.ofNat wa) (hwa2 : wa ≤ 6000) (h28 : S 28 = Int32.ofNat w) (hw2 : w ≤ 2 * c.1) (hX1 : xNa X' = xNa (nxX (adv wn f len c) X)) (hX2 : xNc X' = xNc (nxX (adv wn f len c) X)) : ∃ S' A', jE G (82, 0, [some (.ref b)], [], hR h b S A) = some (some (.int (Int32.ofNat 1)), hR h b S' A') ∧ Tk f (adv wn f len c).1 (adv wn f len (adv wn f len c)) X' S' A' ∧ hLn A' ∧ Pl f len (adv wn f len c) (xNc X') ∧ S' 28 = Int32.ofNat (w + ((if wa < w then [Int32.ofNat 32] else []) ++ tokW f (S 4) (S 5) (lback f (adv wn f len c).1) (adv wn f len c).1).length) ∧ w + ((if wa < w then [Int32.ofNat 32] else []) ++ tokW f (S 4) (S 5) (lback f (adv wn f len c).1) (adv wn f len c).1).length ≤ 2 * (adv wn f len c).1 ∧ A' 19 = (wps (A 19, w) ((if wa < w then [Int32.ofNat 32] else []) ++ tokW f (S 4) (S 5) (lback f (adv wn f len c).1) (adv wn f len c).1)).1 ∧ (∀ j : Nat, j ≠ 2 → j ≠ 3 → j ≠ 4 → j ≠ 5 → j ≠ 6 → j ≠ 8 → j ≠ 28 → S' j = S j) ∧ ∀ k : Nat, k ≠ 2 → k ≠ 3 → k ≠ 19 → A' k = A k := by
  have hP' := Pl_next (X := X) hw hO hl hP h5 h6
  obtain ⟨t1, t2, t3, t4, t5, t6, t7, t8, -⟩ := hK
  obtain ⟨t31, t32, t33, t34⟩ := t3 h5
  obtain ⟨t81, t82⟩ := t8 h5 h6
  have hq1 := hP'.1
  have hb := lback_le (f := f) (adv wn f len c).1
  have hv : S 4 = Int32.ofNat 3 → ∃ n : Nat, n < 1000000 ∧ S 5 = Int32.ofNat n := by
    intro e
    have e3 : (adv wn f len c).2.2.1 = Int32.ofNat 3 := by
      rw [t2] at e
      unfold rk at e
      rw [if_neg h6] at e
      exact e
    obtain ⟨z1, n, z2, z3, -⟩ := t6 e3
    exact ⟨n, z2, by rw [z1, z3]⟩
  have hlen : (tokW f (S 4) (S 5) (lback f (adv wn f len c).1) (adv wn f len c).1).length + c.1 ≤ (adv wn f len c).1 := by
    unfold tokW
    by_cases d1 : S 4 = Int32.ofNat 3
    · rw [if_pos d1]
      have e3 : (adv wn f len c).2.2.1 = Int32.ofNat 3 := by
        rw [t2] at d1
        unfold rk at d1
        rw [if_neg h6] at d1
        exact d1
      obtain ⟨z1, n, z2, z3, z4⟩ := t6 e3
      rw [z1, z3, i_cl (by omega)]
      exact z4
    rw [if_neg d1]
    by_cases d2 : S 4 = Int32.ofNat 4
    · rw [if_pos d2]
      show 1 + c.1 ≤ (adv wn f len c).1
      omega
    · rw [if_neg d2, cpy_len]
      omega
  generalize hq : adv wn f len c = q at *
  have wt := N_writeToken (G := G) (h := h) (b := b) (S := S) (A := A) (p := q.1) (k := lback f q.1) (m := m) (wa := wa) (q := (A 19, w)) t31 (by omega) hb hm hm2 hwa (by omega) (by show w + (q.1 - lback f q.1) + 8 < 6000; omega) hv
  rw [h1] at wt
  have lo := N_lengthOf (G := G) (h := h) (b := b) (S := S) (A := A) (p := q.1) (q := (A 19, w)) t31 (by omega)
  rw [h1] at lo
  rw [hW_self h28] at wt lo
  have ht : ((if wa < w then [Int32.ofNat 32] else []) : List Int32).length ≤ 1 := by split <;> decide
  generalize hT : (if wa < w then [Int32.ofNat 32] else []) ++ tokW f (S 4) (S 5) (lback f q.1) q.1 = t at *
  have htl : t.length + c.1 ≤ q.1 + 1 := by
    rw [← hT, List.length_append]
    omega
  have e2 : (wps (A 19, w) t).2 = w + t.length := wps_len
  have nx := nx_ok (G := G) (h := h) (b := b) (S := upd S 28 (Int32.ofNat (wps (A 19, w) t).2)) (A := upA A 19 (wps (A 19, w) t).1) (wn := wn) (f := f) (len := len) (c := q) (X := X') (k := upd S 28 (Int32.ofNat (wps (A 19, w) t).2) 4) (v := upd S 28 (Int32.ofNat (wps (A 19, w) t).2) 5) (tl := q.2.1) hw hO hl (by rw [upd_of (by decide)]; exact h0) (by rw [upA_of (by decide)]; exact h1) (fun n hn => by rw [upA_of (by decide)]; exact hA n hn) (nTab_congr t33 hX1 hX2 (upA_of (by decide)) (upA_of (by decide))) (by rw [upd_of (by decide), hX2]; exact t34) (by rw [hX2]; exact hP')
  obtain ⟨S', A', n1, n2, n3, n4, n5⟩ := nx
  have eL : hL h b (upd S 28 (Int32.ofNat (wps (A 19, w) t).2)) (upA A 19 (wps (A 19, w) t).1) q.1 q.2.1 (upd S 28 (Int32.ofNat (wps (A 19, w) t).2) 4) (upd S 28 (Int32.ofNat (wps (A 19, w) t).2) 5) q.2.1 = hW h b S A (wps (A 19, w) t) := by
    unfold hL hW
    rw [lS_self (by rw [upd_of (by decide)]; exact t31) (by rw [upd_of (by decide)]; exact t32) (by rw [upd_of (by decide)]; exact t1)]
  rw [eL] at n1
  refine ⟨S', A', ?_, n2, n3, by rw [hX2]; exact hP', ?_, by omega, ?_, fun j j2 j3 j4 j5 j6 j8 j28 => ?_, fun k k2 k3 k19 => ?_⟩
  · have lo' := fun {β : Type} {f : jx_R → Option β} => bnd (f := f) lo
    have wt' := fun {β : Type} {f : jx_R → Option β} => bnd (f := f) wt
    have n1' := fun {β : Type} {f : jx_R → Option β} => bnd (f := f) n1
    have es : q.1 - (q.1 - lback f q.1) = lback f q.1 := by omega
    simp (disch := omega) only [e_82_0, e_82_9, e_82_13, e_82_17, rr_v, rr_w, ↓rg_at_b, t31, ↓lo', i_sub, es, ↓wt', ↓n1', ↓Option.bind_some, ↓jzo_0b, ↓jzo_1b, ↓jzo_bb, Option.toList_some, Option.toList_none, List.cons_append, List.nil_append, ↓reduceIte, jzo_0, jzo_1, jzo_b, jbi_t, jbi_f, i_add, ↓i_ltP, ↓i_ltN, ↓i_eqP, ↓i_eqN, i_lt, i_eq, jbi_0, pt_lt, pf_lt, pt_eq, pf_eq, pt_le, pf_le, Nat.reduceEqDiff, eq_self, true_or, or_true, false_or, or_false, true_and, and_true, false_and, and_false, jE_sw, jE_sw0]
  · rw [n4 28 (by decide) (by decide) (by decide) (by decide) (by decide) (by decide), upd_at, e2]
  · rw [n5 19 (by decide) (by decide), upA_at]
  · rw [n4 j j2 j3 j4 j5 j6 j8, upd_of j28]
  · rw [n5 k k2 k3, upA_of k19]
