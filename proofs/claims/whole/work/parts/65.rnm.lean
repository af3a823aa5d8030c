/-! NAMES IN THE REFERENCE -/
def nmq (A : Nat → Nat → Int32) (fr ln n : Nat) : Bool := decide (A 2 n = Int32.ofNat ln) && jall (fun k => decide (A 3 (12 * n + k) = A 1 (fr + k))) ln 0
theorem N_no_in {G : jx_Gv} {h : jx_H} {b : Nat} {S : Nat → Int32} {A : Nat → Nat → Int32} {fr ln n : Nat} (hl : ln ≤ 12) (hf : fr + ln ≤ 2000) (hn : n ≤ 1000) (he : A 2 n = Int32.ofNat ln) : ∀ d k : Nat, k + d = ln → ∃ z5, jE G (76, 32, [some (.ref b), some (.int (Int32.ofNat fr)), some (.int (Int32.ofNat (fr + ln))), some (.int (Int32.ofNat n)), some (.int (Int32.ofNat 1)), some (.int (Int32.ofNat k))], [], hR h b S A) = cond (jall (fun k => decide (A 3 (12 * n + k) = A 1 (fr + k))) d k) (some (some (.int (Int32.ofNat n)), hR h b S A)) (jE G (76, 2, [some (.ref b), some (.int (Int32.ofNat fr)), some (.int (Int32.ofNat (fr + ln))), some (.int (Int32.ofNat (n + 1))), some (.int (Int32.ofNat 0)), z5], [], hR h b S A))
  | 0, k, hk => by
    refine ⟨none, ?_⟩
    rw [e_76_32, jall, cond_true]
    simp (disch := omega) only [e_76_0, e_76_10, e_76_22, e_76_26, e_76_27, e_76_43, e_76_48, e_76_72, e_76_76, e_76_77, e_76_85, e_76_90, e_76_92, e_76_98, e_76_127, e_76_155, ↓ra_nameLength_b, ↓rl_nameLength_b, he, ↓Option.bind_some, ↓jzo_0b, ↓jzo_1b, ↓jzo_bb, Option.toList_some, Option.toList_none, List.cons_append, List.nil_append, ↓reduceIte, jzo_0, jzo_1, jzo_b, jbi_t, jbi_f, i_add, ↓i_ltP, ↓i_ltN, ↓i_eqP, ↓i_eqN, i_lt, i_eq, jbi_0, pt_lt, pf_lt, pt_eq, pf_eq, pt_le, pf_le, Nat.reduceEqDiff, eq_self, true_or, or_true, false_or, or_false, true_and, and_true, false_and, and_false, jE_sw, jE_sw0]
  | d + 1, k, hk => by
    rw [e_76_32, jall]
    by_cases c : A 3 (12 * n + k) = A 1 (fr + k)
    · obtain ⟨z5, ih⟩ := N_no_in (G := G) (h := h) (b := b) (S := S) hl hf hn he d (k + 1) (by omega)
      refine ⟨z5, ?_⟩
      rw [decide_eq_true c, Bool.true_and, ← ih]
      simp (disch := omega) only [e_76_0, e_76_10, e_76_22, e_76_26, e_76_27, e_76_43, e_76_48, e_76_72, e_76_76, e_76_77, e_76_85, e_76_90, e_76_92, e_76_98, e_76_127, e_76_155, ↓ra_nameLength_b, ↓rl_nameLength_b, ↓ra_nameOctets_b, ↓rl_nameOctets_b, ↓ra_text_b, ↓rl_text_b, he, i_mul, c, ↓Option.bind_some, ↓jzo_0b, ↓jzo_1b, ↓jzo_bb, Option.toList_some, Option.toList_none, List.cons_append, List.nil_append, ↓reduceIte, jzo_0, jzo_1, jzo_b, jbi_t, jbi_f, i_add, ↓i_ltP, ↓i_ltN, ↓i_eqP, ↓i_eqN, i_lt, i_eq, jbi_0, pt_lt, pf_lt, pt_eq, pf_eq, pt_le, pf_le, Nat.reduceEqDiff, eq_self, true_or, or_true, false_or, or_false, true_and, and_true, false_and, and_false, jE_sw, jE_sw0]
    · refine ⟨some (.int (Int32.ofNat (k + 1))), ?_⟩
      rw [decide_eq_false c, Bool.false_and, cond_false]
      simp (disch := omega) only [e_76_0, e_76_10, e_76_22, e_76_26, e_76_27, e_76_43, e_76_48, e_76_72, e_76_76, e_76_77, e_76_85, e_76_90, e_76_92, e_76_98, e_76_127, e_76_155, ↓ra_nameLength_b, ↓rl_nameLength_b, ↓ra_nameOctets_b, ↓rl_nameOctets_b, ↓ra_text_b, ↓rl_text_b, he, i_mul, c, ↓Option.bind_some, ↓jzo_0b, ↓jzo_1b, ↓jzo_bb, Option.toList_some, Option.toList_none, List.cons_append, List.nil_append, ↓reduceIte, jzo_0, jzo_1, jzo_b, jbi_t, jbi_f, i_add, ↓i_ltP, ↓i_ltN, ↓i_eqP, ↓i_eqN, i_lt, i_eq, jbi_0, pt_lt, pf_lt, pt_eq, pf_eq, pt_le, pf_le, Nat.reduceEqDiff, eq_self, true_or, or_true, false_or, or_false, true_and, and_true, false_and, and_false, jE_sw, jE_sw0]
      rw [e_76_32]
      by_cases c2 : k + 1 < ln <;> simp (disch := omega) only [e_76_0, e_76_10, e_76_22, e_76_26, e_76_27, e_76_43, e_76_48, e_76_72, e_76_76, e_76_77, e_76_85, e_76_90, e_76_92, e_76_98, e_76_127, e_76_155, ↓ra_nameLength_b, ↓rl_nameLength_b, he, ↓Option.bind_some, ↓jzo_0b, ↓jzo_1b, ↓jzo_bb, Option.toList_some, Option.toList_none, List.cons_append, List.nil_append, ↓reduceIte, jzo_0, jzo_1, jzo_b, jbi_t, jbi_f, i_add, ↓i_ltP, ↓i_ltN, ↓i_eqP, ↓i_eqN, i_lt, i_eq, jbi_0, pt_lt, pf_lt, pt_eq, pf_eq, pt_le, pf_le, Nat.reduceEqDiff, eq_self, true_or, or_true, false_or, or_false, true_and, and_true, false_and, and_false, jE_sw, jE_sw0]
def nmf (A : Nat → Nat → Int32) (fr ln : Nat) : Nat → Nat → Option Nat
  | 0, _ => none
  | d + 1, n => cond (nmq A fr ln n) (some n) (nmf A fr ln d (n + 1))
def cpo (f : Nat → Int32) (fr base : Nat) : Nat → Nat → (Nat → Int32) → Nat → Int32
  | 0, _, g => g
  | d + 1, k, g => cpo f fr base d (k + 1) (upd g (base + k) (f (fr + k)))
theorem N_no_cp {G : jx_Gv} {h : jx_H} {b : Nat} {S : Nat → Int32} {fr ln N : Nat} {z4 z5 : Option Value} (hl : ln ≤ 12) (hf : fr + ln ≤ 2000) (hN : N ≤ 1000) (hS : S 8 = Int32.ofNat N) : ∀ (d k : Nat) (A : Nat → Nat → Int32), k + d = ln → jE G (76, 122, [some (.ref b), some (.int (Int32.ofNat fr)), some (.int (Int32.ofNat (fr + ln))), some (.int (Int32.ofNat (fr + k))), z4, z5], [], hR h b S A) = some (some (.int (Int32.ofNat N)), hR h b S (upA A 3 (cpo (A 1) fr (12 * N) d k (A 3))))
  | 0, k, A, hk => by
    rw [e_76_122, cpo]
    have e : upA A 3 (A 3) = A := by
      funext j
      unfold upA
      by_cases c : j = 3
      · rw [if_pos c, c]
      · rw [if_neg c]
    rw [e]
    simp (disch := omega) only [e_76_0, e_76_10, e_76_22, e_76_26, e_76_27, e_76_43, e_76_48, e_76_72, e_76_76, e_76_77, e_76_85, e_76_90, e_76_92, e_76_98, e_76_127, e_76_155, ↓rg_names_b, hS, ↓Option.bind_some, ↓jzo_0b, ↓jzo_1b, ↓jzo_bb, Option.toList_some, Option.toList_none, List.cons_append, List.nil_append, ↓reduceIte, jzo_0, jzo_1, jzo_b, jbi_t, jbi_f, i_add, ↓i_ltP, ↓i_ltN, ↓i_eqP, ↓i_eqN, i_lt, i_eq, jbi_0, pt_lt, pf_lt, pt_eq, pf_eq, pt_le, pf_le, Nat.reduceEqDiff, eq_self, true_or, or_true, false_or, or_false, true_and, and_true, false_and, and_false, jE_sw, jE_sw0]
  | d + 1, k, A, hk => by
    have ih := N_no_cp (G := G) (h := h) (b := b) (z4 := z4) (z5 := z5) hl hf hN hS d (k + 1) (upA A 3 (upd (A 3) (12 * N + k) (A 1 (fr + k)))) (by omega)
    have e : 12 * N + (fr + k) - fr = 12 * N + k := by omega
    rw [e_76_122, cpo]
    rw [upA_upA, upA_at, upA_of (show 1 ≠ 3 by decide)] at ih
    refine Eq.trans ?_ ih
    simp (disch := omega) only [e_76_0, e_76_10, e_76_22, e_76_26, e_76_27, e_76_43, e_76_48, e_76_72, e_76_76, e_76_77, e_76_85, e_76_90, e_76_92, e_76_98, e_76_127, e_76_155, ↓rg_names_b, ↓ra_nameOctets_b, ↓ra_text_b, ↓rl_text_b, ↓rs_nameOctets_b, hS, i_mul, i_sub, e, Nat.add_assoc, ↓Option.bind_some, ↓jzo_0b, ↓jzo_1b, ↓jzo_bb, Option.toList_some, Option.toList_none, List.cons_append, List.nil_append, ↓reduceIte, jzo_0, jzo_1, jzo_b, jbi_t, jbi_f, i_add, ↓i_ltP, ↓i_ltN, ↓i_eqP, ↓i_eqN, i_lt, i_eq, jbi_0, pt_lt, pf_lt, pt_eq, pf_eq, pt_le, pf_le, Nat.reduceEqDiff, eq_self, true_or, or_true, false_or, or_false, true_and, and_true, false_and, and_false, jE_sw, jE_sw0]
def nmAdd (S : Nat → Int32) (A : Nat → Nat → Int32) (fr ln N : Nat) : (Nat → Int32) × (Nat → Nat → Int32) := (upd S 8 (Int32.ofNat (N + 1)), upA (upA A 2 (upd (A 2) (N + 1) (Int32.ofNat ln))) 3 (cpo (A 1) fr (12 * (N + 1)) ln 0 (A 3)))
theorem N_no_loop {G : jx_Gv} {h : jx_H} {b : Nat} {S : Nat → Int32} {A : Nat → Nat → Int32} {fr ln N : Nat} (hl : ln ≤ 12) (hf : fr + ln ≤ 2000) (hN : N < 1000) (hS : S 8 = Int32.ofNat N) (hL : ∀ n : Nat, n ≤ 1000 → ∃ m : Nat, m ≤ 12 ∧ A 2 n = Int32.ofNat m) : ∀ (d n : Nat) (z4 z5 : Option Value), n + d = N + 1 → 1 ≤ n → jE G (76, 2, [some (.ref b), some (.int (Int32.ofNat fr)), some (.int (Int32.ofNat (fr + ln))), some (.int (Int32.ofNat n)), z4, z5], [], hR h b S A) = match nmf A fr ln d n with
    | some j => some (some (.int (Int32.ofNat j)), hR h b S A)
    | none => some (some (.int (Int32.ofNat (N + 1))), hR h b (nmAdd S A fr ln N).1 (nmAdd S A fr ln N).2)
  | 0, n, z4, z5, hn, h1 => by
    have q := N_no_cp (G := G) (h := h) (b := b) (S := upd S 8 (Int32.ofNat (N + 1))) (z4 := z4) (z5 := z5) hl hf (N := N + 1) (by omega) upd_at ln 0 (upA A 2 (upd (A 2) (N + 1) (Int32.ofNat ln))) (by omega)
    rw [upA_of (show 1 ≠ 2 by decide), upA_of (show 3 ≠ 2 by decide)] at q
    have e : fr + ln - fr = ln := by omega
    rw [e_76_2, nmf]
    refine Eq.trans ?_ q
    simp (disch := omega) only [e_76_0, e_76_10, e_76_22, e_76_26, e_76_27, e_76_43, e_76_48, e_76_72, e_76_76, e_76_77, e_76_85, e_76_90, e_76_92, e_76_98, e_76_127, e_76_155, ↓rg_names_b, ↓rp_names_b, ↓ra_nameLength_b, ↓rs_nameLength_b, hS, upd_at, i_sub, e, Nat.add_zero, ↓Option.bind_some, ↓jzo_0b, ↓jzo_1b, ↓jzo_bb, Option.toList_some, Option.toList_none, List.cons_append, List.nil_append, ↓reduceIte, jzo_0, jzo_1, jzo_b, jbi_t, jbi_f, i_add, ↓i_ltP, ↓i_ltN, ↓i_eqP, ↓i_eqN, i_lt, i_eq, jbi_0, pt_lt, pf_lt, pt_eq, pf_eq, pt_le, pf_le, Nat.reduceEqDiff, eq_self, true_or, or_true, false_or, or_false, true_and, and_true, false_and, and_false, jE_sw, jE_sw0]
  | d + 1, n, z4, z5, hn, h1 => by
    have e : fr + ln - fr = ln := by omega
    obtain ⟨m, hm, em⟩ := hL n (by omega)
    rw [e_76_2, nmf, nmq]
    by_cases c : m = ln
    · subst c
      obtain ⟨z, ei⟩ := N_no_in (G := G) (h := h) (b := b) (S := S) hl hf (n := n) (by omega) em m 0 (by omega)
      have ih := N_no_loop (G := G) (h := h) (b := b) hl hf hN hS hL d (n + 1) (some (.int (Int32.ofNat 0))) z (by omega) (by omega)
      rw [decide_eq_true em, Bool.true_and]
      have go : jE G (76, 32, [some (.ref b), some (.int (Int32.ofNat fr)), some (.int (Int32.ofNat (fr + m))), some (.int (Int32.ofNat n)), some (.int (Int32.ofNat 1)), some (.int (Int32.ofNat 0))], [], hR h b S A) = match cond (jall (fun k => decide (A 3 (12 * n + k) = A 1 (fr + k))) m 0) (some n) (nmf A fr m d (n + 1)) with
          | some j => some (some (.int (Int32.ofNat j)), hR h b S A)
          | none => some (some (.int (Int32.ofNat (N + 1))), hR h b (nmAdd S A fr m N).1 (nmAdd S A fr m N).2) := by
        rw [ei]
        cases jall (fun k => decide (A 3 (12 * n + k) = A 1 (fr + k))) m 0
        · exact ih
        · rfl
      refine Eq.trans ?_ go
      simp (disch := omega) only [e_76_0, e_76_10, e_76_22, e_76_26, e_76_27, e_76_43, e_76_48, e_76_72, e_76_76, e_76_77, e_76_85, e_76_90, e_76_92, e_76_98, e_76_127, e_76_155, ↓rg_names_b, ↓ra_nameLength_b, ↓rl_nameLength_b, hS, em, i_sub, e, ↓Option.bind_some, ↓jzo_0b, ↓jzo_1b, ↓jzo_bb, Option.toList_some, Option.toList_none, List.cons_append, List.nil_append, ↓reduceIte, jzo_0, jzo_1, jzo_b, jbi_t, jbi_f, i_add, ↓i_ltP, ↓i_ltN, ↓i_eqP, ↓i_eqN, i_lt, i_eq, jbi_0, pt_lt, pf_lt, pt_eq, pf_eq, pt_le, pf_le, Nat.reduceEqDiff, eq_self, true_or, or_true, false_or, or_false, true_and, and_true, false_and, and_false, jE_sw, jE_sw0]
    · have c2 : ¬ A 2 n = Int32.ofNat ln := by rw [em, i_eq (by omega) (by omega)]; exact c
      rw [decide_eq_false c2, Bool.false_and, cond_false]
      have ih := fun z4 z5 => N_no_loop (G := G) (h := h) (b := b) hl hf hN hS hL d (n + 1) z4 z5 (by omega) (by omega)
      refine Eq.trans ?_ (ih (some (.int (Int32.ofNat 0))) (some (.int (Int32.ofNat 0))))
      simp (disch := omega) only [e_76_0, e_76_10, e_76_22, e_76_26, e_76_27, e_76_43, e_76_48, e_76_72, e_76_76, e_76_77, e_76_85, e_76_90, e_76_92, e_76_98, e_76_127, e_76_155, ↓rg_names_b, ↓ra_nameLength_b, ↓rl_nameLength_b, hS, em, i_sub, e, ↓Option.bind_some, ↓jzo_0b, ↓jzo_1b, ↓jzo_bb, Option.toList_some, Option.toList_none, List.cons_append, List.nil_append, ↓reduceIte, jzo_0, jzo_1, jzo_b, jbi_t, jbi_f, i_add, ↓i_ltP, ↓i_ltN, ↓i_eqP, ↓i_eqN, i_lt, i_eq, jbi_0, pt_lt, pf_lt, pt_eq, pf_eq, pt_le, pf_le, Nat.reduceEqDiff, eq_self, true_or, or_true, false_or, or_false, true_and, and_true, false_and, and_false, jE_sw, jE_sw0]
      rw [e_76_32]
      by_cases c3 : 0 < m <;> simp (disch := omega) only [e_76_0, e_76_10, e_76_22, e_76_26, e_76_27, e_76_43, e_76_48, e_76_72, e_76_76, e_76_77, e_76_85, e_76_90, e_76_92, e_76_98, e_76_127, e_76_155, ↓ra_nameLength_b, ↓rl_nameLength_b, em, ↓Option.bind_some, ↓jzo_0b, ↓jzo_1b, ↓jzo_bb, Option.toList_some, Option.toList_none, List.cons_append, List.nil_append, ↓reduceIte, jzo_0, jzo_1, jzo_b, jbi_t, jbi_f, i_add, ↓i_ltP, ↓i_ltN, ↓i_eqP, ↓i_eqN, i_lt, i_eq, jbi_0, pt_lt, pf_lt, pt_eq, pf_eq, pt_le, pf_le, Nat.reduceEqDiff, eq_self, true_or, or_true, false_or, or_false, true_and, and_true, false_and, and_false, jE_sw, jE_sw0]
