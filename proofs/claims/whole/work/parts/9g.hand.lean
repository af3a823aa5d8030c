/-! WHAT WAS READ COMES IN HAND, AND IS KEPT -/
def cs1N (A : Nat → Nat → Int32) (i : Nat) : Nat → Nat → Int32 := upA (upA (upA (upA (upA (upA (upA (upA (upA (upA (upA (upA A 21 (upd (A 21) i (A 4 i))) 22 (upd (A 22) i (A 5 i))) 23 (upd (A 23) i (A 6 i))) 24 (upd (A 24) i (A 7 i))) 25 (upd (A 25) i (A 8 i))) 26 (upd (A 26) i (A 9 i))) 27 (upd (A 27) i (A 10 i))) 28 (upd (A 28) i (A 11 i))) 29 (upd (A 29) i (A 12 i))) 30 (upd (A 30) i (A 13 i))) 31 (upd (A 31) i (A 14 i))) 32 (upd (A 32) i (A 15 i))
def cs1 (A : Nat → Nat → Int32) (i : Nat) : Nat → Nat → Int32 := fun k => if 21 ≤ k ∧ k ≤ 32 then upd (A k) i (A (k - 17) i) else A k
theorem cs1_eq {A : Nat → Nat → Int32} {i : Nat} : cs1N A i = cs1 A i := by
  funext k
  unfold cs1
  by_cases c : 21 ≤ k ∧ k ≤ 32
  · rw [if_pos c]
    have hk : k = 21 ∨ k = 22 ∨ k = 23 ∨ k = 24 ∨ k = 25 ∨ k = 26 ∨ k = 27 ∨ k = 28 ∨ k = 29 ∨ k = 30 ∨ k = 31 ∨ k = 32 := by omega
    rcases hk with rfl | rfl | rfl | rfl | rfl | rfl | rfl | rfl | rfl | rfl | rfl | rfl <;> unfold cs1N <;> simp (disch := decide) only [upA_of, upA_at, Nat.reduceSub]
  · rw [if_neg c]
    unfold cs1N
    simp (disch := omega) only [upA_of]
def cs2N (A : Nat → Nat → Int32) (i : Nat) : Nat → Nat → Int32 := upA (upA (upA A 33 (upd (A 33) i (A 16 i))) 34 (upd (A 34) i (A 17 i))) 35 (upd (A 35) i (A 18 i))
def cs2 (A : Nat → Nat → Int32) (i : Nat) : Nat → Nat → Int32 := fun k => if 33 ≤ k ∧ k ≤ 35 then upd (A k) i (A (k - 17) i) else A k
theorem cs2_eq {A : Nat → Nat → Int32} {i : Nat} : cs2N A i = cs2 A i := by
  funext k
  unfold cs2
  by_cases c : 33 ≤ k ∧ k ≤ 35
  · rw [if_pos c]
    have hk : k = 33 ∨ k = 34 ∨ k = 35 := by omega
    rcases hk with rfl | rfl | rfl <;> unfold cs2N <;> simp (disch := decide) only [upA_of, upA_at, Nat.reduceSub]
  · rw [if_neg c]
    unfold cs2N
    simp (disch := omega) only [upA_of]
theorem cs1_loop {G : jx_Gv} {h : jx_H} {b n : Nat} {S : Nat → Int32} (hn : n ≤ 120) (hS : S 11 = Int32.ofNat n) : ∀ (d i : Nat) (A : Nat → Nat → Int32), i + d = n → ∃ A', jE G (98, 15, [some (.ref b), some (.int (Int32.ofNat i))], [], hR h b S A) = jE G (98, 173, [some (.ref b), some (.int (Int32.ofNat (n)))], [], hR h b S A') ∧ (∀ k : Nat, 21 ≤ k → k ≤ 32 → ∀ j : Nat, A' k j = if i ≤ j ∧ j < n then A (k - 17) j else A k j) ∧ ∀ k : Nat, k < 21 ∨ 32 < k → A' k = A k
  | 0, i, A, hi => by
    refine ⟨A, ?_, fun k k1 k2 j => by rw [if_neg (by omega)], fun _ _ => rfl⟩
    obtain rfl : i = n := by omega
    rw [e_98_15]
    simp (disch := omega) only [↓rg_rows_b, hS, ↓Option.bind_some, ↓jzo_0b, ↓jzo_1b, ↓jzo_bb, Option.toList_some, Option.toList_none, List.cons_append, List.nil_append, ↓reduceIte, jzo_0, jzo_1, jzo_b, jbi_t, jbi_f, i_add, ↓i_ltP, ↓i_ltN, ↓i_eqP, ↓i_eqN, i_lt, i_eq, jbi_0, pt_lt, pf_lt, pt_eq, pf_eq, pt_le, pf_le, Nat.reduceEqDiff, eq_self, true_or, or_true, false_or, or_false, true_and, and_true, false_and, and_false, jE_sw, jE_sw0]
  | d + 1, i, A, hi => by
    obtain ⟨A', e, p1, p2⟩ := cs1_loop (G := G) (h := h) (b := b) hn hS d (i + 1) (cs1N A i) (by omega)
    rw [cs1_eq] at p1 p2
    refine ⟨A', ?_, fun k k1 k2 j => ?_, fun k hk => ?_⟩
    · rw [← e, e_98_15]
      unfold cs1N
      simp (disch := omega) only [e_98_23, e_98_59, e_98_95, e_98_131, e_98_167, ↓rg_rows_b, ↓ra_rowKind_b, ↓rl_rowKind_b, ↓ra_hKind_b, ↓rs_hKind_b, ↓ra_rowBlock_b, ↓rl_rowBlock_b, ↓ra_hBlock_b, ↓rs_hBlock_b, ↓ra_given_b, ↓rl_given_b, ↓ra_hGiven_b, ↓rs_hGiven_b, ↓ra_second_b, ↓rl_second_b, ↓ra_hSecond_b, ↓rs_hSecond_b, ↓ra_third_b, ↓rl_third_b, ↓ra_hThird_b, ↓rs_hThird_b, ↓ra_fourth_b, ↓rl_fourth_b, ↓ra_hFourth_b, ↓rs_hFourth_b, ↓ra_fifth_b, ↓rl_fifth_b, ↓ra_hFifth_b, ↓rs_hFifth_b, ↓ra_low_b, ↓rl_low_b, ↓ra_hLow_b, ↓rs_hLow_b, ↓ra_high_b, ↓rl_high_b, ↓ra_hHigh_b, ↓rs_hHigh_b, ↓ra_trigger_b, ↓rl_trigger_b, ↓ra_hTrigger_b, ↓rs_hTrigger_b, ↓ra_accessAt_b, ↓rl_accessAt_b, ↓ra_hAccessAt_b, ↓rs_hAccessAt_b, ↓ra_accessMany_b, ↓rl_accessMany_b, ↓ra_hAccessMany_b, ↓rs_hAccessMany_b, upA_of, hS, ↓Option.bind_some, ↓jzo_0b, ↓jzo_1b, ↓jzo_bb, Option.toList_some, Option.toList_none, List.cons_append, List.nil_append, ↓reduceIte, jzo_0, jzo_1, jzo_b, jbi_t, jbi_f, i_add, ↓i_ltP, ↓i_ltN, ↓i_eqP, ↓i_eqN, i_lt, i_eq, jbi_0, pt_lt, pf_lt, pt_eq, pf_eq, pt_le, pf_le, Nat.reduceEqDiff, eq_self, true_or, or_true, false_or, or_false, true_and, and_true, false_and, and_false, jE_sw, jE_sw0]
    · rw [p1 k k1 k2 j]
      unfold cs1
      rw [if_pos (show 21 ≤ k ∧ k ≤ 32 from ⟨k1, k2⟩), if_neg (show ¬ (21 ≤ k - 17 ∧ k - 17 ≤ 32) by omega)]
      by_cases c : j = i
      · subst c
        rw [if_neg (by omega), if_pos (by omega), upd_at]
      · by_cases c2 : i + 1 ≤ j ∧ j < n
        · rw [if_pos c2, if_pos (by omega)]
        · rw [if_neg c2, if_neg (by omega), upd_of c]
    · rw [p2 k hk]
      unfold cs1
      rw [if_neg (by omega)]
theorem cs2_loop {G : jx_Gv} {h : jx_H} {b n : Nat} {S : Nat → Int32} (hn : n ≤ 600) (hS : S 24 = Int32.ofNat n) : ∀ (d i : Nat) (A : Nat → Nat → Int32), i + d = n → ∃ A', jE G (98, 175, [some (.ref b), some (.int (Int32.ofNat i))], [], hR h b S A) = jE G (98, 225, [some (.ref b), some (.int (Int32.ofNat (n)))], [], hR h b S A') ∧ (∀ k : Nat, 33 ≤ k → k ≤ 35 → ∀ j : Nat, A' k j = if i ≤ j ∧ j < n then A (k - 17) j else A k j) ∧ ∀ k : Nat, k < 33 ∨ 35 < k → A' k = A k
  | 0, i, A, hi => by
    refine ⟨A, ?_, fun k k1 k2 j => by rw [if_neg (by omega)], fun _ _ => rfl⟩
    obtain rfl : i = n := by omega
    rw [e_98_175]
    simp (disch := omega) only [↓rg_accesses_b, hS, ↓Option.bind_some, ↓jzo_0b, ↓jzo_1b, ↓jzo_bb, Option.toList_some, Option.toList_none, List.cons_append, List.nil_append, ↓reduceIte, jzo_0, jzo_1, jzo_b, jbi_t, jbi_f, i_add, ↓i_ltP, ↓i_ltN, ↓i_eqP, ↓i_eqN, i_lt, i_eq, jbi_0, pt_lt, pf_lt, pt_eq, pf_eq, pt_le, pf_le, Nat.reduceEqDiff, eq_self, true_or, or_true, false_or, or_false, true_and, and_true, false_and, and_false, jE_sw, jE_sw0]
  | d + 1, i, A, hi => by
    obtain ⟨A', e, p1, p2⟩ := cs2_loop (G := G) (h := h) (b := b) hn hS d (i + 1) (cs2N A i) (by omega)
    rw [cs2_eq] at p1 p2
    refine ⟨A', ?_, fun k k1 k2 j => ?_, fun k hk => ?_⟩
    · rw [← e, e_98_175]
      unfold cs2N
      simp (disch := omega) only [e_98_183, e_98_219, ↓rg_accesses_b, ↓ra_accessKind_b, ↓rl_accessKind_b, ↓ra_hAccessKind_b, ↓rs_hAccessKind_b, ↓ra_accessPort_b, ↓rl_accessPort_b, ↓ra_hAccessPort_b, ↓rs_hAccessPort_b, ↓ra_accessDatum_b, ↓rl_accessDatum_b, ↓ra_hAccessDatum_b, ↓rs_hAccessDatum_b, upA_of, hS, ↓Option.bind_some, ↓jzo_0b, ↓jzo_1b, ↓jzo_bb, Option.toList_some, Option.toList_none, List.cons_append, List.nil_append, ↓reduceIte, jzo_0, jzo_1, jzo_b, jbi_t, jbi_f, i_add, ↓i_ltP, ↓i_ltN, ↓i_eqP, ↓i_eqN, i_lt, i_eq, jbi_0, pt_lt, pf_lt, pt_eq, pf_eq, pt_le, pf_le, Nat.reduceEqDiff, eq_self, true_or, or_true, false_or, or_false, true_and, and_true, false_and, and_false, jE_sw, jE_sw0]
    · rw [p1 k k1 k2 j]
      unfold cs2
      rw [if_pos (show 33 ≤ k ∧ k ≤ 35 from ⟨k1, k2⟩), if_neg (show ¬ (33 ≤ k - 17 ∧ k - 17 ≤ 35) by omega)]
      by_cases c : j = i
      · subst c
        rw [if_neg (by omega), if_pos (by omega), upd_at]
      · by_cases c2 : i + 1 ≤ j ∧ j < n
        · rw [if_pos c2, if_pos (by omega)]
        · rw [if_neg c2, if_neg (by omega), upd_of c]
    · rw [p2 k hk]
      unfold cs2
      rw [if_neg (by omega)]
theorem cs3_loop {G : jx_Gv} {h : jx_H} {b n : Nat} {S : Nat → Int32} (hn : n ≤ 6000) (hS : S 28 = Int32.ofNat n) : ∀ (d i : Nat) (A : Nat → Nat → Int32), i + d = n → ∃ A', jE G (98, 227, [some (.ref b), some (.int (Int32.ofNat i))], [], hR h b S A) = jE G (98, 253, [some (.ref b), some (.int (Int32.ofNat (n)))], [], hR h b S A') ∧ (∀ k : Nat, 36 ≤ k → k ≤ 36 → ∀ j : Nat, A' k j = if i ≤ j ∧ j < n then A (k - 17) j else A k j) ∧ ∀ k : Nat, k < 36 ∨ 36 < k → A' k = A k
  | 0, i, A, hi => by
    refine ⟨A, ?_, fun k k1 k2 j => by rw [if_neg (by omega)], fun _ _ => rfl⟩
    obtain rfl : i = n := by omega
    rw [e_98_227]
    simp (disch := omega) only [↓rg_written_b, hS, ↓Option.bind_some, ↓jzo_0b, ↓jzo_1b, ↓jzo_bb, Option.toList_some, Option.toList_none, List.cons_append, List.nil_append, ↓reduceIte, jzo_0, jzo_1, jzo_b, jbi_t, jbi_f, i_add, ↓i_ltP, ↓i_ltN, ↓i_eqP, ↓i_eqN, i_lt, i_eq, jbi_0, pt_lt, pf_lt, pt_eq, pf_eq, pt_le, pf_le, Nat.reduceEqDiff, eq_self, true_or, or_true, false_or, or_false, true_and, and_true, false_and, and_false, jE_sw, jE_sw0]
  | d + 1, i, A, hi => by
    obtain ⟨A', e, p1, p2⟩ := cs3_loop (G := G) (h := h) (b := b) hn hS d (i + 1) (upA A 36 (upd (A 36) i (A 19 i))) (by omega)
    refine ⟨A', ?_, fun k k1 k2 j => ?_, fun k hk => ?_⟩
    · rw [← e, e_98_227]
      simp (disch := omega) only [e_98_235, ↓rg_written_b, ↓ra_writing_b, ↓rl_writing_b, ↓ra_hText_b, ↓rs_hText_b, hS, ↓Option.bind_some, ↓jzo_0b, ↓jzo_1b, ↓jzo_bb, Option.toList_some, Option.toList_none, List.cons_append, List.nil_append, ↓reduceIte, jzo_0, jzo_1, jzo_b, jbi_t, jbi_f, i_add, ↓i_ltP, ↓i_ltN, ↓i_eqP, ↓i_eqN, i_lt, i_eq, jbi_0, pt_lt, pf_lt, pt_eq, pf_eq, pt_le, pf_le, Nat.reduceEqDiff, eq_self, true_or, or_true, false_or, or_false, true_and, and_true, false_and, and_false, jE_sw, jE_sw0]
    · obtain rfl : k = 36 := by omega
      rw [p1 36 (by decide) (by decide) j, upA_at]
      by_cases c : j = i
      · subst c
        rw [if_neg (by omega), if_pos (by omega), upd_at]
      · by_cases c2 : i + 1 ≤ j ∧ j < n
        · rw [if_pos c2, if_pos (by omega)]
          show upA A 36 _ 19 j = A 19 j
          rw [upA_of (by decide)]
        · rw [if_neg c2, if_neg (by omega), upd_of c]
    · rw [p2 k hk, upA_of (by omega)]
theorem cs4_loop {G : jx_Gv} {h : jx_H} {b n : Nat} {S : Nat → Int32} (hn : n ≤ 120) (hS : S 11 = Int32.ofNat n) : ∀ (d i : Nat) (A : Nat → Nat → Int32), i + d = n + 1 → ∃ A', jE G (98, 255, [some (.ref b), some (.int (Int32.ofNat i))], [], hR h b S A) = jE G (98, 281, [some (.ref b), some (.int (Int32.ofNat (n + 1)))], [], hR h b S A') ∧ (∀ k : Nat, 37 ≤ k → k ≤ 37 → ∀ j : Nat, A' k j = if i ≤ j ∧ j < n + 1 then A (k - 17) j else A k j) ∧ ∀ k : Nat, k < 37 ∨ 37 < k → A' k = A k
  | 0, i, A, hi => by
    refine ⟨A, ?_, fun k k1 k2 j => by rw [if_neg (by omega)], fun _ _ => rfl⟩
    obtain rfl : i = n + 1 := by omega
    rw [e_98_255]
    simp (disch := omega) only [↓rg_rows_b, hS, ↓Option.bind_some, ↓jzo_0b, ↓jzo_1b, ↓jzo_bb, Option.toList_some, Option.toList_none, List.cons_append, List.nil_append, ↓reduceIte, jzo_0, jzo_1, jzo_b, jbi_t, jbi_f, i_add, ↓i_ltP, ↓i_ltN, ↓i_eqP, ↓i_eqN, i_lt, i_eq, jbi_0, pt_lt, pf_lt, pt_eq, pf_eq, pt_le, pf_le, Nat.reduceEqDiff, eq_self, true_or, or_true, false_or, or_false, true_and, and_true, false_and, and_false, jE_sw, jE_sw0]
  | d + 1, i, A, hi => by
    obtain ⟨A', e, p1, p2⟩ := cs4_loop (G := G) (h := h) (b := b) hn hS d (i + 1) (upA A 37 (upd (A 37) i (A 20 i))) (by omega)
    refine ⟨A', ?_, fun k k1 k2 j => ?_, fun k hk => ?_⟩
    · rw [← e, e_98_255]
      simp (disch := omega) only [e_98_263, ↓rg_rows_b, ↓ra_writeAt_b, ↓rl_writeAt_b, ↓ra_hAt_b, ↓rs_hAt_b, hS, ↓Option.bind_some, ↓jzo_0b, ↓jzo_1b, ↓jzo_bb, Option.toList_some, Option.toList_none, List.cons_append, List.nil_append, ↓reduceIte, jzo_0, jzo_1, jzo_b, jbi_t, jbi_f, i_add, ↓i_ltP, ↓i_ltN, ↓i_eqP, ↓i_eqN, i_lt, i_eq, jbi_0, pt_lt, pf_lt, pt_eq, pf_eq, pt_le, pf_le, Nat.reduceEqDiff, eq_self, true_or, or_true, false_or, or_false, true_and, and_true, false_and, and_false, jE_sw, jE_sw0]
    · obtain rfl : k = 37 := by omega
      rw [p1 37 (by decide) (by decide) j, upA_at]
      by_cases c : j = i
      · subst c
        rw [if_neg (by omega), if_pos (by omega), upd_at]
      · by_cases c2 : i + 1 ≤ j ∧ j < n + 1
        · rw [if_pos c2, if_pos (by omega)]
          show upA A 37 _ 20 j = A 20 j
          rw [upA_of (by decide)]
        · rw [if_neg c2, if_neg (by omega), upd_of c]
    · rw [p2 k hk, upA_of (by omega)]
theorem cmH {G : jx_Gv} {h : jx_H} {b n ac w : Nat} {S : Nat → Int32} {A : Nat → Nat → Int32} (hn : n ≤ 120) (h11 : S 11 = Int32.ofNat n) (ha : ac ≤ 600) (h24 : S 24 = Int32.ofNat ac) (hw : w ≤ 6000) (h28 : S 28 = Int32.ofNat w) : ∃ A', jE G (98, 0, [some (.ref b), none], [], hR h b S A) = some (none, hR h b (upd (upd S 32 (Int32.ofNat 1)) 33 (Int32.ofNat n)) A') ∧ (∀ k : Nat, 21 ≤ k → k ≤ 32 → ∀ j : Nat, j < n → A' k j = A (k - 17) j) ∧ (∀ k : Nat, 33 ≤ k → k ≤ 35 → ∀ j : Nat, j < ac → A' k j = A (k - 17) j) ∧ (∀ j : Nat, j < w → A' 36 j = A 19 j) ∧ (∀ j : Nat, j ≤ n → A' 37 j = A 20 j) ∧ ∀ k : Nat, k < 21 ∨ 37 < k → A' k = A k := by
  have u : ∀ j : Nat, j ≠ 32 → j ≠ 33 → upd (upd S 32 (Int32.ofNat 1)) 33 (Int32.ofNat n) j = S j := fun j a c => by rw [upd_of c, upd_of a]
  obtain ⟨A1, e1, p1, r1⟩ := cs1_loop (G := G) (h := h) (b := b) hn ((u 11 (by decide) (by decide)).trans h11) n 0 A (by omega)
  obtain ⟨A2, e2, p2, r2⟩ := cs2_loop (G := G) (h := h) (b := b) ha ((u 24 (by decide) (by decide)).trans h24) ac 0 A1 (by omega)
  obtain ⟨A3, e3, p3, r3⟩ := cs3_loop (G := G) (h := h) (b := b) hw ((u 28 (by decide) (by decide)).trans h28) w 0 A2 (by omega)
  obtain ⟨A4, e4, p4, r4⟩ := cs4_loop (G := G) (h := h) (b := b) hn ((u 11 (by decide) (by decide)).trans h11) (n + 1) 0 A3 (by omega)
  refine ⟨A4, ?_, fun k k1 k2 j hj => ?_, fun k k1 k2 j hj => ?_, fun j hj => ?_, fun j hj => ?_, fun k hk => ?_⟩
  · have s1 : jE G (98, 0, [some (.ref b), none], [], hR h b S A) = jE G (98, 15, [some (.ref b), some (.int (Int32.ofNat 0))], [], hR h b (upd (upd S 32 (Int32.ofNat 1)) 33 (Int32.ofNat n)) A) := by
      simp (disch := omega) only [e_98_0, ↓rp_inHand_b, ↓rg_rows_b, ↓rp_hRows_b, upd_of, h11, ↓Option.bind_some, ↓jzo_0b, ↓jzo_1b, ↓jzo_bb, Option.toList_some, Option.toList_none, List.cons_append, List.nil_append, ↓reduceIte, jzo_0, jzo_1, jzo_b, jbi_t, jbi_f, i_add, ↓i_ltP, ↓i_ltN, ↓i_eqP, ↓i_eqN, i_lt, i_eq, jbi_0, pt_lt, pf_lt, pt_eq, pf_eq, pt_le, pf_le, Nat.reduceEqDiff, eq_self, true_or, or_true, false_or, or_false, true_and, and_true, false_and, and_false, jE_sw, jE_sw0]
    rw [s1, e1, e_98_173, e2, e_98_225, e3, e_98_253, e4, e_98_281]
  · rw [r4 k (by omega), r3 k (by omega), r2 k (by omega), p1 k k1 k2 j, if_pos (by omega)]
  · rw [r4 k (by omega), r3 k (by omega), p2 k k1 k2 j, if_pos (by omega), r1 (k - 17) (by omega)]
  · rw [r4 36 (by omega), p3 36 (by decide) (by decide) j, if_pos (by omega), r2 (36 - 17) (by omega), r1 (36 - 17) (by omega)]
  · rw [p4 37 (by decide) (by decide) j, if_pos (by omega), r3 (37 - 17) (by omega), r2 (37 - 17) (by omega), r1 (37 - 17) (by omega)]
  · rw [r4 k (by omega), r3 k (by omega), r2 k (by omega), r1 k (by omega)]
theorem kp1_loop {G : jx_Gv} {h : jx_H} {b n e : Nat} {S : Nat → Int32} (he : e < 8) (hn : n ≤ 120) (hS : S 33 = Int32.ofNat n) : ∀ (d i : Nat) (A : Nat → Nat → Int32), i + d = n → ∃ A', jE G (99, 12, [some (.ref b), some (.int (Int32.ofNat e)), some (.int (Int32.ofNat i))], [], hR h b S A) = jE G (99, 43, [some (.ref b), some (.int (Int32.ofNat e)), some (.int (Int32.ofNat (n)))], [], hR h b S A') ∧ (∀ j : Nat, i ≤ j → j < n → A' 39 (120 * e + j) = A 22 j) ∧ (∀ x : Nat, x < 120 * e + i ∨ 120 * e + (n) ≤ x → A' 39 x = A 39 x) ∧ ∀ k : Nat, k ≠ 39 → A' k = A k
  | 0, i, A, hi => by
    refine ⟨A, ?_, fun j j1 j2 => by omega, fun _ _ => rfl, fun _ _ => rfl⟩
    obtain rfl : i = n := by omega
    rw [e_99_12]
    simp (disch := omega) only [↓rg_hRows_b, hS, ↓Option.bind_some, ↓jzo_0b, ↓jzo_1b, ↓jzo_bb, Option.toList_some, Option.toList_none, List.cons_append, List.nil_append, ↓reduceIte, jzo_0, jzo_1, jzo_b, jbi_t, jbi_f, i_add, ↓i_ltP, ↓i_ltN, ↓i_eqP, ↓i_eqN, i_lt, i_eq, jbi_0, pt_lt, pf_lt, pt_eq, pf_eq, pt_le, pf_le, Nat.reduceEqDiff, eq_self, true_or, or_true, false_or, or_false, true_and, and_true, false_and, and_false, jE_sw, jE_sw0]
  | d + 1, i, A, hi => by
    obtain ⟨A', q, p1, p2, p3⟩ := kp1_loop (G := G) (h := h) (b := b) he hn hS d (i + 1) (upA A 39 (upd (A 39) (120 * e + i) (A 22 i))) (by omega)
    refine ⟨A', ?_, fun j j1 j2 => ?_, fun x hx => ?_, fun k hk => ?_⟩
    · rw [← q, e_99_12]
      simp (disch := omega) only [e_99_20, ↓rg_hRows_b, hS, ↓ra_hBlock_b, ↓rl_hBlock_b, ↓ra_eBlock_b, ↓rs_eBlock_b, i_mul, ↓Option.bind_some, ↓jzo_0b, ↓jzo_1b, ↓jzo_bb, Option.toList_some, Option.toList_none, List.cons_append, List.nil_append, ↓reduceIte, jzo_0, jzo_1, jzo_b, jbi_t, jbi_f, i_add, ↓i_ltP, ↓i_ltN, ↓i_eqP, ↓i_eqN, i_lt, i_eq, jbi_0, pt_lt, pf_lt, pt_eq, pf_eq, pt_le, pf_le, Nat.reduceEqDiff, eq_self, true_or, or_true, false_or, or_false, true_and, and_true, false_and, and_false, jE_sw, jE_sw0]
    · by_cases c : j = i
      · subst c
        rw [p2 _ (by omega), upA_at, upd_at]
      · rw [p1 j (by omega) j2, upA_of (by decide)]
    · rw [p2 x (by omega), upA_at, upd_of (by omega)]
    · rw [p3 k hk, upA_of hk]
theorem kp2_loop {G : jx_Gv} {h : jx_H} {b n e : Nat} {S : Nat → Int32} (he : e < 8) (hn : n ≤ 120) (hS : S 33 = Int32.ofNat n) : ∀ (d i : Nat) (A : Nat → Nat → Int32), i + d = n + 1 → ∃ A', jE G (99, 45, [some (.ref b), some (.int (Int32.ofNat e)), some (.int (Int32.ofNat i))], [], hR h b S A) = jE G (99, 76, [some (.ref b), some (.int (Int32.ofNat e)), some (.int (Int32.ofNat (n + 1)))], [], hR h b S A') ∧ (∀ j : Nat, i ≤ j → j < n + 1 → A' 40 (121 * e + j) = A 37 j) ∧ (∀ x : Nat, x < 121 * e + i ∨ 121 * e + (n + 1) ≤ x → A' 40 x = A 40 x) ∧ ∀ k : Nat, k ≠ 40 → A' k = A k
  | 0, i, A, hi => by
    refine ⟨A, ?_, fun j j1 j2 => by omega, fun _ _ => rfl, fun _ _ => rfl⟩
    obtain rfl : i = n + 1 := by omega
    rw [e_99_45]
    simp (disch := omega) only [↓rg_hRows_b, hS, ↓Option.bind_some, ↓jzo_0b, ↓jzo_1b, ↓jzo_bb, Option.toList_some, Option.toList_none, List.cons_append, List.nil_append, ↓reduceIte, jzo_0, jzo_1, jzo_b, jbi_t, jbi_f, i_add, ↓i_ltP, ↓i_ltN, ↓i_eqP, ↓i_eqN, i_lt, i_eq, jbi_0, pt_lt, pf_lt, pt_eq, pf_eq, pt_le, pf_le, Nat.reduceEqDiff, eq_self, true_or, or_true, false_or, or_false, true_and, and_true, false_and, and_false, jE_sw, jE_sw0]
  | d + 1, i, A, hi => by
    obtain ⟨A', q, p1, p2, p3⟩ := kp2_loop (G := G) (h := h) (b := b) he hn hS d (i + 1) (upA A 40 (upd (A 40) (121 * e + i) (A 37 i))) (by omega)
    refine ⟨A', ?_, fun j j1 j2 => ?_, fun x hx => ?_, fun k hk => ?_⟩
    · rw [← q, e_99_45]
      simp (disch := omega) only [e_99_53, ↓rg_hRows_b, hS, ↓ra_hAt_b, ↓rl_hAt_b, ↓ra_eAt_b, ↓rs_eAt_b, i_mul, ↓Option.bind_some, ↓jzo_0b, ↓jzo_1b, ↓jzo_bb, Option.toList_some, Option.toList_none, List.cons_append, List.nil_append, ↓reduceIte, jzo_0, jzo_1, jzo_b, jbi_t, jbi_f, i_add, ↓i_ltP, ↓i_ltN, ↓i_eqP, ↓i_eqN, i_lt, i_eq, jbi_0, pt_lt, pf_lt, pt_eq, pf_eq, pt_le, pf_le, Nat.reduceEqDiff, eq_self, true_or, or_true, false_or, or_false, true_and, and_true, false_and, and_false, jE_sw, jE_sw0]
    · by_cases c : j = i
      · subst c
        rw [p2 _ (by omega), upA_at, upd_at]
      · rw [p1 j (by omega) j2, upA_of (by decide)]
    · rw [p2 x (by omega), upA_at, upd_of (by omega)]
    · rw [p3 k hk, upA_of hk]
theorem kp3_loop {G : jx_Gv} {h : jx_H} {b n e : Nat} {S : Nat → Int32} (he : e < 8) (hn : n ≤ 6000) {m : Nat} (hm : m ≤ 120) (hS : S 33 = Int32.ofNat m) : ∀ (d i : Nat) (A : Nat → Nat → Int32), i + d = n → A 37 m = Int32.ofNat n → ∃ A', jE G (99, 78, [some (.ref b), some (.int (Int32.ofNat e)), some (.int (Int32.ofNat i))], [], hR h b S A) = jE G (99, 115, [some (.ref b), some (.int (Int32.ofNat e)), some (.int (Int32.ofNat (n)))], [], hR h b S A') ∧ (∀ j : Nat, i ≤ j → j < n → A' 41 (6000 * e + j) = A 36 j) ∧ (∀ x : Nat, x < 6000 * e + i ∨ 6000 * e + (n) ≤ x → A' 41 x = A 41 x) ∧ ∀ k : Nat, k ≠ 41 → A' k = A k
  | 0, i, A, hi, hA => by
    refine ⟨A, ?_, fun j j1 j2 => by omega, fun _ _ => rfl, fun _ _ => rfl⟩
    obtain rfl : i = n := by omega
    rw [e_99_78]
    simp (disch := omega) only [↓rg_hRows_b, ↓ra_hAt_b, ↓rl_hAt_b, hS, hA, ↓Option.bind_some, ↓jzo_0b, ↓jzo_1b, ↓jzo_bb, Option.toList_some, Option.toList_none, List.cons_append, List.nil_append, ↓reduceIte, jzo_0, jzo_1, jzo_b, jbi_t, jbi_f, i_add, ↓i_ltP, ↓i_ltN, ↓i_eqP, ↓i_eqN, i_lt, i_eq, jbi_0, pt_lt, pf_lt, pt_eq, pf_eq, pt_le, pf_le, Nat.reduceEqDiff, eq_self, true_or, or_true, false_or, or_false, true_and, and_true, false_and, and_false, jE_sw, jE_sw0]
  | d + 1, i, A, hi, hA => by
    obtain ⟨A', q, p1, p2, p3⟩ := kp3_loop (G := G) (h := h) (b := b) he hn hm hS d (i + 1) (upA A 41 (upd (A 41) (6000 * e + i) (A 36 i))) (by omega) (by rw [upA_of (by decide)]; exact hA)
    refine ⟨A', ?_, fun j j1 j2 => ?_, fun x hx => ?_, fun k hk => ?_⟩
    · rw [← q, e_99_78]
      simp (disch := omega) only [e_99_91, ↓rg_hRows_b, ↓ra_hAt_b, ↓rl_hAt_b, hS, hA, ↓ra_hText_b, ↓rl_hText_b, ↓ra_eText_b, ↓rs_eText_b, i_mul, ↓Option.bind_some, ↓jzo_0b, ↓jzo_1b, ↓jzo_bb, Option.toList_some, Option.toList_none, List.cons_append, List.nil_append, ↓reduceIte, jzo_0, jzo_1, jzo_b, jbi_t, jbi_f, i_add, ↓i_ltP, ↓i_ltN, ↓i_eqP, ↓i_eqN, i_lt, i_eq, jbi_0, pt_lt, pf_lt, pt_eq, pf_eq, pt_le, pf_le, Nat.reduceEqDiff, eq_self, true_or, or_true, false_or, or_false, true_and, and_true, false_and, and_false, jE_sw, jE_sw0]
    · by_cases c : j = i
      · subst c
        rw [p2 _ (by omega), upA_at, upd_at]
      · rw [p1 j (by omega) j2, upA_of (by decide)]
    · rw [p2 x (by omega), upA_at, upd_of (by omega)]
    · rw [p3 k hk, upA_of hk]
theorem kpE {G : jx_Gv} {h : jx_H} {b n e w : Nat} {S : Nat → Int32} {A : Nat → Nat → Int32} (he : e < 8) (hn : n ≤ 120) (h33 : S 33 = Int32.ofNat n) (hw : w ≤ 6000) (h37 : A 37 n = Int32.ofNat w) : ∃ A', jE G (99, 0, [some (.ref b), some (.int (Int32.ofNat e)), none], [], hR h b S A) = some (none, hR h b S A') ∧ A' 38 e = Int32.ofNat n ∧ (∀ x : Nat, x ≠ e → A' 38 x = A 38 x) ∧ (∀ j : Nat, j < n → A' 39 (120 * e + j) = A 22 j) ∧ (∀ x : Nat, x < 120 * e ∨ 120 * e + 120 ≤ x → A' 39 x = A 39 x) ∧ (∀ j : Nat, j ≤ n → A' 40 (121 * e + j) = A 37 j) ∧ (∀ x : Nat, x < 121 * e ∨ 121 * e + 121 ≤ x → A' 40 x = A 40 x) ∧ (∀ j : Nat, j < w → A' 41 (6000 * e + j) = A 36 j) ∧ (∀ x : Nat, x < 6000 * e ∨ 6000 * e + 6000 ≤ x → A' 41 x = A 41 x) ∧ ∀ k : Nat, k < 38 ∨ 41 < k → A' k = A k := by
  obtain ⟨A1, e1, p1, r1, t1⟩ := kp1_loop (G := G) (h := h) (b := b) he hn h33 n 0 (upA A 38 (upd (A 38) e (Int32.ofNat n))) (by omega)
  obtain ⟨A2, e2, p2, r2, t2⟩ := kp2_loop (G := G) (h := h) (b := b) he hn h33 (n + 1) 0 A1 (by omega)
  have a37 : A2 37 n = Int32.ofNat w := by
    rw [t2 37 (by decide), t1 37 (by decide), upA_of (by decide)]
    exact h37
  obtain ⟨A3, e3, p3, r3, t3⟩ := kp3_loop (G := G) (h := h) (b := b) he hw hn h33 w 0 A2 (by omega) a37
  refine ⟨A3, ?_, ?_, fun x hx => ?_, fun j hj => ?_, fun x hx => ?_, fun j hj => ?_, fun x hx => ?_, fun j hj => ?_, fun x hx => ?_, fun k hk => ?_⟩
  · have s1 : jE G (99, 0, [some (.ref b), some (.int (Int32.ofNat e)), none], [], hR h b S A) = jE G (99, 12, [some (.ref b), some (.int (Int32.ofNat e)), some (.int (Int32.ofNat 0))], [], hR h b S (upA A 38 (upd (A 38) e (Int32.ofNat n)))) := by
      simp (disch := omega) only [e_99_0, ↓ra_eRows_b, ↓rs_eRows_b, ↓rg_hRows_b, h33, ↓Option.bind_some, ↓jzo_0b, ↓jzo_1b, ↓jzo_bb, Option.toList_some, Option.toList_none, List.cons_append, List.nil_append, ↓reduceIte, jzo_0, jzo_1, jzo_b, jbi_t, jbi_f, i_add, ↓i_ltP, ↓i_ltN, ↓i_eqP, ↓i_eqN, i_lt, i_eq, jbi_0, pt_lt, pf_lt, pt_eq, pf_eq, pt_le, pf_le, Nat.reduceEqDiff, eq_self, true_or, or_true, false_or, or_false, true_and, and_true, false_and, and_false, jE_sw, jE_sw0]
    rw [s1, e1, e_99_43, e2, e_99_76, e3, e_99_115]
  · rw [t3 38 (by decide), t2 38 (by decide), t1 38 (by decide), upA_at, upd_at]
  · rw [t3 38 (by decide), t2 38 (by decide), t1 38 (by decide), upA_at, upd_of hx]
  · rw [t3 39 (by decide), t2 39 (by decide), p1 j (Nat.zero_le _) hj, upA_of (by decide)]
  · rw [t3 39 (by decide), t2 39 (by decide), r1 x (by omega), upA_of (by decide)]
  · rw [t3 40 (by decide), p2 j (Nat.zero_le _) (by omega), t1 37 (by decide), upA_of (by decide)]
  · rw [t3 40 (by decide), r2 x (by omega), t1 40 (by decide), upA_of (by decide)]
  · rw [p3 j (Nat.zero_le _) hj, t2 36 (by decide), t1 36 (by decide), upA_of (by decide)]
  · rw [r3 x (by omega), t2 41 (by decide), t1 41 (by decide), upA_of (by decide)]
  · rw [t3 k (by omega), t2 k (by omega), t1 k (by omega), upA_of (by omega)]
