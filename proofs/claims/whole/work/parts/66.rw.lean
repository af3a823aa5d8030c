/-! WORDS IN THE REFERENCE -/
def lpk (f : Nat → Int32) (fr : Nat) : Nat → Int64 → Int64
  | 0, v => v
  | n + 1, v => lpk f fr n ((v <<< (Int32.toInt64 (Int32.ofNat 8) &&& 63)) ||| (f (fr + n)).toInt64)
theorem jm_dec {q : Nat} : Int32.ofNat q + -(Int32.ofNat 1) = jm q := by
  unfold jm
  rw [Int32.sub_eq_add_neg]
theorem jm_sub {q : Nat} : Int32.ofNat q - Int32.ofNat 1 = jm q := rfl
theorem N_pk_loop {G : jx_Gv} {h : jx_H} {b : Nat} {S : Nat → Int32} {A : Nat → Nat → Int32} {fr x : Nat} : ∀ (n : Nat) (v : Int64) (z4 : Option Value), fr + n ≤ 2000 → jE G (74, 22, [some (.ref b), some (.int (Int32.ofNat fr)), some (.int (Int32.ofNat x)), some (.long v), z4, some (.int (jm (fr + n)))], [], hR h b S A) = some (some (.long (lpk (A 1) fr n v)), hR h b S A)
  | 0, v, z4, hn => by
    rw [e_74_22, lpk, Nat.add_zero]
    simp (disch := omega) only [e_74_0, e_74_10, e_74_14, e_74_18, e_74_28, e_74_48, ↓jm_nP, ↓jm_nN, ↓Option.bind_some, ↓jzo_0b, ↓jzo_1b, ↓jzo_bb, Option.toList_some, Option.toList_none, List.cons_append, List.nil_append, ↓reduceIte, jzo_0, jzo_1, jzo_b, jbi_t, jbi_f, i_add, ↓i_ltP, ↓i_ltN, ↓i_eqP, ↓i_eqN, i_lt, i_eq, jbi_0, pt_lt, pf_lt, pt_eq, pf_eq, pt_le, pf_le, Nat.reduceEqDiff, eq_self, true_or, or_true, false_or, or_false, true_and, and_true, false_and, and_false, jE_sw, jE_sw0]
  | n + 1, v, z4, hn => by
    have ih := N_pk_loop (G := G) (h := h) (b := b) (S := S) (A := A) (x := x) (fr := fr) n ((v <<< (Int32.toInt64 (Int32.ofNat 8) &&& 63)) ||| (A 1 (fr + n)).toInt64) none (by omega)
    rw [e_74_22, lpk]
    refine Eq.trans ?_ ih
    rw [show fr + (n + 1) = fr + n + 1 by omega, jm_s]
    simp (disch := omega) only [e_74_0, e_74_10, e_74_14, e_74_18, e_74_28, e_74_48, ↓ra_text_b, ↓rl_text_b, jm_dec, ↓Option.bind_some, ↓jzo_0b, ↓jzo_1b, ↓jzo_bb, Option.toList_some, Option.toList_none, List.cons_append, List.nil_append, ↓reduceIte, jzo_0, jzo_1, jzo_b, jbi_t, jbi_f, i_add, ↓i_ltP, ↓i_ltN, ↓i_eqP, ↓i_eqN, i_lt, i_eq, jbi_0, pt_lt, pf_lt, pt_eq, pf_eq, pt_le, pf_le, Nat.reduceEqDiff, eq_self, true_or, or_true, false_or, or_false, true_and, and_true, false_and, and_false, jE_sw, jE_sw0]
theorem N_packed {G : jx_Gv} {h : jx_H} {b : Nat} {S : Nat → Int32} {A : Nat → Nat → Int32} {fr ln : Nat} (hf : fr + ln ≤ 2000) : jE G (74, 0, [some (.ref b), some (.int (Int32.ofNat fr)), some (.int (Int32.ofNat (fr + ln))), none, none, none], [], hR h b S A) = some (some (.long (lpk (A 1) fr (min ln 8) 0)), hR h b S A) := by
  have q := N_pk_loop (G := G) (h := h) (b := b) (S := S) (A := A) (x := fr + ln) (fr := fr) (min ln 8) 0 none (by omega)
  refine Eq.trans ?_ q
  by_cases c : ln < 8
  · rw [Nat.min_eq_left (by omega)]
    simp (disch := omega) only [e_74_0, e_74_10, e_74_14, e_74_18, e_74_28, e_74_48, jm_sub, ↓Option.bind_some, ↓jzo_0b, ↓jzo_1b, ↓jzo_bb, Option.toList_some, Option.toList_none, List.cons_append, List.nil_append, ↓reduceIte, jzo_0, jzo_1, jzo_b, jbi_t, jbi_f, i_add, ↓i_ltP, ↓i_ltN, ↓i_eqP, ↓i_eqN, i_lt, i_eq, jbi_0, pt_lt, pf_lt, pt_eq, pf_eq, pt_le, pf_le, Nat.reduceEqDiff, eq_self, true_or, or_true, false_or, or_false, true_and, and_true, false_and, and_false, jE_sw, jE_sw0]
  · rw [Nat.min_eq_right (by omega)]
    simp (disch := omega) only [e_74_0, e_74_10, e_74_14, e_74_18, e_74_28, e_74_48, jm_sub, ↓Option.bind_some, ↓jzo_0b, ↓jzo_1b, ↓jzo_bb, Option.toList_some, Option.toList_none, List.cons_append, List.nil_append, ↓reduceIte, jzo_0, jzo_1, jzo_b, jbi_t, jbi_f, i_add, ↓i_ltP, ↓i_ltN, ↓i_eqP, ↓i_eqN, i_lt, i_eq, jbi_0, pt_lt, pf_lt, pt_eq, pf_eq, pt_le, pf_le, Nat.reduceEqDiff, eq_self, true_or, or_true, false_or, or_false, true_and, and_true, false_and, and_false, jE_sw, jE_sw0]

theorem N_packed_b {G : jx_Gv} {h : jx_H} {b : Nat} {S : Nat → Int32} {A : Nat → Nat → Int32} {fr ln : Nat} (hf : fr + ln ≤ 2000) {β_ : Type} {f_ : jx_R → Option β_} : (jE G (74, 0, [some (.ref b), some (.int (Int32.ofNat fr)), some (.int (Int32.ofNat (fr + ln))), none, none, none], [], hR h b S A)).bind f_ = f_ ((some (.long (lpk (A 1) fr (min ln 8) 0)), hR h b S A)) := bnd (N_packed hf)