/-! A TOKEN IN THE REFERENCE'S COPY -/
section JHW
variable {h : jx_H} {b i : Nat} {S : Nat → Int32} {A : Nat → Nat → Int32} {q : (Nat → Int32) × Nat}
theorem wg_at : jx_fI (hW h b S A q) b 8 2 = some (S 2) := rg_at
theorem wg_at_b  {β_ : Type} {f_ : Int32 → Option β_} : (jx_fI (hW h b S A q) b 8 2).bind f_ = f_ ((S 2)) := bnd (wg_at )
theorem wg_kind : jx_fI (hW h b S A q) b 8 4 = some (S 4) := rg_kind
theorem wg_kind_b  {β_ : Type} {f_ : Int32 → Option β_} : (jx_fI (hW h b S A q) b 8 4).bind f_ = f_ ((S 4)) := bnd (wg_kind )
theorem wg_value : jx_fI (hW h b S A q) b 8 5 = some (S 5) := rg_value
theorem wg_value_b  {β_ : Type} {f_ : Int32 → Option β_} : (jx_fI (hW h b S A q) b 8 5).bind f_ = f_ ((S 5)) := bnd (wg_value )
theorem wg_rows : jx_fI (hW h b S A q) b 8 11 = some (S 11) := rg_rows
theorem wg_rows_b  {β_ : Type} {f_ : Int32 → Option β_} : (jx_fI (hW h b S A q) b 8 11).bind f_ = f_ ((S 11)) := bnd (wg_rows )
theorem wg_written : jx_fI (hW h b S A q) b 8 28 = some (Int32.ofNat q.2) := rg_written
theorem wg_written_b  {β_ : Type} {f_ : Int32 → Option β_} : (jx_fI (hW h b S A q) b 8 28).bind f_ = f_ ((Int32.ofNat q.2)) := bnd (wg_written )
theorem wa_text : jx_fA (hW h b S A q) b 8 1 = some (b + 1) := ra_text
theorem wa_text_b  {β_ : Type} {f_ : Nat → Option β_} : (jx_fA (hW h b S A q) b 8 1).bind f_ = f_ ((b + 1)) := bnd (wa_text )
theorem wa_writeAt : jx_fA (hW h b S A q) b 8 30 = some (b + 20) := ra_writeAt
theorem wa_writeAt_b  {β_ : Type} {f_ : Nat → Option β_} : (jx_fA (hW h b S A q) b 8 30).bind f_ = f_ ((b + 20)) := bnd (wa_writeAt )
theorem wl_text (hi : i < 2000) : jx_aI (hW h b S A q) 0 (b + 1) (Int32.ofNat i) = some (A 1 i) := rl_text hi
theorem wl_text_b (hi : i < 2000) {β_ : Type} {f_ : Int32 → Option β_} : (jx_aI (hW h b S A q) 0 (b + 1) (Int32.ofNat i)).bind f_ = f_ ((A 1 i)) := bnd (wl_text hi)
theorem wl_writeAt (hi : i < 121) : jx_aI (hW h b S A q) 0 (b + 20) (Int32.ofNat i) = some (A 20 i) := rl_writeAt hi
theorem wl_writeAt_b (hi : i < 121) {β_ : Type} {f_ : Int32 → Option β_} : (jx_aI (hW h b S A q) 0 (b + 20) (Int32.ofNat i)).bind f_ = f_ ((A 20 i)) := bnd (wl_writeAt hi)
end JHW
def waln (x : Int32) : Bool := wlet x || wdig x
def lback (f : Nat → Int32) : Nat → Nat
  | 0 => 0
  | k + 1 => cond (waln (f k)) (lback f k) (k + 1)
theorem lback_le {f : Nat → Int32} : ∀ k : Nat, lback f k ≤ k
  | 0 => Nat.le_refl _
  | k + 1 => by
    have := lback_le (f := f) k
    unfold lback
    cases waln (f k) <;> simp only [cond_true, cond_false] <;> omega
theorem i_dec {k : Nat} : Int32.ofNat (k + 1) + -(Int32.ofNat 1) = Int32.ofNat k := by
  rw [Int32.ofNat_add, ← Int32.sub_eq_add_neg, Int32.add_sub_cancel]
theorem N_lo_loop {G : jx_Gv} {h : jx_H} {b : Nat} {S : Nat → Int32} {A : Nat → Nat → Int32} {p : Nat} {q : (Nat → Int32) × Nat} (hp : S 2 = Int32.ofNat p) (hp2 : p ≤ 2000) : ∀ k : Nat, k ≤ p → jE G (78, 5, [some (.ref b), some (.int (Int32.ofNat k))], [], hW h b S A q) = some (some (.int (Int32.ofNat (p - lback (A 1) k))), hW h b S A q)
  | 0, hk => by
    rw [e_78_5, lback]
    simp (disch := omega) only [e_78_0, e_78_9, e_78_20, e_78_23, e_78_34, e_78_37, e_78_43, ↓wg_at_b, hp, i_sub, ↓Option.bind_some, ↓jzo_0b, ↓jzo_1b, ↓jzo_bb, Option.toList_some, Option.toList_none, List.cons_append, List.nil_append, ↓reduceIte, jzo_0, jzo_1, jzo_b, jbi_t, jbi_f, i_add, ↓i_ltP, ↓i_ltN, ↓i_eqP, ↓i_eqN, i_lt, i_eq, jbi_0, pt_lt, pf_lt, pt_eq, pf_eq, pt_le, pf_le, Nat.reduceEqDiff, eq_self, true_or, or_true, false_or, or_false, true_and, and_true, false_and, and_false, jE_sw, jE_sw0]
  | k + 1, hk => by
    have ih := N_lo_loop (G := G) (h := h) (b := b) (A := A) (q := q) hp hp2 k (by omega)
    rw [e_78_5, lback]
    unfold waln
    cases c1 : wlet (A 1 k)
    · cases c2 : wdig (A 1 k)
      · rw [Bool.or_self, cond_false]
        simp (disch := omega) only [e_78_0, e_78_9, e_78_20, e_78_23, e_78_34, e_78_37, e_78_43, ↓wg_at_b, ↓wa_text_b, ↓wl_text_b, ↓N_isLetter_b, ↓N_isDigit_b, hp, i_sub, Nat.add_sub_cancel, c1, c2, ↓Option.bind_some, ↓jzo_0b, ↓jzo_1b, ↓jzo_bb, Option.toList_some, Option.toList_none, List.cons_append, List.nil_append, ↓reduceIte, jzo_0, jzo_1, jzo_b, jbi_t, jbi_f, i_add, ↓i_ltP, ↓i_ltN, ↓i_eqP, ↓i_eqN, i_lt, i_eq, jbi_0, pt_lt, pf_lt, pt_eq, pf_eq, pt_le, pf_le, Nat.reduceEqDiff, eq_self, true_or, or_true, false_or, or_false, true_and, and_true, false_and, and_false, jE_sw, jE_sw0]
      · rw [Bool.or_true, cond_true, ← ih]
        simp (disch := omega) only [e_78_0, e_78_9, e_78_20, e_78_23, e_78_34, e_78_37, e_78_43, ↓wg_at_b, ↓wa_text_b, ↓wl_text_b, ↓N_isLetter_b, ↓N_isDigit_b, hp, i_sub, i_dec, Nat.add_sub_cancel, c1, c2, Bool.true_eq_false, ↓Option.bind_some, ↓jzo_0b, ↓jzo_1b, ↓jzo_bb, Option.toList_some, Option.toList_none, List.cons_append, List.nil_append, ↓reduceIte, jzo_0, jzo_1, jzo_b, jbi_t, jbi_f, i_add, ↓i_ltP, ↓i_ltN, ↓i_eqP, ↓i_eqN, i_lt, i_eq, jbi_0, pt_lt, pf_lt, pt_eq, pf_eq, pt_le, pf_le, Nat.reduceEqDiff, eq_self, true_or, or_true, false_or, or_false, true_and, and_true, false_and, and_false, jE_sw, jE_sw0]
    · rw [Bool.true_or, cond_true, ← ih]
      simp (disch := omega) only [e_78_0, e_78_9, e_78_20, e_78_23, e_78_34, e_78_37, e_78_43, ↓wg_at_b, ↓wa_text_b, ↓wl_text_b, ↓N_isLetter_b, ↓N_isDigit_b, hp, i_sub, i_dec, Nat.add_sub_cancel, c1, Bool.true_eq_false, ↓Option.bind_some, ↓jzo_0b, ↓jzo_1b, ↓jzo_bb, Option.toList_some, Option.toList_none, List.cons_append, List.nil_append, ↓reduceIte, jzo_0, jzo_1, jzo_b, jbi_t, jbi_f, i_add, ↓i_ltP, ↓i_ltN, ↓i_eqP, ↓i_eqN, i_lt, i_eq, jbi_0, pt_lt, pf_lt, pt_eq, pf_eq, pt_le, pf_le, Nat.reduceEqDiff, eq_self, true_or, or_true, false_or, or_false, true_and, and_true, false_and, and_false, jE_sw, jE_sw0]
theorem N_lengthOf {G : jx_Gv} {h : jx_H} {b : Nat} {S : Nat → Int32} {A : Nat → Nat → Int32} {p : Nat} {q : (Nat → Int32) × Nat} (hp : S 2 = Int32.ofNat p) (hp2 : p ≤ 2000) : jE G (78, 0, [some (.ref b), none], [], hW h b S A q) = some (some (.int (Int32.ofNat (p - lback (A 1) p))), hW h b S A q) := by
  simp (disch := omega) only [e_78_0, e_78_9, e_78_20, e_78_23, e_78_34, e_78_37, e_78_43, ↓wg_at_b, hp, ↓Option.bind_some, ↓jzo_0b, ↓jzo_1b, ↓jzo_bb, Option.toList_some, Option.toList_none, List.cons_append, List.nil_append, ↓reduceIte, jzo_0, jzo_1, jzo_b, jbi_t, jbi_f, i_add, ↓i_ltP, ↓i_ltN, ↓i_eqP, ↓i_eqN, i_lt, i_eq, jbi_0, pt_lt, pf_lt, pt_eq, pf_eq, pt_le, pf_le, Nat.reduceEqDiff, eq_self, true_or, or_true, false_or, or_false, true_and, and_true, false_and, and_false, jE_sw, jE_sw0]
  exact N_lo_loop hp hp2 p (Nat.le_refl _)
theorem N_lengthOf_b {G : jx_Gv} {h : jx_H} {b : Nat} {S : Nat → Int32} {A : Nat → Nat → Int32} {p : Nat} {q : (Nat → Int32) × Nat} (hp : S 2 = Int32.ofNat p) (hp2 : p ≤ 2000) {β_ : Type} {f_ : jx_R → Option β_} : (jE G (78, 0, [some (.ref b), none], [], hW h b S A q)).bind f_ = f_ ((some (.int (Int32.ofNat (p - lback (A 1) p))), hW h b S A q)) := bnd (N_lengthOf hp hp2)
def cpy (f : Nat → Int32) : Nat → Nat → List Int32
  | 0, _ => []
  | d + 1, k => f k :: cpy f d (k + 1)
theorem N_cp_loop {G : jx_Gv} {h : jx_H} {b : Nat} {S : Nat → Int32} {A : Nat → Nat → Int32} {p : Nat} {x : Int32} (hp : S 2 = Int32.ofNat p) (hp2 : p ≤ 2000) : ∀ (d k : Nat) (q : (Nat → Int32) × Nat), k + d = p → q.2 + d < 6000 → jE G (81, 64, [some (.ref b), some (.int x), some (.int (Int32.ofNat k))], [], hW h b S A q) = some (none, hW h b S A (wps q (cpy (A 1) d k)))
  | 0, k, q, hk, hq => by
    rw [e_81_64, cpy]
    simp (disch := omega) only [e_81_0, e_81_18, e_81_24, e_81_32, e_81_40, e_81_43, e_81_51, e_81_59, e_81_62, e_81_72, e_81_82, e_81_88, ↓wg_at_b, hp, ↓Option.bind_some, ↓jzo_0b, ↓jzo_1b, ↓jzo_bb, Option.toList_some, Option.toList_none, List.cons_append, List.nil_append, ↓reduceIte, jzo_0, jzo_1, jzo_b, jbi_t, jbi_f, i_add, ↓i_ltP, ↓i_ltN, ↓i_eqP, ↓i_eqN, i_lt, i_eq, jbi_0, pt_lt, pf_lt, pt_eq, pf_eq, pt_le, pf_le, Nat.reduceEqDiff, eq_self, true_or, or_true, false_or, or_false, true_and, and_true, false_and, and_false, jE_sw, jE_sw0]
    rfl
  | d + 1, k, q, hk, hq => by
    have ih := N_cp_loop (G := G) (h := h) (b := b) (A := A) (x := x) hp hp2 d (k + 1) (wp q (A 1 k)) (by omega) (show q.2 + 1 + d < 6000 by omega)
    rw [e_81_64, cpy]
    refine Eq.trans ?_ ih
    simp (disch := omega) only [e_81_0, e_81_18, e_81_24, e_81_32, e_81_40, e_81_43, e_81_51, e_81_59, e_81_62, e_81_72, e_81_82, e_81_88, ↓wg_at_b, ↓wa_text_b, ↓wl_text_b, rr_w, ↓N_put_b, hp, ↓Option.bind_some, ↓jzo_0b, ↓jzo_1b, ↓jzo_bb, Option.toList_some, Option.toList_none, List.cons_append, List.nil_append, ↓reduceIte, jzo_0, jzo_1, jzo_b, jbi_t, jbi_f, i_add, ↓i_ltP, ↓i_ltN, ↓i_eqP, ↓i_eqN, i_lt, i_eq, jbi_0, pt_lt, pf_lt, pt_eq, pf_eq, pt_le, pf_le, Nat.reduceEqDiff, eq_self, true_or, or_true, false_or, or_false, true_and, and_true, false_and, and_false, jE_sw, jE_sw0]
/-- what a token adds to the copy, and the space ahead of it -/
def tokW (f : Nat → Int32) (kd vl : Int32) (k p : Nat) : List Int32 := if kd = Int32.ofNat 3 then dg100000 vl.toNatClampNeg else if kd = Int32.ofNat 4 then [vl] else cpy f (p - k) k
theorem N_writeToken {G : jx_Gv} {h : jx_H} {b : Nat} {S : Nat → Int32} {A : Nat → Nat → Int32} {p k m wa : Nat} {q : (Nat → Int32) × Nat} (hp : S 2 = Int32.ofNat p) (hp2 : p ≤ 2000) (hk : k ≤ p) (hm : S 11 = Int32.ofNat (m + 1)) (hm2 : m < 120) (hwa : A 20 m = Int32.ofNat wa) (hwa2 : wa < 2147483648) (hq : q.2 + (p - k) + 8 < 6000) (hv : S 4 = Int32.ofNat 3 → ∃ n : Nat, n < 1000000 ∧ S 5 = Int32.ofNat n) : jE G (81, 0, [some (.ref b), some (.int (Int32.ofNat k)), none], [], hW h b S A q) = some (none, hW h b S A (wps q ((if wa < q.2 then [Int32.ofNat 32] else []) ++ tokW (A 1) (S 4) (S 5) k p))) := by
  have rest : ∀ q : (Nat → Int32) × Nat, q.2 + (p - k) + 7 < 6000 → jE G (81, 24, [some (.ref b), some (.int (Int32.ofNat k)), none], [], hW h b S A q) = some (none, hW h b S A (wps q (tokW (A 1) (S 4) (S 5) k p))) := by
    intro q hq
    unfold tokW
    by_cases c1 : S 4 = Int32.ofNat 3
    · obtain ⟨n, hn, en⟩ := hv c1
      rw [if_pos c1, en, i_cl (by omega)]
      simp (disch := omega) only [e_81_0, e_81_18, e_81_24, e_81_32, e_81_40, e_81_43, e_81_51, e_81_59, e_81_62, e_81_72, e_81_82, e_81_88, ↓wg_kind_b, ↓wg_value_b, rr_w, ↓N_putNumber_b, c1, en, ↓Option.bind_some, ↓jzo_0b, ↓jzo_1b, ↓jzo_bb, Option.toList_some, Option.toList_none, List.cons_append, List.nil_append, ↓reduceIte, jzo_0, jzo_1, jzo_b, jbi_t, jbi_f, i_add, ↓i_ltP, ↓i_ltN, ↓i_eqP, ↓i_eqN, i_lt, i_eq, jbi_0, pt_lt, pf_lt, pt_eq, pf_eq, pt_le, pf_le, Nat.reduceEqDiff, eq_self, true_or, or_true, false_or, or_false, true_and, and_true, false_and, and_false, jE_sw, jE_sw0]
    rw [if_neg c1]
    by_cases c2 : S 4 = Int32.ofNat 4
    · rw [if_pos c2]
      simp (disch := omega) only [e_81_0, e_81_18, e_81_24, e_81_32, e_81_40, e_81_43, e_81_51, e_81_59, e_81_62, e_81_72, e_81_82, e_81_88, ↓wg_kind_b, ↓wg_value_b, rr_w, ↓N_put_b, c2, ↓Option.bind_some, ↓jzo_0b, ↓jzo_1b, ↓jzo_bb, Option.toList_some, Option.toList_none, List.cons_append, List.nil_append, ↓reduceIte, jzo_0, jzo_1, jzo_b, jbi_t, jbi_f, i_add, ↓i_ltP, ↓i_ltN, ↓i_eqP, ↓i_eqN, i_lt, i_eq, jbi_0, pt_lt, pf_lt, pt_eq, pf_eq, pt_le, pf_le, Nat.reduceEqDiff, eq_self, true_or, or_true, false_or, or_false, true_and, and_true, false_and, and_false, jE_sw, jE_sw0]
      rfl
    · rw [if_neg c2, ← N_cp_loop (G := G) (h := h) (b := b) (A := A) (x := Int32.ofNat k) hp hp2 (p - k) k q (by omega) (by omega)]
      simp (disch := omega) only [e_81_0, e_81_18, e_81_24, e_81_32, e_81_40, e_81_43, e_81_51, e_81_59, e_81_62, e_81_72, e_81_82, e_81_88, ↓wg_kind_b, c1, c2, ↓Option.bind_some, ↓jzo_0b, ↓jzo_1b, ↓jzo_bb, Option.toList_some, Option.toList_none, List.cons_append, List.nil_append, ↓reduceIte, jzo_0, jzo_1, jzo_b, jbi_t, jbi_f, i_add, ↓i_ltP, ↓i_ltN, ↓i_eqP, ↓i_eqN, i_lt, i_eq, jbi_0, pt_lt, pf_lt, pt_eq, pf_eq, pt_le, pf_le, Nat.reduceEqDiff, eq_self, true_or, or_true, false_or, or_false, true_and, and_true, false_and, and_false, jE_sw, jE_sw0]
  by_cases c : wa < q.2
  · have r1 := rest (wp q (Int32.ofNat 32)) (show q.2 + 1 + (p - k) + 7 < 6000 by omega)
    rw [if_pos c]
    refine Eq.trans ?_ r1
    simp (disch := omega) only [e_81_0, e_81_18, ↓wg_written_b, ↓wa_writeAt_b, ↓wg_rows_b, ↓wl_writeAt_b, hm, i_sub, Nat.add_sub_cancel, hwa, rr_w, ↓N_put_b, ↓Option.bind_some, ↓jzo_0b, ↓jzo_1b, ↓jzo_bb, Option.toList_some, Option.toList_none, List.cons_append, List.nil_append, ↓reduceIte, jzo_0, jzo_1, jzo_b, jbi_t, jbi_f, i_add, ↓i_ltP, ↓i_ltN, ↓i_eqP, ↓i_eqN, i_lt, i_eq, jbi_0, pt_lt, pf_lt, pt_eq, pf_eq, pt_le, pf_le, Nat.reduceEqDiff, eq_self, true_or, or_true, false_or, or_false, true_and, and_true, false_and, and_false, jE_sw, jE_sw0]
  · have r1 := rest q (by omega)
    rw [if_neg c]
    refine Eq.trans ?_ r1
    simp (disch := omega) only [e_81_0, e_81_18, ↓wg_written_b, ↓wa_writeAt_b, ↓wg_rows_b, ↓wl_writeAt_b, hm, i_sub, Nat.add_sub_cancel, hwa, rr_w, ↓N_put_b, ↓Option.bind_some, ↓jzo_0b, ↓jzo_1b, ↓jzo_bb, Option.toList_some, Option.toList_none, List.cons_append, List.nil_append, ↓reduceIte, jzo_0, jzo_1, jzo_b, jbi_t, jbi_f, i_add, ↓i_ltP, ↓i_ltN, ↓i_eqP, ↓i_eqN, i_lt, i_eq, jbi_0, pt_lt, pf_lt, pt_eq, pf_eq, pt_le, pf_le, Nat.reduceEqDiff, eq_self, true_or, or_true, false_or, or_false, true_and, and_true, false_and, and_false, jE_sw, jE_sw0]

theorem N_writeToken_b {G : jx_Gv} {h : jx_H} {b : Nat} {S : Nat → Int32} {A : Nat → Nat → Int32} {p k m wa : Nat} {q : (Nat → Int32) × Nat} (hp : S 2 = Int32.ofNat p) (hp2 : p ≤ 2000) (hk : k ≤ p) (hm : S 11 = Int32.ofNat (m + 1)) (hm2 : m < 120) (hwa : A 20 m = Int32.ofNat wa) (hwa2 : wa < 2147483648) (hq : q.2 + (p - k) + 8 < 6000) (hv : S 4 = Int32.ofNat 3 → ∃ n : Nat, n < 1000000 ∧ S 5 = Int32.ofNat n) {β_ : Type} {f_ : jx_R → Option β_} : (jE G (81, 0, [some (.ref b), some (.int (Int32.ofNat k)), none], [], hW h b S A q)).bind f_ = f_ ((none, hW h b S A (wps q ((if wa < q.2 then [Int32.ofNat 32] else []) ++ tokW (A 1) (S 4) (S 5) k p)))) := bnd (N_writeToken hp hp2 hk hm hm2 hwa hwa2 hq hv)