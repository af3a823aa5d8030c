/-! A TOKEN -/
theorem lsk_le {f : Nat → Int32} {len : Nat} : ∀ d p l : Nat, p ≤ len → (lsk f len d p l).1 ≤ len ∧ p ≤ (lsk f len d p l).1
  | 0, p, l, h => ⟨h, Nat.le_refl _⟩
  | d + 1, p, l, h => by
    unfold lsk
    split
    · rename_i c
      have := lsk_le (f := f) d (p + 1) (if f p = Int32.ofNat 10 then l + 1 else l) (show p + 1 ≤ len by omega)
      exact ⟨this.1, by omega⟩
    · exact ⟨h, Nat.le_refl _⟩
def wsgn (o : Int32) : Bool := !decide (lix 2 o.toInt8.toInt32 8 0 < Int32.ofNat 0)
def adv (wn : Nat → Int64) (f : Nat → Int32) (len : Nat) (c : jS) : jS :=
  if toc f len (lsk f len 2001 c.1 c.2.1).1 < Int32.ofNat 0 then ((lsk f len 2001 c.1 c.2.1).1, (lsk f len 2001 c.1 c.2.1).2, Int32.ofNat 6, c.2.2.2.1, c.2.2.2.2)
  else if wlet (toc f len (lsk f len 2001 c.1 c.2.1).1) = true then scF wn f len (lnm f len 12 (lsk f len 2001 c.1 c.2.1).1 0 1) ((lsk f len 2001 c.1 c.2.1).1, (lsk f len 2001 c.1 c.2.1).2, c.2.2)
  else if wdig (toc f len (lsk f len 2001 c.1 c.2.1).1) = true then scU f len (lnb f len 6 (lsk f len 2001 c.1 c.2.1).1 (Int32.ofNat 0)) ((lsk f len 2001 c.1 c.2.1).1, (lsk f len 2001 c.1 c.2.1).2, c.2.2)
  else ((lsk f len 2001 c.1 c.2.1).1 + 1, (lsk f len 2001 c.1 c.2.1).2, cond (wsgn (toc f len (lsk f len 2001 c.1 c.2.1).1)) (Int32.ofNat 4) (Int32.ofNat 5), toc f len (lsk f len 2001 c.1 c.2.1).1, c.2.2.2.2)
def fOct (f : Nat → Int32) (len : Nat) : Prop := ∀ p : Nat, p < len → ∃ n : Nat, n < 256 ∧ f p = Int32.ofNat n
theorem i_chr : ∀ n : Nat, n < 256 → (Int32.toUInt32 (Int32.ofNat n) % 65536).toInt32 = Int32.ofNat n := by decide +kernel
theorem S_advance {G : jx_Gv} {h : jx_H} {r t w a : Nat} {f : Nat → Int32} {len : Nat} {ov : Bool} (hT : jTx h t f len ov) (htr : t + 1 < r) (hra : r + 1 < a) {d : jR} {X : jX} (hG : jLt G) {wn : Nat → Int64} (hD : jWd h w wn) (hwr : w + 1 < r) (hO : fOct f len) {c : jS} (hc : c.1 ≤ len) : jE G (39, 0, [some (.ref (r + 1)), none], [], hF h r t w a c d X) = some (none, hF h r t w a (adv wn f len c) d X) := by
  have hl := hT.2.2
  have hs := lsk_le (f := f) 2001 c.1 c.2.1 hc
  have e1 := S_skipBlanks (G := G) hT htr hra (w := w) (d := d) (X := X) hc
  unfold adv
  generalize lsk f len 2001 c.1 c.2.1 = q at *
  have hT' := fun c => jTx_hF (w := w) (c := c) (d := d) (X := X) hT htr hra
  have e1' := fun {β : Type} {f : jx_R → Option β} => bnd (f := f) e1
  by_cases c1 : toc f len q.1 < Int32.ofNat 0
  · rw [if_pos c1]
    simp (disch := omega) only [e_39_0, e_39_4, e_39_15, e_39_20, e_39_29, e_39_33, e_39_36, e_39_40, e_39_43, e_39_47, e_39_50, e_39_54, e_39_57, e_39_80, e_39_83, e_39_87, e_39_88, e_39_91, fs_rv, ↓e1', ↓fs_t_b, ↓fs_place_b, tx_rv (hT' _), ↓T_octet_b (hT' _), ↓ps_sort_b, c1, ↓Option.bind_some, ↓jzo_0b, ↓jzo_1b, ↓jzo_bb, Option.toList_some, Option.toList_none, List.cons_append, List.nil_append, ↓reduceIte, jzo_0, jzo_1, jzo_b, jbi_t, jbi_f, i_add, ↓i_ltP, ↓i_ltN, ↓i_eqP, ↓i_eqN, i_lt, i_eq, jbi_0, pt_lt, pf_lt, pt_eq, pf_eq, pt_le, pf_le, Nat.reduceEqDiff, eq_self, true_or, or_true, false_or, or_false, true_and, and_true, false_and, and_false, jE_sw, jE_sw0]
  rw [if_neg c1]
  cases c2 : wlet (toc f len q.1)
  case true =>
    rw [if_pos rfl]
    have e2 := S_scanName (G := G) hT htr hra (d := d) (X := X) hD hwr (c := (q.1, q.2, c.2.2)) hs.1
    have e2' := fun {β : Type} {f : jx_R → Option β} => bnd (f := f) e2
    simp (disch := omega) only [e_39_0, e_39_4, e_39_15, e_39_20, e_39_29, e_39_33, e_39_36, e_39_40, e_39_43, e_39_47, e_39_50, e_39_54, e_39_57, e_39_80, e_39_83, e_39_87, e_39_88, e_39_91, fs_rv, ↓e1', ↓fs_t_b, ↓fs_place_b, tx_rv (hT' _), ↓T_octet_b (hT' _), ↓W_isLetter_b, ↓e2', c1, c2, ↓Option.bind_some, ↓jzo_0b, ↓jzo_1b, ↓jzo_bb, Option.toList_some, Option.toList_none, List.cons_append, List.nil_append, ↓reduceIte, jzo_0, jzo_1, jzo_b, jbi_t, jbi_f, i_add, ↓i_ltP, ↓i_ltN, ↓i_eqP, ↓i_eqN, i_lt, i_eq, jbi_0, pt_lt, pf_lt, pt_eq, pf_eq, pt_le, pf_le, Nat.reduceEqDiff, eq_self, true_or, or_true, false_or, or_false, true_and, and_true, false_and, and_false, jE_sw, jE_sw0]
  rw [if_neg (by decide)]
  cases c3 : wdig (toc f len q.1)
  case true =>
    rw [if_pos rfl]
    have e2 := S_scanNumber (G := G) hT htr hra (w := w) (d := d) (X := X) (c := (q.1, q.2, c.2.2)) hs.1
    have e2' := fun {β : Type} {f : jx_R → Option β} => bnd (f := f) e2
    simp (disch := omega) only [e_39_0, e_39_4, e_39_15, e_39_20, e_39_29, e_39_33, e_39_36, e_39_40, e_39_43, e_39_47, e_39_50, e_39_54, e_39_57, e_39_80, e_39_83, e_39_87, e_39_88, e_39_91, fs_rv, ↓e1', ↓fs_t_b, ↓fs_place_b, tx_rv (hT' _), ↓T_octet_b (hT' _), ↓W_isLetter_b, ↓W_isDigit_b, ↓e2', c1, c2, c3, ↓Option.bind_some, ↓jzo_0b, ↓jzo_1b, ↓jzo_bb, Option.toList_some, Option.toList_none, List.cons_append, List.nil_append, ↓reduceIte, jzo_0, jzo_1, jzo_b, jbi_t, jbi_f, i_add, ↓i_ltP, ↓i_ltN, ↓i_eqP, ↓i_eqN, i_lt, i_eq, jbi_0, pt_lt, pf_lt, pt_eq, pf_eq, pt_le, pf_le, Nat.reduceEqDiff, eq_self, true_or, or_true, false_or, or_false, true_and, and_true, false_and, and_false, jE_sw, jE_sw0]
  rw [if_neg (by decide)]
  have hp : q.1 < len := by
    apply Classical.byContradiction
    intro z
    rw [(toc_out z).2.2.2] at c1
    exact c1 (by decide)
  obtain ⟨n, hn, en⟩ := hO q.1 hp
  have et : toc f len q.1 = Int32.ofNat n := by rw [← en]; exact if_pos hp
  have ec := i_chr n hn
  have eg := hG.1 2 (by decide)
  have eg' := fun {β : Type} {f : Nat → Option β} => bnd (f := f) eg
  rw [et] at c1 c2 c3 ⊢
  unfold wsgn
  by_cases c4 : lix 2 (Int32.ofNat n).toInt8.toInt32 8 0 < Int32.ofNat 0
  · rw [decide_eq_true c4, Bool.not_true, cond_false]
    simp (disch := omega) only [e_39_0, e_39_4, e_39_15, e_39_20, e_39_29, e_39_33, e_39_36, e_39_40, e_39_43, e_39_47, e_39_50, e_39_54, e_39_57, e_39_80, e_39_83, e_39_87, e_39_88, e_39_91, fs_rv, ↓e1', ↓fs_t_b, ↓fs_place_b, tx_rv (hT' _), ↓T_octet_b (hT' _), ↓W_isLetter_b, ↓W_isDigit_b, ↓ps_value_b, ↓ps_place_b, ↓ps_sort_b, et, ec, ↓eg', ↓L_indexOf_b hG, c1, c2, c3, c4, ↓Option.bind_some, ↓jzo_0b, ↓jzo_1b, ↓jzo_bb, Option.toList_some, Option.toList_none, List.cons_append, List.nil_append, ↓reduceIte, jzo_0, jzo_1, jzo_b, jbi_t, jbi_f, i_add, ↓i_ltP, ↓i_ltN, ↓i_eqP, ↓i_eqN, i_lt, i_eq, jbi_0, pt_lt, pf_lt, pt_eq, pf_eq, pt_le, pf_le, Nat.reduceEqDiff, eq_self, true_or, or_true, false_or, or_false, true_and, and_true, false_and, and_false, jE_sw, jE_sw0]
  · rw [decide_eq_false c4, Bool.not_false, cond_true]
    simp (disch := omega) only [e_39_0, e_39_4, e_39_15, e_39_20, e_39_29, e_39_33, e_39_36, e_39_40, e_39_43, e_39_47, e_39_50, e_39_54, e_39_57, e_39_80, e_39_83, e_39_87, e_39_88, e_39_91, fs_rv, ↓e1', ↓fs_t_b, ↓fs_place_b, tx_rv (hT' _), ↓T_octet_b (hT' _), ↓W_isLetter_b, ↓W_isDigit_b, ↓ps_value_b, ↓ps_place_b, ↓ps_sort_b, et, ec, ↓eg', ↓L_indexOf_b hG, c1, c2, c3, c4, ↓Option.bind_some, ↓jzo_0b, ↓jzo_1b, ↓jzo_bb, Option.toList_some, Option.toList_none, List.cons_append, List.nil_append, ↓reduceIte, jzo_0, jzo_1, jzo_b, jbi_t, jbi_f, i_add, ↓i_ltP, ↓i_ltN, ↓i_eqP, ↓i_eqN, i_lt, i_eq, jbi_0, pt_lt, pf_lt, pt_eq, pf_eq, pt_le, pf_le, Nat.reduceEqDiff, eq_self, true_or, or_true, false_or, or_false, true_and, and_true, false_and, and_false, jE_sw, jE_sw0]

theorem S_advance_b {G : jx_Gv} {h : jx_H} {r t w a : Nat} {f : Nat → Int32} {len : Nat} {ov : Bool} (hT : jTx h t f len ov) (htr : t + 1 < r) (hra : r + 1 < a) {d : jR} {X : jX} (hG : jLt G) {wn : Nat → Int64} (hD : jWd h w wn) (hwr : w + 1 < r) (hO : fOct f len) {c : jS} (hc : c.1 ≤ len) {β_ : Type} {f_ : jx_R → Option β_} : (jE G (39, 0, [some (.ref (r + 1)), none], [], hF h r t w a c d X)).bind f_ = f_ ((none, hF h r t w a (adv wn f len c) d X)) := bnd (S_advance hT htr hra hG hD hwr hO hc)