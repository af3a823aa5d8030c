/-! THE SCANNER -/
theorem jTx_hF {h : jx_H} {r t w a : Nat} {c : jS} {d : jR} {X : jX} {f : Nat → Int32} {len : Nat} {ov : Bool} (q : jTx h t f len ov) (h1 : t + 1 < r) (h2 : r + 1 < a) : jTx (hF h r t w a c d X) t f len ov := ⟨by rw [hF_ne h2 (by omega)]; exact q.1, by rw [hF_ne h2 (by omega)]; exact q.2.1, q.2.2⟩
theorem jWd_hF {h : jx_H} {r t w a : Nat} {c : jS} {d : jR} {X : jX} {wn : Nat → Int64} (q : jWd h w wn) (h1 : w + 1 < r) (h2 : r + 1 < a) : jWd (hF h r t w a c d X) w wn := ⟨by rw [hF_ne h2 (by omega)]; exact q.1, by rw [hF_ne h2 (by omega)]; exact q.2⟩
def wblk (x : Int32) : Bool := decide (x = Int32.ofNat 9) || (decide (x = Int32.ofNat 10) || (decide (x = Int32.ofNat 13) || decide (x = Int32.ofNat 32)))
theorem S_isBlank {G : jx_Gv} {h : jx_H} {x : Int32} : jE G (29, 0, [some (.int x)], [], h) = some (some (.int (jbi (wblk x))), h) := by
  by_cases c1 : x = Int32.ofNat 9
  · simp (disch := omega) only [e_29_0, e_29_6, e_29_12, e_29_18, e_29_24, e_29_28, e_29_29, ↓Option.bind_some, ↓jzo_0b, ↓jzo_1b, ↓jzo_bb, Option.toList_some, Option.toList_none, List.cons_append, List.nil_append, ↓reduceIte, jzo_0, jzo_1, jzo_b, jbi_t, jbi_f, i_add, ↓i_ltP, ↓i_ltN, ↓i_eqP, ↓i_eqN, i_lt, i_eq, jbi_0, pt_lt, pf_lt, pt_eq, pf_eq, pt_le, pf_le, Nat.reduceEqDiff, eq_self, true_or, or_true, false_or, or_false, true_and, and_true, false_and, and_false, jE_sw, jE_sw0, wblk, c1, decide_true, Bool.true_or]
  by_cases c2 : x = Int32.ofNat 10
  · simp (disch := omega) only [e_29_0, e_29_6, e_29_12, e_29_18, e_29_24, e_29_28, e_29_29, ↓Option.bind_some, ↓jzo_0b, ↓jzo_1b, ↓jzo_bb, Option.toList_some, Option.toList_none, List.cons_append, List.nil_append, ↓reduceIte, jzo_0, jzo_1, jzo_b, jbi_t, jbi_f, i_add, ↓i_ltP, ↓i_ltN, ↓i_eqP, ↓i_eqN, i_lt, i_eq, jbi_0, pt_lt, pf_lt, pt_eq, pf_eq, pt_le, pf_le, Nat.reduceEqDiff, eq_self, true_or, or_true, false_or, or_false, true_and, and_true, false_and, and_false, jE_sw, jE_sw0, wblk, c2, decide_true, Bool.true_or, Bool.or_true]
  by_cases c3 : x = Int32.ofNat 13
  · simp (disch := omega) only [e_29_0, e_29_6, e_29_12, e_29_18, e_29_24, e_29_28, e_29_29, ↓Option.bind_some, ↓jzo_0b, ↓jzo_1b, ↓jzo_bb, Option.toList_some, Option.toList_none, List.cons_append, List.nil_append, ↓reduceIte, jzo_0, jzo_1, jzo_b, jbi_t, jbi_f, i_add, ↓i_ltP, ↓i_ltN, ↓i_eqP, ↓i_eqN, i_lt, i_eq, jbi_0, pt_lt, pf_lt, pt_eq, pf_eq, pt_le, pf_le, Nat.reduceEqDiff, eq_self, true_or, or_true, false_or, or_false, true_and, and_true, false_and, and_false, jE_sw, jE_sw0, wblk, c3, decide_true, Bool.true_or, Bool.or_true]
  by_cases c4 : x = Int32.ofNat 32
  · simp (disch := omega) only [e_29_0, e_29_6, e_29_12, e_29_18, e_29_24, e_29_28, e_29_29, ↓Option.bind_some, ↓jzo_0b, ↓jzo_1b, ↓jzo_bb, Option.toList_some, Option.toList_none, List.cons_append, List.nil_append, ↓reduceIte, jzo_0, jzo_1, jzo_b, jbi_t, jbi_f, i_add, ↓i_ltP, ↓i_ltN, ↓i_eqP, ↓i_eqN, i_lt, i_eq, jbi_0, pt_lt, pf_lt, pt_eq, pf_eq, pt_le, pf_le, Nat.reduceEqDiff, eq_self, true_or, or_true, false_or, or_false, true_and, and_true, false_and, and_false, jE_sw, jE_sw0, wblk, c4, decide_true, Bool.true_or, Bool.or_true]
  · simp (disch := omega) only [e_29_0, e_29_6, e_29_12, e_29_18, e_29_24, e_29_28, e_29_29, ↓Option.bind_some, ↓jzo_0b, ↓jzo_1b, ↓jzo_bb, Option.toList_some, Option.toList_none, List.cons_append, List.nil_append, ↓reduceIte, jzo_0, jzo_1, jzo_b, jbi_t, jbi_f, i_add, ↓i_ltP, ↓i_ltN, ↓i_eqP, ↓i_eqN, i_lt, i_eq, jbi_0, pt_lt, pf_lt, pt_eq, pf_eq, pt_le, pf_le, Nat.reduceEqDiff, eq_self, true_or, or_true, false_or, or_false, true_and, and_true, false_and, and_false, jE_sw, jE_sw0, wblk, c1, c2, c3, c4, decide_false, Bool.or_self]
theorem S_isBlank_b {G : jx_Gv} {h : jx_H} {x : Int32} {β_ : Type} {f_ : jx_R → Option β_} : (jE G (29, 0, [some (.int x)], [], h)).bind f_ = f_ ((some (.int (jbi (wblk x))), h)) := bnd (S_isBlank )
/-- over blanks: the place and the line then -/
def lsk (f : Nat → Int32) (len : Nat) : Nat → Nat → Nat → Nat × Nat
  | 0, p, l => (p, l)
  | d + 1, p, l => if p < len ∧ wblk (f p) = true then lsk f len d (p + 1) (if f p = Int32.ofNat 10 then l + 1 else l) else (p, l)
theorem S_skip_loop {G : jx_Gv} {h : jx_H} {r t w a : Nat} {f : Nat → Int32} {len : Nat} {ov : Bool} (hT : jTx h t f len ov) (htr : t + 1 < r) (hra : r + 1 < a) {d : jR} {X : jX} : ∀ (n : Nat) (c : jS), len < c.1 + n → c.1 ≤ len → jE G (30, 0, [some (.ref (r + 1))], [], hF h r t w a c d X) = some (none, hF h r t w a ((lsk f len n c.1 c.2.1).1, (lsk f len n c.1 c.2.1).2, c.2.2) d X)
  | 0, c, hn, hc => by omega
  | n + 1, c, hn, hc => by
    have hl := hT.2.2
    have hT' := jTx_hF (w := w) (c := c) (d := d) (X := X) hT htr hra
    rw [e_30_0, lsk]
    by_cases c1 : c.1 < len
    · have eo : toc f len c.1 = f c.1 := if_pos c1
      cases c2 : wblk (f c.1)
      · rw [if_neg (fun q => by cases q.2)]
        simp (disch := omega) only [e_30_11, e_30_14, e_30_25, e_30_28, e_30_31, e_30_42, e_30_47, e_30_57, e_30_70, ↓fs_t_b, ↓fs_place_b, tx_rv hT', ↓T_length_b hT', ↓T_octet_b hT', ↓S_isBlank_b, eo, c2, ↓Option.bind_some, ↓jzo_0b, ↓jzo_1b, ↓jzo_bb, Option.toList_some, Option.toList_none, List.cons_append, List.nil_append, ↓reduceIte, jzo_0, jzo_1, jzo_b, jbi_t, jbi_f, i_add, ↓i_ltP, ↓i_ltN, ↓i_eqP, ↓i_eqN, i_lt, i_eq, jbi_0, pt_lt, pf_lt, pt_eq, pf_eq, pt_le, pf_le, Nat.reduceEqDiff, eq_self, true_or, or_true, false_or, or_false, true_and, and_true, false_and, and_false, jE_sw, jE_sw0]
      · rw [if_pos ⟨c1, rfl⟩]
        by_cases c3 : f c.1 = Int32.ofNat 10
        · have ih := S_skip_loop (G := G) hT htr hra (w := w) (d := d) (X := X) n (c.1 + 1, c.2.1 + 1, c.2.2) (by show len < c.1 + 1 + n; omega) (by show c.1 + 1 ≤ len; omega)
          have hT2 := jTx_hF (w := w) (c := (c.1, c.2.1 + 1, c.2.2)) (d := d) (X := X) hT htr hra
          rw [c3] at eo c2
          rw [if_pos c3, ← ih]
          simp (disch := omega) only [e_30_11, e_30_14, e_30_25, e_30_28, e_30_31, e_30_42, e_30_47, e_30_57, e_30_70, fs_rv, ↓fs_t_b, ↓fs_place_b, ↓fs_line_b, ↓ps_place_b, ↓ps_line_b, tx_rv hT', ↓T_length_b hT', ↓T_octet_b hT', ↓S_isBlank_b, eo, c2, ↓Option.bind_some, ↓jzo_0b, ↓jzo_1b, ↓jzo_bb, Option.toList_some, Option.toList_none, List.cons_append, List.nil_append, ↓reduceIte, jzo_0, jzo_1, jzo_b, jbi_t, jbi_f, i_add, ↓i_ltP, ↓i_ltN, ↓i_eqP, ↓i_eqN, i_lt, i_eq, jbi_0, pt_lt, pf_lt, pt_eq, pf_eq, pt_le, pf_le, Nat.reduceEqDiff, eq_self, true_or, or_true, false_or, or_false, true_and, and_true, false_and, and_false, jE_sw, jE_sw0]
        · have ih := S_skip_loop (G := G) hT htr hra (w := w) (d := d) (X := X) n (c.1 + 1, c.2.1, c.2.2) (by show len < c.1 + 1 + n; omega) (by show c.1 + 1 ≤ len; omega)
          rw [if_neg c3, ← ih]
          simp (disch := omega) only [e_30_11, e_30_14, e_30_25, e_30_28, e_30_31, e_30_42, e_30_47, e_30_57, e_30_70, fs_rv, ↓fs_t_b, ↓fs_place_b, ↓fs_line_b, ↓ps_place_b, ↓ps_line_b, tx_rv hT', ↓T_length_b hT', ↓T_octet_b hT', ↓S_isBlank_b, eo, c2, c3, ↓Option.bind_some, ↓jzo_0b, ↓jzo_1b, ↓jzo_bb, Option.toList_some, Option.toList_none, List.cons_append, List.nil_append, ↓reduceIte, jzo_0, jzo_1, jzo_b, jbi_t, jbi_f, i_add, ↓i_ltP, ↓i_ltN, ↓i_eqP, ↓i_eqN, i_lt, i_eq, jbi_0, pt_lt, pf_lt, pt_eq, pf_eq, pt_le, pf_le, Nat.reduceEqDiff, eq_self, true_or, or_true, false_or, or_false, true_and, and_true, false_and, and_false, jE_sw, jE_sw0]
    · rw [if_neg (fun q => c1 q.1)]
      simp (disch := omega) only [e_30_11, e_30_14, e_30_25, e_30_28, e_30_31, e_30_42, e_30_47, e_30_57, e_30_70, ↓fs_t_b, ↓fs_place_b, tx_rv hT', ↓T_length_b hT', ↓Option.bind_some, ↓jzo_0b, ↓jzo_1b, ↓jzo_bb, Option.toList_some, Option.toList_none, List.cons_append, List.nil_append, ↓reduceIte, jzo_0, jzo_1, jzo_b, jbi_t, jbi_f, i_add, ↓i_ltP, ↓i_ltN, ↓i_eqP, ↓i_eqN, i_lt, i_eq, jbi_0, pt_lt, pf_lt, pt_eq, pf_eq, pt_le, pf_le, Nat.reduceEqDiff, eq_self, true_or, or_true, false_or, or_false, true_and, and_true, false_and, and_false, jE_sw, jE_sw0]
theorem S_skipBlanks {G : jx_Gv} {h : jx_H} {r t w a : Nat} {f : Nat → Int32} {len : Nat} {ov : Bool} (hT : jTx h t f len ov) (htr : t + 1 < r) (hra : r + 1 < a) {d : jR} {X : jX} {c : jS} (hc : c.1 ≤ len) : jE G (30, 0, [some (.ref (r + 1))], [], hF h r t w a c d X) = some (none, hF h r t w a ((lsk f len 2001 c.1 c.2.1).1, (lsk f len 2001 c.1 c.2.1).2, c.2.2) d X) := S_skip_loop hT htr hra 2001 c (by have := hT.2.2; omega) hc
theorem S_skipBlanks_b {G : jx_Gv} {h : jx_H} {r t w a : Nat} {f : Nat → Int32} {len : Nat} {ov : Bool} (hT : jTx h t f len ov) (htr : t + 1 < r) (hra : r + 1 < a) {d : jR} {X : jX} {c : jS} (hc : c.1 ≤ len) {β_ : Type} {f_ : jx_R → Option β_} : (jE G (30, 0, [some (.ref (r + 1))], [], hF h r t w a c d X)).bind f_ = f_ ((none, hF h r t w a ((lsk f len 2001 c.1 c.2.1).1, (lsk f len 2001 c.1 c.2.1).2, c.2.2) d X)) := bnd (S_skipBlanks hT htr hra hc)
/-- a name's word: its bit, or 0 -/
def wbl (wn : Nat → Int64) (y : Int64) : Nat → Nat → Int32
  | 0, _ => Int32.ofNat 0
  | d + 1, i => if wn i = y then Int32.ofNat (2 ^ i) else wbl wn y d (i + 1)
theorem W_bit_loop {G : jx_Gv} {h : jx_H} {w : Nat} {wn : Nat → Int64} (hD : jWd h w wn) {y : Int64} : ∀ (d i : Nat) (z2 : Option Value), i + d = 16 → jE G (31, 2, [some (.ref w), some (.long y), z2, some (.int (Int32.ofNat i))], [], h) = some (some (.int (wbl wn y d i)), h)
  | 0, i, z2, hi => by
    rw [e_31_2, wbl]
    simp (disch := omega) only [e_31_0, e_31_11, e_31_22, e_31_26, e_31_32, ↓wd_f_b hD, ↓wd_n_b hD, ↓Option.bind_some, ↓jzo_0b, ↓jzo_1b, ↓jzo_bb, Option.toList_some, Option.toList_none, List.cons_append, List.nil_append, ↓reduceIte, jzo_0, jzo_1, jzo_b, jbi_t, jbi_f, i_add, ↓i_ltP, ↓i_ltN, ↓i_eqP, ↓i_eqN, i_lt, i_eq, jbi_0, pt_lt, pf_lt, pt_eq, pf_eq, pt_le, pf_le, Nat.reduceEqDiff, eq_self, true_or, or_true, false_or, or_false, true_and, and_true, false_and, and_false, jE_sw, jE_sw0]
  | d + 1, i, z2, hi => by
    have ih := W_bit_loop (G := G) hD (y := y) d (i + 1) none (by omega)
    have es := i_shl i (by omega)
    rw [e_31_2, wbl]
    by_cases c : wn i = y
    · rw [if_pos c]
      simp (disch := omega) only [e_31_0, e_31_11, e_31_22, e_31_26, e_31_32, ↓wd_f_b hD, ↓wd_n_b hD, ↓wd_a_b hD, j_cmp0, es, c, ↓Option.bind_some, ↓jzo_0b, ↓jzo_1b, ↓jzo_bb, Option.toList_some, Option.toList_none, List.cons_append, List.nil_append, ↓reduceIte, jzo_0, jzo_1, jzo_b, jbi_t, jbi_f, i_add, ↓i_ltP, ↓i_ltN, ↓i_eqP, ↓i_eqN, i_lt, i_eq, jbi_0, pt_lt, pf_lt, pt_eq, pf_eq, pt_le, pf_le, Nat.reduceEqDiff, eq_self, true_or, or_true, false_or, or_false, true_and, and_true, false_and, and_false, jE_sw, jE_sw0]
    · rw [if_neg c]
      simp (disch := omega) only [e_31_0, e_31_11, e_31_22, e_31_26, e_31_32, ↓wd_f_b hD, ↓wd_n_b hD, ↓wd_a_b hD, j_cmp0, es, c, ↓Option.bind_some, ↓jzo_0b, ↓jzo_1b, ↓jzo_bb, Option.toList_some, Option.toList_none, List.cons_append, List.nil_append, ↓reduceIte, jzo_0, jzo_1, jzo_b, jbi_t, jbi_f, i_add, ↓i_ltP, ↓i_ltN, ↓i_eqP, ↓i_eqN, i_lt, i_eq, jbi_0, pt_lt, pf_lt, pt_eq, pf_eq, pt_le, pf_le, Nat.reduceEqDiff, eq_self, true_or, or_true, false_or, or_false, true_and, and_true, false_and, and_false, jE_sw, jE_sw0]
      exact ih
def wbit (wn : Nat → Int64) (y : Int64) : Int32 := wbl wn y 16 0
theorem W_bitOf {G : jx_Gv} {h : jx_H} {w : Nat} {wn : Nat → Int64} (hD : jWd h w wn) {y : Int64} : jE G (31, 0, [some (.ref w), some (.long y), none, none], [], h) = some (some (.int (wbit wn y)), h) := by
  simp (disch := omega) only [e_31_0, e_31_11, e_31_22, e_31_26, e_31_32]
  exact W_bit_loop hD 16 0 _ (by omega)
theorem W_bitOf_b {G : jx_Gv} {h : jx_H} {w : Nat} {wn : Nat → Int64} (hD : jWd h w wn) {y : Int64} {β_ : Type} {f_ : jx_R → Option β_} : (jE G (31, 0, [some (.ref w), some (.long y), none, none], [], h)).bind f_ = f_ ((some (.int (wbit wn y)), h)) := bnd (W_bitOf hD)
/-- the letters of a name from a place on, at most d of them: its number so far, the place behind -/
def lnm (f : Nat → Int32) (len : Nat) : Nat → Nat → Int64 → Int64 → Int64 × Nat
  | 0, p, y, _ => (y, p)
  | d + 1, p, y, g => if Int32.ofNat 0 < wcode (toc f len p) then lnm f len d (p + 1) (y + (wcode (toc f len p)).toInt64 * g) (g * 37) else (y, p)
theorem toc_out {f : Nat → Int32} {len p : Nat} (h : ¬ p < len) : wcode (toc f len p) = Int32.ofNat 0 ∧ wdig (toc f len p) = false ∧ wlet (toc f len p) = false ∧ toc f len p = -(Int32.ofNat 1) := by
  have e : toc f len p = -(Int32.ofNat 1) := if_neg h
  rw [e]
  decide
def scF (wn : Nat → Int64) (f : Nat → Int32) (len : Nat) (q : Int64 × Nat) (c : jS) : jS := (q.2, c.2.1, if Int32.ofNat 0 < wcode (toc f len q.2) then Int32.ofNat 5 else if wbit wn q.1 = Int32.ofNat 0 then Int32.ofNat 2 else Int32.ofNat 1, wbit wn q.1, q.1)
theorem S_nm_end {G : jx_Gv} {h : jx_H} {r t w a : Nat} {f : Nat → Int32} {len : Nat} {ov : Bool} (hT : jTx h t f len ov) (htr : t + 1 < r) (hra : r + 1 < a) {d : jR} {X : jX} {wn : Nat → Int64} (hD : jWd h w wn) (hwr : w + 1 < r) {c : jS} {g : Int64} {z2 : Option Value} {i : Nat} (hi : i ≤ 12) (he : i = 12 ∨ ¬ Int32.ofNat 0 < wcode (toc f len c.1)) : jE G (32, 25, [some (.ref (r + 1)), some (.long g), z2, some (.int (wcode (toc f len c.1))), some (.int (Int32.ofNat i))], [], hF h r t w a c d X) = some (none, hF h r t w a (scF wn f len (c.2.2.2.2, c.1) c) d X) := by
  have hD' := jWd_hF (t := t) (c := c) (d := d) (X := X) hD hwr hra
  rw [e_32_25]
  unfold scF
  generalize wcode (toc f len c.1) = cd at *
  by_cases c1 : Int32.ofNat 0 < cd
  · have e : i = 12 := he.elim id fun q => absurd c1 q
    subst e
    simp (disch := omega) only [e_32_0, e_32_18, e_32_21, e_32_32, e_32_36, e_32_76, e_32_79, e_32_86, e_32_98, e_32_105, e_32_113, e_32_121, e_32_125, e_32_126, e_32_129, ↓fs_w_b, ↓fs_name_b, wd_rv hD', ↓W_bitOf_b hD', ↓ps_value_b, ↓ps_sort_b, ↓fs_value_b, c1, ↓Option.bind_some, ↓jzo_0b, ↓jzo_1b, ↓jzo_bb, Option.toList_some, Option.toList_none, List.cons_append, List.nil_append, ↓reduceIte, jzo_0, jzo_1, jzo_b, jbi_t, jbi_f, i_add, ↓i_ltP, ↓i_ltN, ↓i_eqP, ↓i_eqN, i_lt, i_eq, jbi_0, pt_lt, pf_lt, pt_eq, pf_eq, pt_le, pf_le, Nat.reduceEqDiff, eq_self, true_or, or_true, false_or, or_false, true_and, and_true, false_and, and_false, jE_sw, jE_sw0]
  · by_cases c2 : wbit wn c.2.2.2.2 = Int32.ofNat 0
    · by_cases e : i = 12
      · simp (disch := omega) only [e_32_0, e_32_18, e_32_21, e_32_32, e_32_36, e_32_76, e_32_79, e_32_86, e_32_98, e_32_105, e_32_113, e_32_121, e_32_125, e_32_126, e_32_129, ↓fs_w_b, ↓fs_name_b, wd_rv hD', ↓W_bitOf_b hD', ↓ps_value_b, ↓ps_sort_b, ↓fs_value_b, c1, c2, ↓Option.bind_some, ↓jzo_0b, ↓jzo_1b, ↓jzo_bb, Option.toList_some, Option.toList_none, List.cons_append, List.nil_append, ↓reduceIte, jzo_0, jzo_1, jzo_b, jbi_t, jbi_f, i_add, ↓i_ltP, ↓i_ltN, ↓i_eqP, ↓i_eqN, i_lt, i_eq, jbi_0, pt_lt, pf_lt, pt_eq, pf_eq, pt_le, pf_le, Nat.reduceEqDiff, eq_self, true_or, or_true, false_or, or_false, true_and, and_true, false_and, and_false, jE_sw, jE_sw0]
      · simp (disch := omega) only [e_32_0, e_32_18, e_32_21, e_32_32, e_32_36, e_32_76, e_32_79, e_32_86, e_32_98, e_32_105, e_32_113, e_32_121, e_32_125, e_32_126, e_32_129, ↓fs_w_b, ↓fs_name_b, wd_rv hD', ↓W_bitOf_b hD', ↓ps_value_b, ↓ps_sort_b, ↓fs_value_b, c1, c2, ↓Option.bind_some, ↓jzo_0b, ↓jzo_1b, ↓jzo_bb, Option.toList_some, Option.toList_none, List.cons_append, List.nil_append, ↓reduceIte, jzo_0, jzo_1, jzo_b, jbi_t, jbi_f, i_add, ↓i_ltP, ↓i_ltN, ↓i_eqP, ↓i_eqN, i_lt, i_eq, jbi_0, pt_lt, pf_lt, pt_eq, pf_eq, pt_le, pf_le, Nat.reduceEqDiff, eq_self, true_or, or_true, false_or, or_false, true_and, and_true, false_and, and_false, jE_sw, jE_sw0]
    · by_cases e : i = 12
      · simp (disch := omega) only [e_32_0, e_32_18, e_32_21, e_32_32, e_32_36, e_32_76, e_32_79, e_32_86, e_32_98, e_32_105, e_32_113, e_32_121, e_32_125, e_32_126, e_32_129, ↓fs_w_b, ↓fs_name_b, wd_rv hD', ↓W_bitOf_b hD', ↓ps_value_b, ↓ps_sort_b, ↓fs_value_b, c1, c2, ↓Option.bind_some, ↓jzo_0b, ↓jzo_1b, ↓jzo_bb, Option.toList_some, Option.toList_none, List.cons_append, List.nil_append, ↓reduceIte, jzo_0, jzo_1, jzo_b, jbi_t, jbi_f, i_add, ↓i_ltP, ↓i_ltN, ↓i_eqP, ↓i_eqN, i_lt, i_eq, jbi_0, pt_lt, pf_lt, pt_eq, pf_eq, pt_le, pf_le, Nat.reduceEqDiff, eq_self, true_or, or_true, false_or, or_false, true_and, and_true, false_and, and_false, jE_sw, jE_sw0]
      · simp (disch := omega) only [e_32_0, e_32_18, e_32_21, e_32_32, e_32_36, e_32_76, e_32_79, e_32_86, e_32_98, e_32_105, e_32_113, e_32_121, e_32_125, e_32_126, e_32_129, ↓fs_w_b, ↓fs_name_b, wd_rv hD', ↓W_bitOf_b hD', ↓ps_value_b, ↓ps_sort_b, ↓fs_value_b, c1, c2, ↓Option.bind_some, ↓jzo_0b, ↓jzo_1b, ↓jzo_bb, Option.toList_some, Option.toList_none, List.cons_append, List.nil_append, ↓reduceIte, jzo_0, jzo_1, jzo_b, jbi_t, jbi_f, i_add, ↓i_ltP, ↓i_ltN, ↓i_eqP, ↓i_eqN, i_lt, i_eq, jbi_0, pt_lt, pf_lt, pt_eq, pf_eq, pt_le, pf_le, Nat.reduceEqDiff, eq_self, true_or, or_true, false_or, or_false, true_and, and_true, false_and, and_false, jE_sw, jE_sw0]
theorem S_nm_end_b {G : jx_Gv} {h : jx_H} {r t w a : Nat} {f : Nat → Int32} {len : Nat} {ov : Bool} (hT : jTx h t f len ov) (htr : t + 1 < r) (hra : r + 1 < a) {d : jR} {X : jX} {wn : Nat → Int64} (hD : jWd h w wn) (hwr : w + 1 < r) {c : jS} {g : Int64} {z2 : Option Value} {i : Nat} (hi : i ≤ 12) (he : i = 12 ∨ ¬ Int32.ofNat 0 < wcode (toc f len c.1)) {β_ : Type} {f_ : jx_R → Option β_} : (jE G (32, 25, [some (.ref (r + 1)), some (.long g), z2, some (.int (wcode (toc f len c.1))), some (.int (Int32.ofNat i))], [], hF h r t w a c d X)).bind f_ = f_ ((none, hF h r t w a (scF wn f len (c.2.2.2.2, c.1) c) d X)) := bnd (S_nm_end hT htr hra hD hwr hi he)
theorem S_nm_loop {G : jx_Gv} {h : jx_H} {r t w a : Nat} {f : Nat → Int32} {len : Nat} {ov : Bool} (hT : jTx h t f len ov) (htr : t + 1 < r) (hra : r + 1 < a) {d : jR} {X : jX} {wn : Nat → Int64} (hD : jWd h w wn) (hwr : w + 1 < r) : ∀ (n i : Nat) (g : Int64) (c : jS) (z2 : Option Value), i + n = 12 → c.1 ≤ len → jE G (32, 25, [some (.ref (r + 1)), some (.long g), z2, some (.int (wcode (toc f len c.1))), some (.int (Int32.ofNat i))], [], hF h r t w a c d X) = some (none, hF h r t w a (scF wn f len (lnm f len n c.1 c.2.2.2.2 g) c) d X)
  | 0, i, g, c, z2, hi, hc => S_nm_end hT htr hra hD hwr (by omega) (Or.inl (by omega))
  | n + 1, i, g, c, z2, hi, hc => by
    rw [lnm]
    by_cases c1 : Int32.ofNat 0 < wcode (toc f len c.1)
    · rw [if_pos c1]
      have hp : c.1 < len := by
        apply Classical.byContradiction
        intro q
        rw [(toc_out q).1] at c1
        exact absurd c1 (by decide)
      have hl := hT.2.2
      have hT' := fun c => jTx_hF (w := w) (c := c) (d := d) (X := X) hT htr hra
      have ih := S_nm_loop (G := G) hT htr hra (d := d) (X := X) hD hwr n (i + 1) (g * 37) (c.1 + 1, c.2.1, c.2.2.1, c.2.2.2.1, c.2.2.2.2 + (wcode (toc f len c.1)).toInt64 * g) none (by omega) hp
      rw [e_32_25]
      refine Eq.trans ?_ ih
      simp (disch := omega) only [e_32_0, e_32_18, e_32_21, e_32_32, e_32_36, e_32_76, e_32_79, e_32_86, e_32_98, e_32_105, e_32_113, e_32_121, e_32_125, e_32_126, e_32_129, ↓fs_t_b, ↓fs_name_b, ↓fs_place_b, ↓ps_name_b, ↓ps_place_b, tx_rv (hT' _), ↓T_octet_b (hT' _), ↓W_codeOf_b, c1, ↓Option.bind_some, ↓jzo_0b, ↓jzo_1b, ↓jzo_bb, Option.toList_some, Option.toList_none, List.cons_append, List.nil_append, ↓reduceIte, jzo_0, jzo_1, jzo_b, jbi_t, jbi_f, i_add, ↓i_ltP, ↓i_ltN, ↓i_eqP, ↓i_eqN, i_lt, i_eq, jbi_0, pt_lt, pf_lt, pt_eq, pf_eq, pt_le, pf_le, Nat.reduceEqDiff, eq_self, true_or, or_true, false_or, or_false, true_and, and_true, false_and, and_false, jE_sw, jE_sw0]
    · rw [if_neg c1]
      exact S_nm_end hT htr hra hD hwr (by omega) (Or.inr c1)
theorem S_scanName {G : jx_Gv} {h : jx_H} {r t w a : Nat} {f : Nat → Int32} {len : Nat} {ov : Bool} (hT : jTx h t f len ov) (htr : t + 1 < r) (hra : r + 1 < a) {d : jR} {X : jX} {wn : Nat → Int64} (hD : jWd h w wn) (hwr : w + 1 < r) {c : jS} (hc : c.1 ≤ len) : jE G (32, 0, [some (.ref (r + 1)), none, none, none, none], [], hF h r t w a c d X) = some (none, hF h r t w a (scF wn f len (lnm f len 12 c.1 0 1) c) d X) := by
  have hl := hT.2.2
  have hT' := fun c => jTx_hF (w := w) (c := c) (d := d) (X := X) hT htr hra
  have q := S_nm_loop (G := G) hT htr hra (d := d) (X := X) hD hwr 12 0 1 (c.1, c.2.1, c.2.2.1, c.2.2.2.1, 0) none (by omega) hc
  refine Eq.trans ?_ q
  simp (disch := omega) only [e_32_0, e_32_18, e_32_21, e_32_32, e_32_36, e_32_76, e_32_79, e_32_86, e_32_98, e_32_105, e_32_113, e_32_121, e_32_125, e_32_126, e_32_129, ↓fs_t_b, ↓fs_place_b, ↓ps_name_b, tx_rv (hT' _), ↓T_octet_b (hT' _), ↓W_codeOf_b, ↓Option.bind_some, ↓jzo_0b, ↓jzo_1b, ↓jzo_bb, Option.toList_some, Option.toList_none, List.cons_append, List.nil_append, ↓reduceIte, jzo_0, jzo_1, jzo_b, jbi_t, jbi_f, i_add, ↓i_ltP, ↓i_ltN, ↓i_eqP, ↓i_eqN, i_lt, i_eq, jbi_0, pt_lt, pf_lt, pt_eq, pf_eq, pt_le, pf_le, Nat.reduceEqDiff, eq_self, true_or, or_true, false_or, or_false, true_and, and_true, false_and, and_false, jE_sw, jE_sw0]
theorem S_scanName_b {G : jx_Gv} {h : jx_H} {r t w a : Nat} {f : Nat → Int32} {len : Nat} {ov : Bool} (hT : jTx h t f len ov) (htr : t + 1 < r) (hra : r + 1 < a) {d : jR} {X : jX} {wn : Nat → Int64} (hD : jWd h w wn) (hwr : w + 1 < r) {c : jS} (hc : c.1 ≤ len) {β_ : Type} {f_ : jx_R → Option β_} : (jE G (32, 0, [some (.ref (r + 1)), none, none, none, none], [], hF h r t w a c d X)).bind f_ = f_ ((none, hF h r t w a (scF wn f len (lnm f len 12 c.1 0 1) c) d X)) := bnd (S_scanName hT htr hra hD hwr hc)
/-- the digits of a number from a place on, at most n of them -/
def lnb (f : Nat → Int32) (len : Nat) : Nat → Nat → Int32 → Int32 × Nat
  | 0, p, v => (v, p)
  | n + 1, p, v => if wdig (toc f len p) = true then lnb f len n (p + 1) (v * Int32.ofNat 10 + toc f len p - Int32.ofNat 48) else (v, p)
def scU (f : Nat → Int32) (len : Nat) (q : Int32 × Nat) (c : jS) : jS := (q.2, c.2.1, if Int32.ofNat 0 < wcode (toc f len q.2) then Int32.ofNat 5 else Int32.ofNat 3, q.1, c.2.2.2.2)
theorem S_nb_loop {G : jx_Gv} {h : jx_H} {r t w a : Nat} {f : Nat → Int32} {len : Nat} {ov : Bool} (hT : jTx h t f len ov) (htr : t + 1 < r) (hra : r + 1 < a) {d : jR} {X : jX} : ∀ (n i : Nat) (c : jS), i + n = 6 → c.1 ≤ len → jE G (33, 7, [some (.ref (r + 1)), some (.int (Int32.ofNat i))], [], hF h r t w a c d X) = some (none, hF h r t w a (scU f len (lnb f len n c.1 c.2.2.2.1) c) d X)
  | 0, i, c, hi, hc => by
    have hl := hT.2.2
    have hT' := fun c => jTx_hF (w := w) (c := c) (d := d) (X := X) hT htr hra
    rw [e_33_7, lnb]
    unfold scU
    by_cases c1 : Int32.ofNat 0 < wcode (toc f len c.1) <;> simp (disch := omega) only [e_33_0, e_33_13, e_33_24, e_33_27, e_33_30, e_33_49, e_33_72, e_33_84, e_33_87, e_33_90, e_33_94, e_33_95, ↓fs_t_b, ↓fs_place_b, ↓ps_sort_b, tx_rv (hT' _), ↓T_octet_b (hT' _), ↓W_codeOf_b, c1, ↓Option.bind_some, ↓jzo_0b, ↓jzo_1b, ↓jzo_bb, Option.toList_some, Option.toList_none, List.cons_append, List.nil_append, ↓reduceIte, jzo_0, jzo_1, jzo_b, jbi_t, jbi_f, i_add, ↓i_ltP, ↓i_ltN, ↓i_eqP, ↓i_eqN, i_lt, i_eq, jbi_0, pt_lt, pf_lt, pt_eq, pf_eq, pt_le, pf_le, Nat.reduceEqDiff, eq_self, true_or, or_true, false_or, or_false, true_and, and_true, false_and, and_false, jE_sw, jE_sw0]
  | n + 1, i, c, hi, hc => by
    have hl := hT.2.2
    have hT' := fun c => jTx_hF (w := w) (c := c) (d := d) (X := X) hT htr hra
    rw [lnb]
    cases c2 : wdig (toc f len c.1)
    · rw [if_neg (by decide), e_33_7]
      unfold scU
      by_cases c1 : Int32.ofNat 0 < wcode (toc f len c.1) <;> simp (disch := omega) only [e_33_0, e_33_13, e_33_24, e_33_27, e_33_30, e_33_49, e_33_72, e_33_84, e_33_87, e_33_90, e_33_94, e_33_95, ↓fs_t_b, ↓fs_place_b, ↓ps_sort_b, tx_rv (hT' _), ↓T_octet_b (hT' _), ↓W_isDigit_b, ↓W_codeOf_b, c1, c2, ↓Option.bind_some, ↓jzo_0b, ↓jzo_1b, ↓jzo_bb, Option.toList_some, Option.toList_none, List.cons_append, List.nil_append, ↓reduceIte, jzo_0, jzo_1, jzo_b, jbi_t, jbi_f, i_add, ↓i_ltP, ↓i_ltN, ↓i_eqP, ↓i_eqN, i_lt, i_eq, jbi_0, pt_lt, pf_lt, pt_eq, pf_eq, pt_le, pf_le, Nat.reduceEqDiff, eq_self, true_or, or_true, false_or, or_false, true_and, and_true, false_and, and_false, jE_sw, jE_sw0]
    · rw [if_pos rfl]
      have hp : c.1 < len := by
        apply Classical.byContradiction
        intro q
        rw [(toc_out q).2.1] at c2
        cases c2
      have ih := S_nb_loop (G := G) hT htr hra (w := w) (d := d) (X := X) n (i + 1) (c.1 + 1, c.2.1, c.2.2.1, c.2.2.2.1 * Int32.ofNat 10 + toc f len c.1 - Int32.ofNat 48, c.2.2.2.2) (by omega) hp
      rw [e_33_7]
      refine Eq.trans ?_ ih
      simp (disch := omega) only [e_33_0, e_33_13, e_33_24, e_33_27, e_33_30, e_33_49, e_33_72, e_33_84, e_33_87, e_33_90, e_33_94, e_33_95, ↓fs_t_b, ↓fs_place_b, ↓fs_value_b, ↓ps_value_b, ↓ps_place_b, tx_rv (hT' _), ↓T_octet_b (hT' _), ↓W_isDigit_b, c2, ↓Option.bind_some, ↓jzo_0b, ↓jzo_1b, ↓jzo_bb, Option.toList_some, Option.toList_none, List.cons_append, List.nil_append, ↓reduceIte, jzo_0, jzo_1, jzo_b, jbi_t, jbi_f, i_add, ↓i_ltP, ↓i_ltN, ↓i_eqP, ↓i_eqN, i_lt, i_eq, jbi_0, pt_lt, pf_lt, pt_eq, pf_eq, pt_le, pf_le, Nat.reduceEqDiff, eq_self, true_or, or_true, false_or, or_false, true_and, and_true, false_and, and_false, jE_sw, jE_sw0]
theorem S_scanNumber {G : jx_Gv} {h : jx_H} {r t w a : Nat} {f : Nat → Int32} {len : Nat} {ov : Bool} (hT : jTx h t f len ov) (htr : t + 1 < r) (hra : r + 1 < a) {d : jR} {X : jX} {c : jS} (hc : c.1 ≤ len) : jE G (33, 0, [some (.ref (r + 1)), none], [], hF h r t w a c d X) = some (none, hF h r t w a (scU f len (lnb f len 6 c.1 (Int32.ofNat 0)) c) d X) := by
  have q := S_nb_loop (G := G) hT htr hra (w := w) (d := d) (X := X) 6 0 (c.1, c.2.1, c.2.2.1, Int32.ofNat 0, c.2.2.2.2) (by omega) hc
  refine Eq.trans ?_ q
  simp (disch := omega) only [e_33_0, e_33_13, e_33_24, e_33_27, e_33_30, e_33_49, e_33_72, e_33_84, e_33_87, e_33_90, e_33_94, e_33_95, ↓ps_value_b, ↓Option.bind_some, ↓jzo_0b, ↓jzo_1b, ↓jzo_bb, Option.toList_some, Option.toList_none, List.cons_append, List.nil_append, ↓reduceIte, jzo_0, jzo_1, jzo_b, jbi_t, jbi_f, i_add, ↓i_ltP, ↓i_ltN, ↓i_eqP, ↓i_eqN, i_lt, i_eq, jbi_0, pt_lt, pf_lt, pt_eq, pf_eq, pt_le, pf_le, Nat.reduceEqDiff, eq_self, true_or, or_true, false_or, or_false, true_and, and_true, false_and, and_false, jE_sw, jE_sw0]

theorem S_scanNumber_b {G : jx_Gv} {h : jx_H} {r t w a : Nat} {f : Nat → Int32} {len : Nat} {ov : Bool} (hT : jTx h t f len ov) (htr : t + 1 < r) (hra : r + 1 < a) {d : jR} {X : jX} {c : jS} (hc : c.1 ≤ len) {β_ : Type} {f_ : jx_R → Option β_} : (jE G (33, 0, [some (.ref (r + 1)), none], [], hF h r t w a c d X)).bind f_ = f_ ((none, hF h r t w a (scU f len (lnb f len 6 c.1 (Int32.ofNat 0)) c) d X)) := bnd (S_scanNumber hT htr hra hc)