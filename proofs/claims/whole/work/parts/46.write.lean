/-! AN EDITION IS WRITTEN -/
theorem i_nn {n : Nat} (h : n < 2147483648) : ((0 : Int32) ≤ Int32.ofNat n) = True := by
  refine eq_true ?_
  rw [Int32.le_iff_toInt_le, i_to h]
  have : ((0 : Int32).toInt) = 0 := rfl
  omega
theorem i_nt {n : Nat} (h : n < 2147483648) : (-(Int32.ofNat n)).toInt = -(n : Int) := by
  rw [Int32.toInt_neg, i_to h]
  exact Int.bmod_eq_of_le (by omega) (by omega)
theorem i_ng {n : Nat} (h0 : 1 ≤ n) (h : n < 2147483648) : ((0 : Int32) ≤ -(Int32.ofNat n)) = False := by
  refine eq_false ?_
  rw [Int32.le_iff_toInt_le, i_nt h]
  have : ((0 : Int32).toInt) = 0 := rfl
  omega
theorem i_nl {n : Nat} (h0 : 1 ≤ n) (h : n < 2147483648) : (-(Int32.ofNat n) < Int32.ofNat 0) = True := by
  refine eq_true ?_
  rw [Int32.lt_iff_toInt_lt, i_nt h, i_to (by decide)]
  omega
theorem i_sn {n : Nat} : (0 : Int32) - -(Int32.ofNat n) = Int32.ofNat n := by
  rw [Int32.zero_sub, Int32.neg_neg]
def numK (v : Int32) : Prop := ∃ n : Nat, n < 1000000 ∧ (v = Int32.ofNat n ∨ 1 ≤ n ∧ v = -(Int32.ofNat n))
def numO (v : Int32) : List Int32 := if v < Int32.ofNat 0 then Int32.ofNat 45 :: Int32.ofNat 32 :: dg100000 (-v).toNatClampNeg else dg100000 v.toNatClampNeg
theorem V_writeNumber {G : jx_Gv} {h : jx_H} {r t w : Nat} {T : jTt} {v : Int32} (hr : jWr h r t w) (htr : t + 1 < r) (hv : numK v) (hl : T.2.1 ≤ 2000) : jE G (175, 0, [some (.ref r), some (.int v), none, none], [], hT h t T) = some (none, hT h t (tputs T (numO v))) := by
  obtain ⟨n, hn, e | ⟨h1, e⟩⟩ := hv
  · subst e
    have q := V_dg100000 (G := G) (n := n) (T := T) (v := Int32.ofNat n) hr htr hn hl
    have e2 : numO (Int32.ofNat n) = dg100000 n := by
      unfold numO
      rw [if_neg (by rw [i_lt (by omega) (by omega)]; omega), i_cl (by omega)]
    rw [e2]
    simp (disch := omega) only [e_175_0, e_175_4, e_175_13, e_175_22, e_175_34, e_175_39, e_175_44, e_175_60, e_175_68, i_nn, ↓Option.bind_some, ↓jzo_0b, ↓jzo_1b, ↓jzo_bb, Option.toList_some, Option.toList_none, List.cons_append, List.nil_append, ↓reduceIte, jzo_0, jzo_1, jzo_b, jbi_t, jbi_f, i_add, ↓i_ltP, ↓i_ltN, ↓i_eqP, ↓i_eqN, i_lt, i_eq, jbi_0, pt_lt, pf_lt, pt_eq, pf_eq, pt_le, pf_le, Nat.reduceEqDiff, eq_self, true_or, or_true, false_or, or_false, true_and, and_true, false_and, and_false, jE_sw, jE_sw0]
    exact q
  · subst e
    have q := V_dg100000 (G := G) (n := n) (T := tput (tput T (Int32.ofNat 45)) (Int32.ofNat 32)) (v := -(Int32.ofNat n)) hr htr hn (tput_le (tput_le hl))
    have e2 : numO (-(Int32.ofNat n)) = Int32.ofNat 45 :: Int32.ofNat 32 :: dg100000 n := by
      unfold numO
      rw [if_pos (by rw [i_nl h1 (by omega)]; trivial), Int32.neg_neg, i_cl (by omega)]
    rw [e2]
    have hl2 : (tput T (Int32.ofNat 45)).2.1 ≤ 2000 := tput_le hl
    have hr1 := jWr_hT (T := T) hr htr
    have hr2 := jWr_hT (T := tput T (Int32.ofNat 45)) hr htr
    have hx1 := hT_tx (h := h) (t := t) hl
    have hx2 := hT_tx (h := h) (t := t) hl2
    simp (disch := omega) only [e_175_0, e_175_4, e_175_13, e_175_22, e_175_34, e_175_39, e_175_44, e_175_60, e_175_68, i_nl, i_ng, i_sn, ↓wr_f0_b hr1, ↓wr_f0_b hr2, tx_rv hx1, tx_rv hx2, ↓T_add_b, ↓Option.bind_some, ↓jzo_0b, ↓jzo_1b, ↓jzo_bb, Option.toList_some, Option.toList_none, List.cons_append, List.nil_append, ↓reduceIte, jzo_0, jzo_1, jzo_b, jbi_t, jbi_f, i_add, ↓i_ltP, ↓i_ltN, ↓i_eqP, ↓i_eqN, i_lt, i_eq, jbi_0, pt_lt, pf_lt, pt_eq, pf_eq, pt_le, pf_le, Nat.reduceEqDiff, eq_self, true_or, or_true, false_or, or_false, true_and, and_true, false_and, and_false, jE_sw, jE_sw0]
    exact q
theorem V_writeNumber_b {G : jx_Gv} {h : jx_H} {r t w : Nat} {T : jTt} {v : Int32} (hr : jWr h r t w) (htr : t + 1 < r) (hv : numK v) (hl : T.2.1 ≤ 2000) {β_ : Type} {f_ : jx_R → Option β_} : (jE G (175, 0, [some (.ref r), some (.int v), none, none], [], hT h t T)).bind f_ = f_ ((none, hT h t (tputs T (numO v)))) := bnd (V_writeNumber hr htr hv hl)
def tokO (wn : Nat → Int64) (X : jX) (r k : Nat) : List Int32 := if xsort X r k = Int32.ofNat 1 then noR (wname wn (xval X r k)) else if xsort X r k = Int32.ofNat 2 then noR (xnameR X (xval X r k)) else if xsort X r k = Int32.ofNat 3 then numO (xval X r k) else [xval X r k]
def xNum (X : jX) : Prop := ∀ r k : Nat, xsort X r k = Int32.ofNat 3 → numK (xval X r k)
theorem V_writeToken {G : jx_Gv} {h : jx_H} {a t u w : Nat} {X : jX} {wn : Nat → Int64} (hE : jEd h a X) (hW : xWF X) (hr : jWr h u t w) (hD : jWd h w wn) (hN : xNum X) (hta : t + 1 < a) (htu : t + 1 < u) (hwt : w + 1 < t) {r k : Nat} {T : jTt} (hr1 : r < 2147483648) (hk : k < 2147483648) (hl : T.2.1 ≤ 2000) : jE G (176, 0, [some (.ref u), some (.ref a), some (.int (Int32.ofNat r)), some (.int (Int32.ofNat k)), none], [], hT h t T) = some (none, hT h t (tputs T (tokO wn X r k))) := by
  have hE' := jEd_hT (T := T) hE hta
  have hr' := jWr_hT (T := T) hr htu
  have hD' := jWd_hT (T := T) hD hwt
  have hx := hT_tx (h := h) (t := t) hl
  unfold tokO
  by_cases c1 : xsort X r k = Int32.ofNat 1
  · rw [if_pos c1]
    simp (disch := omega) only [e_176_0, e_176_6, e_176_14, e_176_40, e_176_50, e_176_53, e_176_56, e_176_63, e_176_66, e_176_69, e_176_75, e_176_78, e_176_87, ed_rv hE', wr_rv hr', ↓wr_f0_b hr', ↓wr_f1_b hr', wd_rv hD', ↓E_value_b hE' hW, ↓E_sort_b hE' hW, ↓W_nameOf_b hD', ↓V_writeName_b hr htu, c1, ↓Option.bind_some, ↓jzo_0b, ↓jzo_1b, ↓jzo_bb, Option.toList_some, Option.toList_none, List.cons_append, List.nil_append, ↓reduceIte, jzo_0, jzo_1, jzo_b, jbi_t, jbi_f, i_add, ↓i_ltP, ↓i_ltN, ↓i_eqP, ↓i_eqN, i_lt, i_eq, jbi_0, pt_lt, pf_lt, pt_eq, pf_eq, pt_le, pf_le, Nat.reduceEqDiff, eq_self, true_or, or_true, false_or, or_false, true_and, and_true, false_and, and_false, jE_sw, jE_sw0]
  by_cases c2 : xsort X r k = Int32.ofNat 2
  · rw [if_neg c1, if_pos c2]
    simp (disch := omega) only [e_176_0, e_176_6, e_176_14, e_176_40, e_176_50, e_176_53, e_176_56, e_176_63, e_176_66, e_176_69, e_176_75, e_176_78, e_176_87, ed_rv hE', wr_rv hr', ↓wr_f0_b hr', ↓wr_f1_b hr', ↓E_value_b hE' hW, ↓E_sort_b hE' hW, ↓E_nameOfR_b hE' hW, ↓V_writeName_b hr htu, c2, ↓Option.bind_some, ↓jzo_0b, ↓jzo_1b, ↓jzo_bb, Option.toList_some, Option.toList_none, List.cons_append, List.nil_append, ↓reduceIte, jzo_0, jzo_1, jzo_b, jbi_t, jbi_f, i_add, ↓i_ltP, ↓i_ltN, ↓i_eqP, ↓i_eqN, i_lt, i_eq, jbi_0, pt_lt, pf_lt, pt_eq, pf_eq, pt_le, pf_le, Nat.reduceEqDiff, eq_self, true_or, or_true, false_or, or_false, true_and, and_true, false_and, and_false, jE_sw, jE_sw0]
  by_cases c3 : xsort X r k = Int32.ofNat 3
  · rw [if_neg c1, if_neg c2, if_pos c3]
    have q := V_writeNumber (G := G) (T := T) hr htu (hN r k c3) hl
    have q' := fun {β : Type} {f : jx_R → Option β} => bnd (f := f) q
    simp (disch := omega) only [e_176_0, e_176_6, e_176_14, e_176_40, e_176_50, e_176_53, e_176_56, e_176_63, e_176_66, e_176_69, e_176_75, e_176_78, e_176_87, ed_rv hE', wr_rv hr', ↓wr_f0_b hr', ↓wr_f1_b hr', ↓E_value_b hE' hW, ↓E_sort_b hE' hW, ↓q', c3, ↓Option.bind_some, ↓jzo_0b, ↓jzo_1b, ↓jzo_bb, Option.toList_some, Option.toList_none, List.cons_append, List.nil_append, ↓reduceIte, jzo_0, jzo_1, jzo_b, jbi_t, jbi_f, i_add, ↓i_ltP, ↓i_ltN, ↓i_eqP, ↓i_eqN, i_lt, i_eq, jbi_0, pt_lt, pf_lt, pt_eq, pf_eq, pt_le, pf_le, Nat.reduceEqDiff, eq_self, true_or, or_true, false_or, or_false, true_and, and_true, false_and, and_false, jE_sw, jE_sw0]
  · rw [if_neg c1, if_neg c2, if_neg c3]
    simp (disch := omega) only [e_176_0, e_176_6, e_176_14, e_176_40, e_176_50, e_176_53, e_176_56, e_176_63, e_176_66, e_176_69, e_176_75, e_176_78, e_176_87, ed_rv hE', wr_rv hr', ↓wr_f0_b hr', tx_rv hx, ↓E_value_b hE' hW, ↓E_sort_b hE' hW, ↓T_add_b, c1, c2, c3, ↓Option.bind_some, ↓jzo_0b, ↓jzo_1b, ↓jzo_bb, Option.toList_some, Option.toList_none, List.cons_append, List.nil_append, ↓reduceIte, jzo_0, jzo_1, jzo_b, jbi_t, jbi_f, i_add, ↓i_ltP, ↓i_ltN, ↓i_eqP, ↓i_eqN, i_lt, i_eq, jbi_0, pt_lt, pf_lt, pt_eq, pf_eq, pt_le, pf_le, Nat.reduceEqDiff, eq_self, true_or, or_true, false_or, or_false, true_and, and_true, false_and, and_false, jE_sw, jE_sw0]
    rfl
theorem V_writeToken_b {G : jx_Gv} {h : jx_H} {a t u w : Nat} {X : jX} {wn : Nat → Int64} (hE : jEd h a X) (hW : xWF X) (hr : jWr h u t w) (hD : jWd h w wn) (hN : xNum X) (hta : t + 1 < a) (htu : t + 1 < u) (hwt : w + 1 < t) {r k : Nat} {T : jTt} (hr1 : r < 2147483648) (hk : k < 2147483648) (hl : T.2.1 ≤ 2000) {β_ : Type} {f_ : jx_R → Option β_} : (jE G (176, 0, [some (.ref u), some (.ref a), some (.int (Int32.ofNat r)), some (.int (Int32.ofNat k)), none], [], hT h t T)).bind f_ = f_ ((none, hT h t (tputs T (tokO wn X r k)))) := bnd (V_writeToken hE hW hr hD hN hta htu hwt hr1 hk hl)
def rowT (wn : Nat → Int64) (X : jX) (r : Nat) : Nat → Nat → List Int32
  | 0, _ => []
  | d + 1, k => (if k = 0 then [] else [Int32.ofNat 32]) ++ (tokO wn X r k ++ rowT wn X r d (k + 1))
theorem V_row_loop {G : jx_Gv} {h : jx_H} {a t u w : Nat} {X : jX} {wn : Nat → Int64} (hE : jEd h a X) (hW : xWF X) (hr : jWr h u t w) (hD : jWd h w wn) (hN : xNum X) (hta : t + 1 < a) (htu : t + 1 < u) (hwt : w + 1 < t) {r : Nat} (hr1 : r < 2147483648) : ∀ (d k : Nat) (T : jTt), k + d = xlen X r → T.2.1 ≤ 2000 → jE G (177, 2, [some (.ref u), some (.ref a), some (.int (Int32.ofNat r)), some (.int (Int32.ofNat k))], [], hT h t T) = some (none, hT h t (tputs T (rowT wn X r d k ++ [Int32.ofNat 10])))
  | 0, k, T, hk, hl => by
    have h1 := xlen_le hW r
    have hE' := jEd_hT (T := T) hE hta
    have hr' := jWr_hT (T := T) hr htu
    have hx := hT_tx (h := h) (t := t) hl
    rw [e_177_2, rowT]
    simp (disch := omega) only [e_177_0, e_177_8, e_177_11, e_177_15, e_177_24, e_177_31, e_177_37, e_177_46, ed_rv hE', ↓wr_f0_b hr', tx_rv hx, ↓E_length_b hE' hW, ↓T_add_b, ↓Option.bind_some, ↓jzo_0b, ↓jzo_1b, ↓jzo_bb, Option.toList_some, Option.toList_none, List.cons_append, List.nil_append, ↓reduceIte, jzo_0, jzo_1, jzo_b, jbi_t, jbi_f, i_add, ↓i_ltP, ↓i_ltN, ↓i_eqP, ↓i_eqN, i_lt, i_eq, jbi_0, pt_lt, pf_lt, pt_eq, pf_eq, pt_le, pf_le, Nat.reduceEqDiff, eq_self, true_or, or_true, false_or, or_false, true_and, and_true, false_and, and_false, jE_sw, jE_sw0]
    rfl
  | d + 1, k, T, hk, hl => by
    have h1 := xlen_le hW r
    have hE' := jEd_hT (T := T) hE hta
    have hr' := jWr_hT (T := T) hr htu
    have hx := hT_tx (h := h) (t := t) hl
    rw [e_177_2, rowT]
    by_cases c : k = 0
    · have ih := V_row_loop (G := G) hE hW hr hD hN hta htu hwt hr1 d (k + 1) (tputs T (tokO wn X r k)) (by omega) (tputs_le hl)
      rw [tputs_app] at ih
      rw [if_pos c, List.nil_append, List.append_assoc, ← ih]
      simp (disch := omega) only [e_177_0, e_177_8, e_177_11, e_177_15, e_177_24, e_177_31, e_177_37, e_177_46, ed_rv hE', wr_rv hr', ↓wr_f0_b hr', tx_rv hx, ↓E_length_b hE' hW, ↓V_writeToken_b hE hW hr hD hN hta htu hwt, ↓Option.bind_some, ↓jzo_0b, ↓jzo_1b, ↓jzo_bb, Option.toList_some, Option.toList_none, List.cons_append, List.nil_append, ↓reduceIte, jzo_0, jzo_1, jzo_b, jbi_t, jbi_f, i_add, ↓i_ltP, ↓i_ltN, ↓i_eqP, ↓i_eqN, i_lt, i_eq, jbi_0, pt_lt, pf_lt, pt_eq, pf_eq, pt_le, pf_le, Nat.reduceEqDiff, eq_self, true_or, or_true, false_or, or_false, true_and, and_true, false_and, and_false, jE_sw, jE_sw0]
    · have hl2 : (tput T (Int32.ofNat 32)).2.1 ≤ 2000 := tput_le hl
      have hr2 := jWr_hT (T := tput T (Int32.ofNat 32)) hr htu
      have ih := V_row_loop (G := G) hE hW hr hD hN hta htu hwt hr1 d (k + 1) (tputs (tput T (Int32.ofNat 32)) (tokO wn X r k)) (by omega) (tputs_le hl2)
      rw [tputs_1, tputs_app, tputs_app, List.append_assoc] at ih
      rw [if_neg c, List.append_assoc, List.append_assoc, ← ih]
      simp (disch := omega) only [e_177_0, e_177_8, e_177_11, e_177_15, e_177_24, e_177_31, e_177_37, e_177_46, ed_rv hE', wr_rv hr', wr_rv hr2, ↓wr_f0_b hr', tx_rv hx, ↓E_length_b hE' hW, ↓T_add_b, ↓V_writeToken_b hE hW hr hD hN hta htu hwt, ↓Option.bind_some, ↓jzo_0b, ↓jzo_1b, ↓jzo_bb, Option.toList_some, Option.toList_none, List.cons_append, List.nil_append, ↓reduceIte, jzo_0, jzo_1, jzo_b, jbi_t, jbi_f, i_add, ↓i_ltP, ↓i_ltN, ↓i_eqP, ↓i_eqN, i_lt, i_eq, jbi_0, pt_lt, pf_lt, pt_eq, pf_eq, pt_le, pf_le, Nat.reduceEqDiff, eq_self, true_or, or_true, false_or, or_false, true_and, and_true, false_and, and_false, jE_sw, jE_sw0]
      rw [tputs_1, tputs_app]
      rfl
def rowO (wn : Nat → Int64) (X : jX) (r : Nat) : List Int32 := rowT wn X r (xlen X r) 0
theorem V_writeRow {G : jx_Gv} {h : jx_H} {a t u w : Nat} {X : jX} {wn : Nat → Int64} (hE : jEd h a X) (hW : xWF X) (hr : jWr h u t w) (hD : jWd h w wn) (hN : xNum X) (hta : t + 1 < a) (htu : t + 1 < u) (hwt : w + 1 < t) {r : Nat} {T : jTt} (hr1 : r < 2147483648) (hl : T.2.1 ≤ 2000) : jE G (177, 0, [some (.ref u), some (.ref a), some (.int (Int32.ofNat r)), none], [], hT h t T) = some (none, hT h t (tputs T (rowO wn X r ++ [Int32.ofNat 10]))) := by
  simp (disch := omega) only [e_177_0, e_177_8, e_177_11, e_177_15, e_177_24, e_177_31, e_177_37, e_177_46]
  exact V_row_loop hE hW hr hD hN hta htu hwt hr1 (xlen X r) 0 T (by omega) hl
theorem V_writeRow_b {G : jx_Gv} {h : jx_H} {a t u w : Nat} {X : jX} {wn : Nat → Int64} (hE : jEd h a X) (hW : xWF X) (hr : jWr h u t w) (hD : jWd h w wn) (hN : xNum X) (hta : t + 1 < a) (htu : t + 1 < u) (hwt : w + 1 < t) {r : Nat} {T : jTt} (hr1 : r < 2147483648) (hl : T.2.1 ≤ 2000) {β_ : Type} {f_ : jx_R → Option β_} : (jE G (177, 0, [some (.ref u), some (.ref a), some (.int (Int32.ofNat r)), none], [], hT h t T)).bind f_ = f_ ((none, hT h t (tputs T (rowO wn X r ++ [Int32.ofNat 10])))) := bnd (V_writeRow hE hW hr hD hN hta htu hwt hr1 hl)
def rowsO (wn : Nat → Int64) (X : jX) : Nat → Nat → List Int32
  | 0, _ => []
  | d + 1, j => rowO wn X (j + 1) ++ [Int32.ofNat 10] ++ rowsO wn X d (j + 1)
theorem V_write_loop {G : jx_Gv} {h : jx_H} {a t u w : Nat} {X : jX} {wn : Nat → Int64} (hE : jEd h a X) (hW : xWF X) (hr : jWr h u t w) (hD : jWd h w wn) (hN : xNum X) (hta : t + 1 < a) (htu : t + 1 < u) (hwt : w + 1 < t) : ∀ (d j : Nat) (T : jTt), j + d = xRc X → T.2.1 ≤ 2000 → jE G (178, 9, [some (.ref u), some (.ref a), some (.int (Int32.ofNat (j + 1)))], [], hT h t T) = some (none, hT h t (tputs T (rowsO wn X d j)))
  | 0, j, T, hj, hl => by
    have h1 := hW.1
    have hE' := jEd_hT (T := T) hE hta
    rw [e_178_9, rowsO]
    simp (disch := omega) only [e_178_0, e_178_7, e_178_14, e_178_17, e_178_23, e_178_29, ed_rv hE', ↓E_rowCount_b hE' hW, ↓Option.bind_some, ↓jzo_0b, ↓jzo_1b, ↓jzo_bb, Option.toList_some, Option.toList_none, List.cons_append, List.nil_append, ↓reduceIte, jzo_0, jzo_1, jzo_b, jbi_t, jbi_f, i_add, ↓i_ltP, ↓i_ltN, ↓i_eqP, ↓i_eqN, i_lt, i_eq, jbi_0, pt_lt, pf_lt, pt_eq, pf_eq, pt_le, pf_le, Nat.reduceEqDiff, eq_self, true_or, or_true, false_or, or_false, true_and, and_true, false_and, and_false, jE_sw, jE_sw0, tputs_0]
  | d + 1, j, T, hj, hl => by
    have h1 := hW.1
    have hE' := jEd_hT (T := T) hE hta
    have hr' := jWr_hT (T := T) hr htu
    have ih := V_write_loop (G := G) hE hW hr hD hN hta htu hwt d (j + 1) (tputs T (rowO wn X (j + 1) ++ [Int32.ofNat 10])) (by omega) (tputs_le hl)
    rw [tputs_app] at ih
    rw [e_178_9, rowsO, ← ih]
    simp (disch := omega) only [e_178_0, e_178_7, e_178_14, e_178_17, e_178_23, e_178_29, ed_rv hE', wr_rv hr', ↓E_rowCount_b hE' hW, ↓V_writeRow_b hE hW hr hD hN hta htu hwt, ↓Option.bind_some, ↓jzo_0b, ↓jzo_1b, ↓jzo_bb, Option.toList_some, Option.toList_none, List.cons_append, List.nil_append, ↓reduceIte, jzo_0, jzo_1, jzo_b, jbi_t, jbi_f, i_add, ↓i_ltP, ↓i_ltN, ↓i_eqP, ↓i_eqN, i_lt, i_eq, jbi_0, pt_lt, pf_lt, pt_eq, pf_eq, pt_le, pf_le, Nat.reduceEqDiff, eq_self, true_or, or_true, false_or, or_false, true_and, and_true, false_and, and_false, jE_sw, jE_sw0]
theorem V_write {G : jx_Gv} {h : jx_H} {a t u w : Nat} {X : jX} {wn : Nat → Int64} (hE : jEd h a X) (hW : xWF X) (hr : jWr h u t w) (hD : jWd h w wn) (hN : xNum X) (hta : t + 1 < a) (htu : t + 1 < u) (hwt : w + 1 < t) {T : jTt} (hl : T.2.1 ≤ 2000) : jE G (178, 0, [some (.ref u), some (.ref a), none], [], hT h t T) = some (none, hT h t (tputs (T.1, 0, false) (rowsO wn X (xRc X) 0))) := by
  have hr' := jWr_hT (T := T) hr htu
  have hx := hT_tx (h := h) (t := t) hl
  simp (disch := omega) only [e_178_0, e_178_7, e_178_14, e_178_17, e_178_23, e_178_29, ↓wr_f0_b hr', tx_rv hx, ↓T_clear_b, ↓Option.bind_some, ↓jzo_0b, ↓jzo_1b, ↓jzo_bb, Option.toList_some, Option.toList_none, List.cons_append, List.nil_append, ↓reduceIte, jzo_0, jzo_1, jzo_b, jbi_t, jbi_f, i_add, ↓i_ltP, ↓i_ltN, ↓i_eqP, ↓i_eqN, i_lt, i_eq, jbi_0, pt_lt, pf_lt, pt_eq, pf_eq, pt_le, pf_le, Nat.reduceEqDiff, eq_self, true_or, or_true, false_or, or_false, true_and, and_true, false_and, and_false, jE_sw, jE_sw0]
  exact V_write_loop hE hW hr hD hN hta htu hwt (xRc X) 0 (T.1, 0, false) (by omega) (Nat.zero_le _)

theorem V_write_b {G : jx_Gv} {h : jx_H} {a t u w : Nat} {X : jX} {wn : Nat → Int64} (hE : jEd h a X) (hW : xWF X) (hr : jWr h u t w) (hD : jWd h w wn) (hN : xNum X) (hta : t + 1 < a) (htu : t + 1 < u) (hwt : w + 1 < t) {T : jTt} (hl : T.2.1 ≤ 2000) {β_ : Type} {f_ : jx_R → Option β_} : (jE G (178, 0, [some (.ref u), some (.ref a), none], [], hT h t T)).bind f_ = f_ ((none, hT h t (tputs (T.1, 0, false) (rowsO wn X (xRc X) 0)))) := bnd (V_write hE hW hr hD hN hta htu hwt hl)