/-! NUMBERS IN THE REFERENCE'S COPY -/
theorem N_pd0 {G : jx_Gv} {h : jx_H} {b : Nat} {S : Nat → Int32} {A : Nat → Nat → Int32} {n : Nat} {q : (Nat → Int32) × Nat} : jE G (80, 18, [some (.ref b), some (.int (Int32.ofNat n)), some (.int (Int32.ofNat 0))], [], hW h b S A q) = some (none, hW h b S A q) := by
  rw [e_80_18]
  simp (disch := omega) only [e_80_0, e_80_10, e_80_22, e_80_35, e_80_43, ↓Option.bind_some, ↓jzo_0b, ↓jzo_1b, ↓jzo_bb, Option.toList_some, Option.toList_none, List.cons_append, List.nil_append, ↓reduceIte, jzo_0, jzo_1, jzo_b, jbi_t, jbi_f, i_add, ↓i_ltP, ↓i_ltN, ↓i_eqP, ↓i_eqN, i_lt, i_eq, jbi_0, pt_lt, pf_lt, pt_eq, pf_eq, pt_le, pf_le, Nat.reduceEqDiff, eq_self, true_or, or_true, false_or, or_false, true_and, and_true, false_and, and_false, jE_sw, jE_sw0]
theorem N_pd0_b {G : jx_Gv} {h : jx_H} {b : Nat} {S : Nat → Int32} {A : Nat → Nat → Int32} {n : Nat} {q : (Nat → Int32) × Nat} {β_ : Type} {f_ : jx_R → Option β_} : (jE G (80, 18, [some (.ref b), some (.int (Int32.ofNat n)), some (.int (Int32.ofNat 0))], [], hW h b S A q)).bind f_ = f_ ((none, hW h b S A q)) := bnd (N_pd0 )
theorem rr_w {h : jx_H} {b : Nat} {S : Nat → Int32} {A : Nat → Nat → Int32} {q : (Nat → Int32) × Nat} {l : List Value} : jx_recv (hW h b S A q) (.ref b :: l) (some 8) = true := rr_v
def pd1 (n : Nat) : List Int32 := [Int32.ofNat (48 + n / 1 % 10)]
theorem N_pd1 {G : jx_Gv} {h : jx_H} {b : Nat} {S : Nat → Int32} {A : Nat → Nat → Int32} {n : Nat} {q : (Nat → Int32) × Nat} (hn : n < 1000000) (hq : q.2 + 6 < 6000 + 5) : jE G (80, 18, [some (.ref b), some (.int (Int32.ofNat n)), some (.int (Int32.ofNat 1))], [], hW h b S A q) = some (none, hW h b S A (wps q (pd1 n))) := by
  have hd := Nat.div_le_self n 1
  have hm := Nat.mod_lt (n / 1) (y := 10) (by decide)
  have ih := N_pd0 (G := G) (h := h) (b := b) (S := S) (A := A) (n := n) (q := wp q (Int32.ofNat (48 + n / 1 % 10)))
  refine Eq.trans ?_ ih
  rw [e_80_18]
  simp (disch := omega) only [e_80_0, e_80_10, e_80_22, e_80_35, e_80_43, rr_w, ↓N_put_b, i_mod2, i_div, Nat.reduceDiv, ↓Option.bind_some, ↓jzo_0b, ↓jzo_1b, ↓jzo_bb, Option.toList_some, Option.toList_none, List.cons_append, List.nil_append, ↓reduceIte, jzo_0, jzo_1, jzo_b, jbi_t, jbi_f, i_add, ↓i_ltP, ↓i_ltN, ↓i_eqP, ↓i_eqN, i_lt, i_eq, jbi_0, pt_lt, pf_lt, pt_eq, pf_eq, pt_le, pf_le, Nat.reduceEqDiff, eq_self, true_or, or_true, false_or, or_false, true_and, and_true, false_and, and_false, jE_sw, jE_sw0]
theorem N_pd1_b {G : jx_Gv} {h : jx_H} {b : Nat} {S : Nat → Int32} {A : Nat → Nat → Int32} {n : Nat} {q : (Nat → Int32) × Nat} (hn : n < 1000000) (hq : q.2 + 6 < 6000 + 5) {β_ : Type} {f_ : jx_R → Option β_} : (jE G (80, 18, [some (.ref b), some (.int (Int32.ofNat n)), some (.int (Int32.ofNat 1))], [], hW h b S A q)).bind f_ = f_ ((none, hW h b S A (wps q (pd1 n)))) := bnd (N_pd1 hn hq)
def pd10 (n : Nat) : List Int32 := Int32.ofNat (48 + n / 10 % 10) :: pd1 n
theorem N_pd10 {G : jx_Gv} {h : jx_H} {b : Nat} {S : Nat → Int32} {A : Nat → Nat → Int32} {n : Nat} {q : (Nat → Int32) × Nat} (hn : n < 1000000) (hq : q.2 + 6 < 6000 + 4) : jE G (80, 18, [some (.ref b), some (.int (Int32.ofNat n)), some (.int (Int32.ofNat 10))], [], hW h b S A q) = some (none, hW h b S A (wps q (pd10 n))) := by
  have hd := Nat.div_le_self n 10
  have hm := Nat.mod_lt (n / 10) (y := 10) (by decide)
  have ih := N_pd1 (G := G) (h := h) (b := b) (S := S) (A := A) (n := n) (q := wp q (Int32.ofNat (48 + n / 10 % 10))) hn (show q.2 + 1 + 6 < 6000 + 5 by omega)
  refine Eq.trans ?_ ih
  rw [e_80_18]
  simp (disch := omega) only [e_80_0, e_80_10, e_80_22, e_80_35, e_80_43, rr_w, ↓N_put_b, i_mod2, i_div, Nat.reduceDiv, ↓Option.bind_some, ↓jzo_0b, ↓jzo_1b, ↓jzo_bb, Option.toList_some, Option.toList_none, List.cons_append, List.nil_append, ↓reduceIte, jzo_0, jzo_1, jzo_b, jbi_t, jbi_f, i_add, ↓i_ltP, ↓i_ltN, ↓i_eqP, ↓i_eqN, i_lt, i_eq, jbi_0, pt_lt, pf_lt, pt_eq, pf_eq, pt_le, pf_le, Nat.reduceEqDiff, eq_self, true_or, or_true, false_or, or_false, true_and, and_true, false_and, and_false, jE_sw, jE_sw0]
theorem N_pd10_b {G : jx_Gv} {h : jx_H} {b : Nat} {S : Nat → Int32} {A : Nat → Nat → Int32} {n : Nat} {q : (Nat → Int32) × Nat} (hn : n < 1000000) (hq : q.2 + 6 < 6000 + 4) {β_ : Type} {f_ : jx_R → Option β_} : (jE G (80, 18, [some (.ref b), some (.int (Int32.ofNat n)), some (.int (Int32.ofNat 10))], [], hW h b S A q)).bind f_ = f_ ((none, hW h b S A (wps q (pd10 n)))) := bnd (N_pd10 hn hq)
def pd100 (n : Nat) : List Int32 := Int32.ofNat (48 + n / 100 % 10) :: pd10 n
theorem N_pd100 {G : jx_Gv} {h : jx_H} {b : Nat} {S : Nat → Int32} {A : Nat → Nat → Int32} {n : Nat} {q : (Nat → Int32) × Nat} (hn : n < 1000000) (hq : q.2 + 6 < 6000 + 3) : jE G (80, 18, [some (.ref b), some (.int (Int32.ofNat n)), some (.int (Int32.ofNat 100))], [], hW h b S A q) = some (none, hW h b S A (wps q (pd100 n))) := by
  have hd := Nat.div_le_self n 100
  have hm := Nat.mod_lt (n / 100) (y := 10) (by decide)
  have ih := N_pd10 (G := G) (h := h) (b := b) (S := S) (A := A) (n := n) (q := wp q (Int32.ofNat (48 + n / 100 % 10))) hn (show q.2 + 1 + 6 < 6000 + 4 by omega)
  refine Eq.trans ?_ ih
  rw [e_80_18]
  simp (disch := omega) only [e_80_0, e_80_10, e_80_22, e_80_35, e_80_43, rr_w, ↓N_put_b, i_mod2, i_div, Nat.reduceDiv, ↓Option.bind_some, ↓jzo_0b, ↓jzo_1b, ↓jzo_bb, Option.toList_some, Option.toList_none, List.cons_append, List.nil_append, ↓reduceIte, jzo_0, jzo_1, jzo_b, jbi_t, jbi_f, i_add, ↓i_ltP, ↓i_ltN, ↓i_eqP, ↓i_eqN, i_lt, i_eq, jbi_0, pt_lt, pf_lt, pt_eq, pf_eq, pt_le, pf_le, Nat.reduceEqDiff, eq_self, true_or, or_true, false_or, or_false, true_and, and_true, false_and, and_false, jE_sw, jE_sw0]
theorem N_pd100_b {G : jx_Gv} {h : jx_H} {b : Nat} {S : Nat → Int32} {A : Nat → Nat → Int32} {n : Nat} {q : (Nat → Int32) × Nat} (hn : n < 1000000) (hq : q.2 + 6 < 6000 + 3) {β_ : Type} {f_ : jx_R → Option β_} : (jE G (80, 18, [some (.ref b), some (.int (Int32.ofNat n)), some (.int (Int32.ofNat 100))], [], hW h b S A q)).bind f_ = f_ ((none, hW h b S A (wps q (pd100 n)))) := bnd (N_pd100 hn hq)
def pd1000 (n : Nat) : List Int32 := Int32.ofNat (48 + n / 1000 % 10) :: pd100 n
theorem N_pd1000 {G : jx_Gv} {h : jx_H} {b : Nat} {S : Nat → Int32} {A : Nat → Nat → Int32} {n : Nat} {q : (Nat → Int32) × Nat} (hn : n < 1000000) (hq : q.2 + 6 < 6000 + 2) : jE G (80, 18, [some (.ref b), some (.int (Int32.ofNat n)), some (.int (Int32.ofNat 1000))], [], hW h b S A q) = some (none, hW h b S A (wps q (pd1000 n))) := by
  have hd := Nat.div_le_self n 1000
  have hm := Nat.mod_lt (n / 1000) (y := 10) (by decide)
  have ih := N_pd100 (G := G) (h := h) (b := b) (S := S) (A := A) (n := n) (q := wp q (Int32.ofNat (48 + n / 1000 % 10))) hn (show q.2 + 1 + 6 < 6000 + 3 by omega)
  refine Eq.trans ?_ ih
  rw [e_80_18]
  simp (disch := omega) only [e_80_0, e_80_10, e_80_22, e_80_35, e_80_43, rr_w, ↓N_put_b, i_mod2, i_div, Nat.reduceDiv, ↓Option.bind_some, ↓jzo_0b, ↓jzo_1b, ↓jzo_bb, Option.toList_some, Option.toList_none, List.cons_append, List.nil_append, ↓reduceIte, jzo_0, jzo_1, jzo_b, jbi_t, jbi_f, i_add, ↓i_ltP, ↓i_ltN, ↓i_eqP, ↓i_eqN, i_lt, i_eq, jbi_0, pt_lt, pf_lt, pt_eq, pf_eq, pt_le, pf_le, Nat.reduceEqDiff, eq_self, true_or, or_true, false_or, or_false, true_and, and_true, false_and, and_false, jE_sw, jE_sw0]
theorem N_pd1000_b {G : jx_Gv} {h : jx_H} {b : Nat} {S : Nat → Int32} {A : Nat → Nat → Int32} {n : Nat} {q : (Nat → Int32) × Nat} (hn : n < 1000000) (hq : q.2 + 6 < 6000 + 2) {β_ : Type} {f_ : jx_R → Option β_} : (jE G (80, 18, [some (.ref b), some (.int (Int32.ofNat n)), some (.int (Int32.ofNat 1000))], [], hW h b S A q)).bind f_ = f_ ((none, hW h b S A (wps q (pd1000 n)))) := bnd (N_pd1000 hn hq)
def pd10000 (n : Nat) : List Int32 := Int32.ofNat (48 + n / 10000 % 10) :: pd1000 n
theorem N_pd10000 {G : jx_Gv} {h : jx_H} {b : Nat} {S : Nat → Int32} {A : Nat → Nat → Int32} {n : Nat} {q : (Nat → Int32) × Nat} (hn : n < 1000000) (hq : q.2 + 6 < 6000 + 1) : jE G (80, 18, [some (.ref b), some (.int (Int32.ofNat n)), some (.int (Int32.ofNat 10000))], [], hW h b S A q) = some (none, hW h b S A (wps q (pd10000 n))) := by
  have hd := Nat.div_le_self n 10000
  have hm := Nat.mod_lt (n / 10000) (y := 10) (by decide)
  have ih := N_pd1000 (G := G) (h := h) (b := b) (S := S) (A := A) (n := n) (q := wp q (Int32.ofNat (48 + n / 10000 % 10))) hn (show q.2 + 1 + 6 < 6000 + 2 by omega)
  refine Eq.trans ?_ ih
  rw [e_80_18]
  simp (disch := omega) only [e_80_0, e_80_10, e_80_22, e_80_35, e_80_43, rr_w, ↓N_put_b, i_mod2, i_div, Nat.reduceDiv, ↓Option.bind_some, ↓jzo_0b, ↓jzo_1b, ↓jzo_bb, Option.toList_some, Option.toList_none, List.cons_append, List.nil_append, ↓reduceIte, jzo_0, jzo_1, jzo_b, jbi_t, jbi_f, i_add, ↓i_ltP, ↓i_ltN, ↓i_eqP, ↓i_eqN, i_lt, i_eq, jbi_0, pt_lt, pf_lt, pt_eq, pf_eq, pt_le, pf_le, Nat.reduceEqDiff, eq_self, true_or, or_true, false_or, or_false, true_and, and_true, false_and, and_false, jE_sw, jE_sw0]
theorem N_pd10000_b {G : jx_Gv} {h : jx_H} {b : Nat} {S : Nat → Int32} {A : Nat → Nat → Int32} {n : Nat} {q : (Nat → Int32) × Nat} (hn : n < 1000000) (hq : q.2 + 6 < 6000 + 1) {β_ : Type} {f_ : jx_R → Option β_} : (jE G (80, 18, [some (.ref b), some (.int (Int32.ofNat n)), some (.int (Int32.ofNat 10000))], [], hW h b S A q)).bind f_ = f_ ((none, hW h b S A (wps q (pd10000 n)))) := bnd (N_pd10000 hn hq)
def pd100000 (n : Nat) : List Int32 := Int32.ofNat (48 + n / 100000 % 10) :: pd10000 n
theorem N_pd100000 {G : jx_Gv} {h : jx_H} {b : Nat} {S : Nat → Int32} {A : Nat → Nat → Int32} {n : Nat} {q : (Nat → Int32) × Nat} (hn : n < 1000000) (hq : q.2 + 6 < 6000 + 0) : jE G (80, 18, [some (.ref b), some (.int (Int32.ofNat n)), some (.int (Int32.ofNat 100000))], [], hW h b S A q) = some (none, hW h b S A (wps q (pd100000 n))) := by
  have hd := Nat.div_le_self n 100000
  have hm := Nat.mod_lt (n / 100000) (y := 10) (by decide)
  have ih := N_pd10000 (G := G) (h := h) (b := b) (S := S) (A := A) (n := n) (q := wp q (Int32.ofNat (48 + n / 100000 % 10))) hn (show q.2 + 1 + 6 < 6000 + 1 by omega)
  refine Eq.trans ?_ ih
  rw [e_80_18]
  simp (disch := omega) only [e_80_0, e_80_10, e_80_22, e_80_35, e_80_43, rr_w, ↓N_put_b, i_mod2, i_div, Nat.reduceDiv, ↓Option.bind_some, ↓jzo_0b, ↓jzo_1b, ↓jzo_bb, Option.toList_some, Option.toList_none, List.cons_append, List.nil_append, ↓reduceIte, jzo_0, jzo_1, jzo_b, jbi_t, jbi_f, i_add, ↓i_ltP, ↓i_ltN, ↓i_eqP, ↓i_eqN, i_lt, i_eq, jbi_0, pt_lt, pf_lt, pt_eq, pf_eq, pt_le, pf_le, Nat.reduceEqDiff, eq_self, true_or, or_true, false_or, or_false, true_and, and_true, false_and, and_false, jE_sw, jE_sw0]
theorem N_pd100000_b {G : jx_Gv} {h : jx_H} {b : Nat} {S : Nat → Int32} {A : Nat → Nat → Int32} {n : Nat} {q : (Nat → Int32) × Nat} (hn : n < 1000000) (hq : q.2 + 6 < 6000 + 0) {β_ : Type} {f_ : jx_R → Option β_} : (jE G (80, 18, [some (.ref b), some (.int (Int32.ofNat n)), some (.int (Int32.ofNat 100000))], [], hW h b S A q)).bind f_ = f_ ((none, hW h b S A (wps q (pd100000 n)))) := bnd (N_pd100000 hn hq)
theorem N_pw100000 {G : jx_Gv} {h : jx_H} {b : Nat} {S : Nat → Int32} {A : Nat → Nat → Int32} {n : Nat} {q : (Nat → Int32) × Nat} (hn : n < 1000000) (hv : 100000 ≤ n) (hq : q.2 + 6 < 6000) : jE G (80, 2, [some (.ref b), some (.int (Int32.ofNat n)), some (.int (Int32.ofNat 100000))], [], hW h b S A q) = some (none, hW h b S A (wps q (dg100000 n))) := by
  have hd := Nat.div_le_self n 10
  have e : dg100000 n = pd100000 n := by
    unfold dg100000 dg10000 dg1000 dg100 dg10 dg1 pd100000 pd10000 pd1000 pd100 pd10 pd1
    rw [if_neg (by omega), if_neg (by omega), if_neg (by omega), if_neg (by omega), if_neg (by omega)]
  rw [e, ← N_pd100000 (G := G) (h := h) (b := b) (S := S) (A := A) hn (by omega), e_80_2]
  simp (disch := omega) only [e_80_0, e_80_10, e_80_22, e_80_35, e_80_43, i_div, ↓Option.bind_some, ↓jzo_0b, ↓jzo_1b, ↓jzo_bb, Option.toList_some, Option.toList_none, List.cons_append, List.nil_append, ↓reduceIte, jzo_0, jzo_1, jzo_b, jbi_t, jbi_f, i_add, ↓i_ltP, ↓i_ltN, ↓i_eqP, ↓i_eqN, i_lt, i_eq, jbi_0, pt_lt, pf_lt, pt_eq, pf_eq, pt_le, pf_le, Nat.reduceEqDiff, eq_self, true_or, or_true, false_or, or_false, true_and, and_true, false_and, and_false, jE_sw, jE_sw0]
theorem N_pw100000_b {G : jx_Gv} {h : jx_H} {b : Nat} {S : Nat → Int32} {A : Nat → Nat → Int32} {n : Nat} {q : (Nat → Int32) × Nat} (hn : n < 1000000) (hv : 100000 ≤ n) (hq : q.2 + 6 < 6000) {β_ : Type} {f_ : jx_R → Option β_} : (jE G (80, 2, [some (.ref b), some (.int (Int32.ofNat n)), some (.int (Int32.ofNat 100000))], [], hW h b S A q)).bind f_ = f_ ((none, hW h b S A (wps q (dg100000 n)))) := bnd (N_pw100000 hn hv hq)
theorem N_pw10000 {G : jx_Gv} {h : jx_H} {b : Nat} {S : Nat → Int32} {A : Nat → Nat → Int32} {n : Nat} {q : (Nat → Int32) × Nat} (hn : n < 1000000) (hv : 10000 ≤ n) (hq : q.2 + 6 < 6000) : jE G (80, 2, [some (.ref b), some (.int (Int32.ofNat n)), some (.int (Int32.ofNat 10000))], [], hW h b S A q) = some (none, hW h b S A (wps q (dg100000 n))) := by
  have hd := Nat.div_le_self n 10
  by_cases c : n < 100000
  · have e : dg100000 n = pd10000 n := by
      unfold dg100000 dg10000 dg1000 dg100 dg10 dg1 pd10000 pd1000 pd100 pd10 pd1
      rw [if_pos (by omega), if_neg (by omega), if_neg (by omega), if_neg (by omega), if_neg (by omega)]
    rw [e, ← N_pd10000 (G := G) (h := h) (b := b) (S := S) (A := A) hn (by omega), e_80_2]
    simp (disch := omega) only [e_80_0, e_80_10, e_80_22, e_80_35, e_80_43, i_div, ↓Option.bind_some, ↓jzo_0b, ↓jzo_1b, ↓jzo_bb, Option.toList_some, Option.toList_none, List.cons_append, List.nil_append, ↓reduceIte, jzo_0, jzo_1, jzo_b, jbi_t, jbi_f, i_add, ↓i_ltP, ↓i_ltN, ↓i_eqP, ↓i_eqN, i_lt, i_eq, jbi_0, pt_lt, pf_lt, pt_eq, pf_eq, pt_le, pf_le, Nat.reduceEqDiff, eq_self, true_or, or_true, false_or, or_false, true_and, and_true, false_and, and_false, jE_sw, jE_sw0]
  · rw [← N_pw100000 (G := G) (h := h) (b := b) (S := S) (A := A) hn (by omega) hq, e_80_2]
    simp (disch := omega) only [e_80_0, e_80_10, e_80_22, e_80_35, e_80_43, i_div, i_mul, Nat.reduceMul, ↓Option.bind_some, ↓jzo_0b, ↓jzo_1b, ↓jzo_bb, Option.toList_some, Option.toList_none, List.cons_append, List.nil_append, ↓reduceIte, jzo_0, jzo_1, jzo_b, jbi_t, jbi_f, i_add, ↓i_ltP, ↓i_ltN, ↓i_eqP, ↓i_eqN, i_lt, i_eq, jbi_0, pt_lt, pf_lt, pt_eq, pf_eq, pt_le, pf_le, Nat.reduceEqDiff, eq_self, true_or, or_true, false_or, or_false, true_and, and_true, false_and, and_false, jE_sw, jE_sw0]
theorem N_pw10000_b {G : jx_Gv} {h : jx_H} {b : Nat} {S : Nat → Int32} {A : Nat → Nat → Int32} {n : Nat} {q : (Nat → Int32) × Nat} (hn : n < 1000000) (hv : 10000 ≤ n) (hq : q.2 + 6 < 6000) {β_ : Type} {f_ : jx_R → Option β_} : (jE G (80, 2, [some (.ref b), some (.int (Int32.ofNat n)), some (.int (Int32.ofNat 10000))], [], hW h b S A q)).bind f_ = f_ ((none, hW h b S A (wps q (dg100000 n)))) := bnd (N_pw10000 hn hv hq)
theorem N_pw1000 {G : jx_Gv} {h : jx_H} {b : Nat} {S : Nat → Int32} {A : Nat → Nat → Int32} {n : Nat} {q : (Nat → Int32) × Nat} (hn : n < 1000000) (hv : 1000 ≤ n) (hq : q.2 + 6 < 6000) : jE G (80, 2, [some (.ref b), some (.int (Int32.ofNat n)), some (.int (Int32.ofNat 1000))], [], hW h b S A q) = some (none, hW h b S A (wps q (dg100000 n))) := by
  have hd := Nat.div_le_self n 10
  by_cases c : n < 10000
  · have e : dg100000 n = pd1000 n := by
      unfold dg100000 dg10000 dg1000 dg100 dg10 dg1 pd1000 pd100 pd10 pd1
      rw [if_pos (by omega), if_pos (by omega), if_neg (by omega), if_neg (by omega), if_neg (by omega)]
    rw [e, ← N_pd1000 (G := G) (h := h) (b := b) (S := S) (A := A) hn (by omega), e_80_2]
    simp (disch := omega) only [e_80_0, e_80_10, e_80_22, e_80_35, e_80_43, i_div, ↓Option.bind_some, ↓jzo_0b, ↓jzo_1b, ↓jzo_bb, Option.toList_some, Option.toList_none, List.cons_append, List.nil_append, ↓reduceIte, jzo_0, jzo_1, jzo_b, jbi_t, jbi_f, i_add, ↓i_ltP, ↓i_ltN, ↓i_eqP, ↓i_eqN, i_lt, i_eq, jbi_0, pt_lt, pf_lt, pt_eq, pf_eq, pt_le, pf_le, Nat.reduceEqDiff, eq_self, true_or, or_true, false_or, or_false, true_and, and_true, false_and, and_false, jE_sw, jE_sw0]
  · rw [← N_pw10000 (G := G) (h := h) (b := b) (S := S) (A := A) hn (by omega) hq, e_80_2]
    simp (disch := omega) only [e_80_0, e_80_10, e_80_22, e_80_35, e_80_43, i_div, i_mul, Nat.reduceMul, ↓Option.bind_some, ↓jzo_0b, ↓jzo_1b, ↓jzo_bb, Option.toList_some, Option.toList_none, List.cons_append, List.nil_append, ↓reduceIte, jzo_0, jzo_1, jzo_b, jbi_t, jbi_f, i_add, ↓i_ltP, ↓i_ltN, ↓i_eqP, ↓i_eqN, i_lt, i_eq, jbi_0, pt_lt, pf_lt, pt_eq, pf_eq, pt_le, pf_le, Nat.reduceEqDiff, eq_self, true_or, or_true, false_or, or_false, true_and, and_true, false_and, and_false, jE_sw, jE_sw0]
theorem N_pw1000_b {G : jx_Gv} {h : jx_H} {b : Nat} {S : Nat → Int32} {A : Nat → Nat → Int32} {n : Nat} {q : (Nat → Int32) × Nat} (hn : n < 1000000) (hv : 1000 ≤ n) (hq : q.2 + 6 < 6000) {β_ : Type} {f_ : jx_R → Option β_} : (jE G (80, 2, [some (.ref b), some (.int (Int32.ofNat n)), some (.int (Int32.ofNat 1000))], [], hW h b S A q)).bind f_ = f_ ((none, hW h b S A (wps q (dg100000 n)))) := bnd (N_pw1000 hn hv hq)
theorem N_pw100 {G : jx_Gv} {h : jx_H} {b : Nat} {S : Nat → Int32} {A : Nat → Nat → Int32} {n : Nat} {q : (Nat → Int32) × Nat} (hn : n < 1000000) (hv : 100 ≤ n) (hq : q.2 + 6 < 6000) : jE G (80, 2, [some (.ref b), some (.int (Int32.ofNat n)), some (.int (Int32.ofNat 100))], [], hW h b S A q) = some (none, hW h b S A (wps q (dg100000 n))) := by
  have hd := Nat.div_le_self n 10
  by_cases c : n < 1000
  · have e : dg100000 n = pd100 n := by
      unfold dg100000 dg10000 dg1000 dg100 dg10 dg1 pd100 pd10 pd1
      rw [if_pos (by omega), if_pos (by omega), if_pos (by omega), if_neg (by omega), if_neg (by omega)]
    rw [e, ← N_pd100 (G := G) (h := h) (b := b) (S := S) (A := A) hn (by omega), e_80_2]
    simp (disch := omega) only [e_80_0, e_80_10, e_80_22, e_80_35, e_80_43, i_div, ↓Option.bind_some, ↓jzo_0b, ↓jzo_1b, ↓jzo_bb, Option.toList_some, Option.toList_none, List.cons_append, List.nil_append, ↓reduceIte, jzo_0, jzo_1, jzo_b, jbi_t, jbi_f, i_add, ↓i_ltP, ↓i_ltN, ↓i_eqP, ↓i_eqN, i_lt, i_eq, jbi_0, pt_lt, pf_lt, pt_eq, pf_eq, pt_le, pf_le, Nat.reduceEqDiff, eq_self, true_or, or_true, false_or, or_false, true_and, and_true, false_and, and_false, jE_sw, jE_sw0]
  · rw [← N_pw1000 (G := G) (h := h) (b := b) (S := S) (A := A) hn (by omega) hq, e_80_2]
    simp (disch := omega) only [e_80_0, e_80_10, e_80_22, e_80_35, e_80_43, i_div, i_mul, Nat.reduceMul, ↓Option.bind_some, ↓jzo_0b, ↓jzo_1b, ↓jzo_bb, Option.toList_some, Option.toList_none, List.cons_append, List.nil_append, ↓reduceIte, jzo_0, jzo_1, jzo_b, jbi_t, jbi_f, i_add, ↓i_ltP, ↓i_ltN, ↓i_eqP, ↓i_eqN, i_lt, i_eq, jbi_0, pt_lt, pf_lt, pt_eq, pf_eq, pt_le, pf_le, Nat.reduceEqDiff, eq_self, true_or, or_true, false_or, or_false, true_and, and_true, false_and, and_false, jE_sw, jE_sw0]
theorem N_pw100_b {G : jx_Gv} {h : jx_H} {b : Nat} {S : Nat → Int32} {A : Nat → Nat → Int32} {n : Nat} {q : (Nat → Int32) × Nat} (hn : n < 1000000) (hv : 100 ≤ n) (hq : q.2 + 6 < 6000) {β_ : Type} {f_ : jx_R → Option β_} : (jE G (80, 2, [some (.ref b), some (.int (Int32.ofNat n)), some (.int (Int32.ofNat 100))], [], hW h b S A q)).bind f_ = f_ ((none, hW h b S A (wps q (dg100000 n)))) := bnd (N_pw100 hn hv hq)
theorem N_pw10 {G : jx_Gv} {h : jx_H} {b : Nat} {S : Nat → Int32} {A : Nat → Nat → Int32} {n : Nat} {q : (Nat → Int32) × Nat} (hn : n < 1000000) (hv : 10 ≤ n) (hq : q.2 + 6 < 6000) : jE G (80, 2, [some (.ref b), some (.int (Int32.ofNat n)), some (.int (Int32.ofNat 10))], [], hW h b S A q) = some (none, hW h b S A (wps q (dg100000 n))) := by
  have hd := Nat.div_le_self n 10
  by_cases c : n < 100
  · have e : dg100000 n = pd10 n := by
      unfold dg100000 dg10000 dg1000 dg100 dg10 dg1 pd10 pd1
      rw [if_pos (by omega), if_pos (by omega), if_pos (by omega), if_pos (by omega), if_neg (by omega)]
    rw [e, ← N_pd10 (G := G) (h := h) (b := b) (S := S) (A := A) hn (by omega), e_80_2]
    simp (disch := omega) only [e_80_0, e_80_10, e_80_22, e_80_35, e_80_43, i_div, ↓Option.bind_some, ↓jzo_0b, ↓jzo_1b, ↓jzo_bb, Option.toList_some, Option.toList_none, List.cons_append, List.nil_append, ↓reduceIte, jzo_0, jzo_1, jzo_b, jbi_t, jbi_f, i_add, ↓i_ltP, ↓i_ltN, ↓i_eqP, ↓i_eqN, i_lt, i_eq, jbi_0, pt_lt, pf_lt, pt_eq, pf_eq, pt_le, pf_le, Nat.reduceEqDiff, eq_self, true_or, or_true, false_or, or_false, true_and, and_true, false_and, and_false, jE_sw, jE_sw0]
  · rw [← N_pw100 (G := G) (h := h) (b := b) (S := S) (A := A) hn (by omega) hq, e_80_2]
    simp (disch := omega) only [e_80_0, e_80_10, e_80_22, e_80_35, e_80_43, i_div, i_mul, Nat.reduceMul, ↓Option.bind_some, ↓jzo_0b, ↓jzo_1b, ↓jzo_bb, Option.toList_some, Option.toList_none, List.cons_append, List.nil_append, ↓reduceIte, jzo_0, jzo_1, jzo_b, jbi_t, jbi_f, i_add, ↓i_ltP, ↓i_ltN, ↓i_eqP, ↓i_eqN, i_lt, i_eq, jbi_0, pt_lt, pf_lt, pt_eq, pf_eq, pt_le, pf_le, Nat.reduceEqDiff, eq_self, true_or, or_true, false_or, or_false, true_and, and_true, false_and, and_false, jE_sw, jE_sw0]
theorem N_pw10_b {G : jx_Gv} {h : jx_H} {b : Nat} {S : Nat → Int32} {A : Nat → Nat → Int32} {n : Nat} {q : (Nat → Int32) × Nat} (hn : n < 1000000) (hv : 10 ≤ n) (hq : q.2 + 6 < 6000) {β_ : Type} {f_ : jx_R → Option β_} : (jE G (80, 2, [some (.ref b), some (.int (Int32.ofNat n)), some (.int (Int32.ofNat 10))], [], hW h b S A q)).bind f_ = f_ ((none, hW h b S A (wps q (dg100000 n)))) := bnd (N_pw10 hn hv hq)
theorem N_pw1 {G : jx_Gv} {h : jx_H} {b : Nat} {S : Nat → Int32} {A : Nat → Nat → Int32} {n : Nat} {q : (Nat → Int32) × Nat} (hn : n < 1000000) (hv : 1 ≤ n ∨ n = 0) (hq : q.2 + 6 < 6000) : jE G (80, 2, [some (.ref b), some (.int (Int32.ofNat n)), some (.int (Int32.ofNat 1))], [], hW h b S A q) = some (none, hW h b S A (wps q (dg100000 n))) := by
  have hd := Nat.div_le_self n 10
  by_cases c : n < 10
  · have e : dg100000 n = pd1 n := by
      unfold dg100000 dg10000 dg1000 dg100 dg10 dg1 pd1
      rw [if_pos (by omega), if_pos (by omega), if_pos (by omega), if_pos (by omega), if_pos (by omega)]
    rw [e, ← N_pd1 (G := G) (h := h) (b := b) (S := S) (A := A) hn (by omega), e_80_2]
    simp (disch := omega) only [e_80_0, e_80_10, e_80_22, e_80_35, e_80_43, i_div, ↓Option.bind_some, ↓jzo_0b, ↓jzo_1b, ↓jzo_bb, Option.toList_some, Option.toList_none, List.cons_append, List.nil_append, ↓reduceIte, jzo_0, jzo_1, jzo_b, jbi_t, jbi_f, i_add, ↓i_ltP, ↓i_ltN, ↓i_eqP, ↓i_eqN, i_lt, i_eq, jbi_0, pt_lt, pf_lt, pt_eq, pf_eq, pt_le, pf_le, Nat.reduceEqDiff, eq_self, true_or, or_true, false_or, or_false, true_and, and_true, false_and, and_false, jE_sw, jE_sw0]
  · rw [← N_pw10 (G := G) (h := h) (b := b) (S := S) (A := A) hn (by omega) hq, e_80_2]
    simp (disch := omega) only [e_80_0, e_80_10, e_80_22, e_80_35, e_80_43, i_div, i_mul, Nat.reduceMul, ↓Option.bind_some, ↓jzo_0b, ↓jzo_1b, ↓jzo_bb, Option.toList_some, Option.toList_none, List.cons_append, List.nil_append, ↓reduceIte, jzo_0, jzo_1, jzo_b, jbi_t, jbi_f, i_add, ↓i_ltP, ↓i_ltN, ↓i_eqP, ↓i_eqN, i_lt, i_eq, jbi_0, pt_lt, pf_lt, pt_eq, pf_eq, pt_le, pf_le, Nat.reduceEqDiff, eq_self, true_or, or_true, false_or, or_false, true_and, and_true, false_and, and_false, jE_sw, jE_sw0]
theorem N_pw1_b {G : jx_Gv} {h : jx_H} {b : Nat} {S : Nat → Int32} {A : Nat → Nat → Int32} {n : Nat} {q : (Nat → Int32) × Nat} (hn : n < 1000000) (hv : 1 ≤ n ∨ n = 0) (hq : q.2 + 6 < 6000) {β_ : Type} {f_ : jx_R → Option β_} : (jE G (80, 2, [some (.ref b), some (.int (Int32.ofNat n)), some (.int (Int32.ofNat 1))], [], hW h b S A q)).bind f_ = f_ ((none, hW h b S A (wps q (dg100000 n)))) := bnd (N_pw1 hn hv hq)
theorem N_putNumber {G : jx_Gv} {h : jx_H} {b : Nat} {S : Nat → Int32} {A : Nat → Nat → Int32} {n : Nat} {q : (Nat → Int32) × Nat} (hn : n < 1000000) (hq : q.2 + 6 < 6000) : jE G (80, 0, [some (.ref b), some (.int (Int32.ofNat n)), none], [], hW h b S A q) = some (none, hW h b S A (wps q (dg100000 n))) := by
  simp (disch := omega) only [e_80_0, e_80_10, e_80_22, e_80_35, e_80_43]
  exact N_pw1 hn (by omega) hq

theorem N_putNumber_b {G : jx_Gv} {h : jx_H} {b : Nat} {S : Nat → Int32} {A : Nat → Nat → Int32} {n : Nat} {q : (Nat → Int32) × Nat} (hn : n < 1000000) (hq : q.2 + 6 < 6000) {β_ : Type} {f_ : jx_R → Option β_} : (jE G (80, 0, [some (.ref b), some (.int (Int32.ofNat n)), none], [], hW h b S A q)).bind f_ = f_ ((none, hW h b S A (wps q (dg100000 n)))) := bnd (N_putNumber hn hq)