/-! SIGN, AT AND PRINT OF THE CLASS -/
/-- the object: its text, writer, rules, editions -/
def jPt (h : jx_H) (o t d u l s : Nat) (kept hand : Int32) : Prop := h.2.2 o = some (.inl (0, [.ref t, .ref d, .ref u, .ref l, .ref s, .int kept, .int hand]))
section JPT
variable {h : jx_H} {o t d u l s : Nat} {kept hand : Int32} {av : List Value}
theorem pt_rv (q : jPt h o t d u l s kept hand) : jx_recv h (.ref o :: av) (some 0) = true := c_rv q
theorem pt_f0 (q : jPt h o t d u l s kept hand) : jx_fA h o 0 0 = some t := c_fA q rfl
theorem pt_f0_b (q : jPt h o t d u l s kept hand) {β_ : Type} {f_ : Nat → Option β_} : (jx_fA h o 0 0).bind f_ = f_ (t) := bnd (pt_f0 q)
theorem pt_f1 (q : jPt h o t d u l s kept hand) : jx_fA h o 0 1 = some d := c_fA q rfl
theorem pt_f1_b (q : jPt h o t d u l s kept hand) {β_ : Type} {f_ : Nat → Option β_} : (jx_fA h o 0 1).bind f_ = f_ (d) := bnd (pt_f1 q)
theorem pt_f2 (q : jPt h o t d u l s kept hand) : jx_fA h o 0 2 = some u := c_fA q rfl
theorem pt_f2_b (q : jPt h o t d u l s kept hand) {β_ : Type} {f_ : Nat → Option β_} : (jx_fA h o 0 2).bind f_ = f_ (u) := bnd (pt_f2 q)
theorem pt_f3 (q : jPt h o t d u l s kept hand) : jx_fA h o 0 3 = some l := c_fA q rfl
theorem pt_f3_b (q : jPt h o t d u l s kept hand) {β_ : Type} {f_ : Nat → Option β_} : (jx_fA h o 0 3).bind f_ = f_ (l) := bnd (pt_f3 q)
theorem pt_f4 (q : jPt h o t d u l s kept hand) : jx_fA h o 0 4 = some s := c_fA q rfl
theorem pt_f4_b (q : jPt h o t d u l s kept hand) {β_ : Type} {f_ : Nat → Option β_} : (jx_fA h o 0 4).bind f_ = f_ (s) := bnd (pt_f4 q)
theorem pt_f5 (q : jPt h o t d u l s kept hand) : jx_fI h o 0 5 = some kept := c_fI q rfl
theorem pt_f5_b (q : jPt h o t d u l s kept hand) {β_ : Type} {f_ : Int32 → Option β_} : (jx_fI h o 0 5).bind f_ = f_ (kept) := bnd (pt_f5 q)
theorem pt_f6 (q : jPt h o t d u l s kept hand) : jx_fI h o 0 6 = some hand := c_fI q rfl
theorem pt_f6_b (q : jPt h o t d u l s kept hand) {β_ : Type} {f_ : Int32 → Option β_} : (jx_fI h o 0 6).bind f_ = f_ (hand) := bnd (pt_f6 q)
end JPT
theorem jPt_hT {h : jx_H} {o t d u l s : Nat} {kept hand : Int32} {T : jTt} (q : jPt h o t d u l s kept hand) (ho : o < t) : jPt (hT h t T) o t d u l s kept hand := by unfold jPt; rw [hT_ne (by omega) (by omega)]; exact q
theorem P_at {G : jx_Gv} {h : jx_H} {t : Nat} {f : Nat → Int32} {len : Nat} {ov : Bool} (hT : jTx h t f len ov) {o d u l s : Nat} {kept hand : Int32} (hP : jPt h o t d u l s kept hand) {x : Int32} : jE G (182, 0, [some (.ref o), some (.int x)], [], h) = some (some (.int (if x < Int32.ofNat 0 then -(Int32.ofNat 1) else toc f len x.toNatClampNeg)), h) := by
  simp (disch := omega) only [e_182_0, e_182_8, ↓pt_f0_b hP, tx_rv hT, ↓T_octetR_b hT, ↓Option.bind_some, ↓jzo_0b, ↓jzo_1b, ↓jzo_bb, Option.toList_some, Option.toList_none, List.cons_append, List.nil_append, ↓reduceIte, jzo_0, jzo_1, jzo_b, jbi_t, jbi_f, i_add, ↓i_ltP, ↓i_ltN, ↓i_eqP, ↓i_eqN, i_lt, i_eq, jbi_0, pt_lt, pf_lt, pt_eq, pf_eq, pt_le, pf_le, Nat.reduceEqDiff, eq_self, true_or, or_true, false_or, or_false, true_and, and_true, false_and, and_false, jE_sw, jE_sw0]
theorem P_at_b {G : jx_Gv} {h : jx_H} {t : Nat} {f : Nat → Int32} {len : Nat} {ov : Bool} (hT : jTx h t f len ov) {o d u l s : Nat} {kept hand : Int32} (hP : jPt h o t d u l s kept hand) {x : Int32} {β_ : Type} {f_ : jx_R → Option β_} : (jE G (182, 0, [some (.ref o), some (.int x)], [], h)).bind f_ = f_ ((some (.int (if x < Int32.ofNat 0 then -(Int32.ofNat 1) else toc f len x.toNatClampNeg)), h)) := bnd (P_at hT hP)
/-- the octets of one int, from the top -/
def soct (c : Int32) (k : Nat) : Int32 := (Int32.toUInt32 c >>> (Int32.toUInt32 (Int32.ofNat k) &&& Int32.toUInt32 31)).toInt32 &&& Int32.ofNat 255
def sign1 (T : jTt) (c : Int32) (k : Nat) : jTt := if soct c k = Int32.ofNat 0 then T else tput T (soct c k)
theorem sign1_le {T : jTt} {c : Int32} {k : Nat} (h : T.2.1 ≤ 2000) : (sign1 T c k).2.1 ≤ 2000 := by
  unfold sign1
  split
  · exact h
  · exact tput_le h
def signs (T : jTt) (c : Int32) : jTt := sign1 (sign1 (sign1 (sign1 T c 24) c 16) c 8) c 0
theorem P_sg {G : jx_Gv} {h : jx_H} {o t d u l s : Nat} {kept hand : Int32} (hP : jPt h o t d u l s kept hand) (ho : o < t) {c : Int32} {k : Nat} {T : jTt} {z3 : Option Value} (hk : k ≤ 24) (hl : T.2.1 ≤ 2000) : ∃ z3', jE G (19, 3, [some (.ref o), some (.int c), some (.int (Int32.ofNat k)), z3], [], hT h t T) = jE G (19, 3, [some (.ref o), some (.int c), some (.int (Int32.ofNat k + -(Int32.ofNat 8))), z3'], [], hT h t (sign1 T c k)) := by
  have hP' := jPt_hT (T := T) hP ho
  have hx := hT_tx (h := h) (t := t) hl
  unfold sign1
  by_cases c1 : soct c k = Int32.ofNat 0
  · refine ⟨some (.int (Int32.ofNat 0)), ?_⟩
    rw [if_pos c1, e_19_3]
    have c2 := c1
    unfold soct at c2
    simp (disch := omega) only [e_19_0, e_19_7, e_19_19, e_19_27, e_19_33, ↓Option.bind_some, ↓jzo_0b, ↓jzo_1b, ↓jzo_bb, Option.toList_some, Option.toList_none, List.cons_append, List.nil_append, ↓reduceIte, jzo_0, jzo_1, jzo_b, jbi_t, jbi_f, i_add, ↓i_ltP, ↓i_ltN, ↓i_eqP, ↓i_eqN, i_lt, i_eq, jbi_0, pt_lt, pf_lt, pt_eq, pf_eq, pt_le, pf_le, Nat.reduceEqDiff, eq_self, true_or, or_true, false_or, or_false, true_and, and_true, false_and, and_false, jE_sw, jE_sw0, c2]
  · refine ⟨some (.int (soct c k)), ?_⟩
    rw [if_neg c1, e_19_3]
    have c2 := c1
    unfold soct at c2 ⊢
    simp (disch := omega) only [e_19_0, e_19_7, e_19_19, e_19_27, e_19_33, ↓pt_f0_b hP', tx_rv hx, ↓T_add_b, ↓Option.bind_some, ↓jzo_0b, ↓jzo_1b, ↓jzo_bb, Option.toList_some, Option.toList_none, List.cons_append, List.nil_append, ↓reduceIte, jzo_0, jzo_1, jzo_b, jbi_t, jbi_f, i_add, ↓i_ltP, ↓i_ltN, ↓i_eqP, ↓i_eqN, i_lt, i_eq, jbi_0, pt_lt, pf_lt, pt_eq, pf_eq, pt_le, pf_le, Nat.reduceEqDiff, eq_self, true_or, or_true, false_or, or_false, true_and, and_true, false_and, and_false, jE_sw, jE_sw0, c2]
theorem P_sign {G : jx_Gv} {h : jx_H} {o t d u l s : Nat} {kept hand : Int32} (hP : jPt h o t d u l s kept hand) (ho : o < t) {c : Int32} {T : jTt} (hl : T.2.1 ≤ 2000) : jE G (19, 0, [some (.ref o), some (.int c), none, none], [], hT h t T) = some (none, hT h t (signs T c)) := by
  obtain ⟨z1, e1⟩ := P_sg (G := G) hP ho (c := c) (k := 24) (T := T) (z3 := none) (by omega) hl
  obtain ⟨z2, e2⟩ := P_sg (G := G) hP ho (c := c) (k := 16) (T := sign1 T c 24) (z3 := z1) (by omega) (sign1_le hl)
  obtain ⟨z3, e3⟩ := P_sg (G := G) hP ho (c := c) (k := 8) (T := sign1 (sign1 T c 24) c 16) (z3 := z2) (by omega) (sign1_le (sign1_le hl))
  obtain ⟨z4, e4⟩ := P_sg (G := G) hP ho (c := c) (k := 0) (T := sign1 (sign1 (sign1 T c 24) c 16) c 8) (z3 := z3) (by omega) (sign1_le (sign1_le (sign1_le hl)))
  simp (disch := omega) only [e_19_0, e_19_7, e_19_19, e_19_27, e_19_33]
  rw [e1, show Int32.ofNat 24 + -(Int32.ofNat 8) = Int32.ofNat 16 by decide, e2, show Int32.ofNat 16 + -(Int32.ofNat 8) = Int32.ofNat 8 by decide, e3, show Int32.ofNat 8 + -(Int32.ofNat 8) = Int32.ofNat 0 by decide, e4, e_19_3]
  have q : (Int32.ofNat 0 + -(Int32.ofNat 8) < Int32.ofNat 0) = True := eq_true (by decide)
  simp (disch := omega) only [e_19_0, e_19_7, e_19_19, e_19_27, e_19_33, q, ↓Option.bind_some, ↓jzo_0b, ↓jzo_1b, ↓jzo_bb, Option.toList_some, Option.toList_none, List.cons_append, List.nil_append, ↓reduceIte, jzo_0, jzo_1, jzo_b, jbi_t, jbi_f, i_add, ↓i_ltP, ↓i_ltN, ↓i_eqP, ↓i_eqN, i_lt, i_eq, jbi_0, pt_lt, pf_lt, pt_eq, pf_eq, pt_le, pf_le, Nat.reduceEqDiff, eq_self, true_or, or_true, false_or, or_false, true_and, and_true, false_and, and_false, jE_sw, jE_sw0]
  rfl
theorem P_sign_b {G : jx_Gv} {h : jx_H} {o t d u l s : Nat} {kept hand : Int32} (hP : jPt h o t d u l s kept hand) (ho : o < t) {c : Int32} {T : jTt} (hl : T.2.1 ≤ 2000) {β_ : Type} {f_ : jx_R → Option β_} : (jE G (19, 0, [some (.ref o), some (.int c), none, none], [], hT h t T)).bind f_ = f_ ((none, hT h t (signs T c))) := bnd (P_sign hP ho hl)
theorem P_print {G : jx_Gv} {h : jx_H} {a t u w : Nat} {X : jX} {wn : Nat → Int64} (hE : jEd h a X) (hW : xWF X) (hr : jWr h u t w) (hD : jWd h w wn) (hN : xNum X) (hta : t + 1 < a) (htu : t + 1 < u) (hwt : w + 1 < t) {o d l s : Nat} {kept hand : Int32} (hP : jPt h o t d u l s kept hand) (ho : o < t) {T : jTt} (hl : T.2.1 ≤ 2000) (hI : jE G (106, 0, [some (.ref o)], [], hT h t T) = some (some (.ref a), hT h t T)) : jE G (180, 0, [some (.ref o), none], [], hT h t T) = some (some (.int (cond (tputs (T.1, 0, false) (rowsO wn X (xRc X) 0)).2.2 (-(Int32.ofNat 4)) (Int32.ofNat (tputs (T.1, 0, false) (rowsO wn X (xRc X) 0)).2.1))), hT h t (cond (tputs (T.1, 0, false) (rowsO wn X (xRc X) 0)).2.2 ((tputs (T.1, 0, false) (rowsO wn X (xRc X) 0)).1, 0, false) (tputs (T.1, 0, false) (rowsO wn X (xRc X) 0)))) := by
  have hP' := jPt_hT (T := T) hP ho
  have hr' := jWr_hT (T := T) hr htu
  have hE' := jEd_hT (T := T) hE hta
  have q := V_write (G := G) hE hW hr hD hN hta htu hwt (T := T) hl
  have hl2 : (tputs (T.1, 0, false) (rowsO wn X (xRc X) 0)).2.1 ≤ 2000 := tputs_le (Nat.zero_le _)
  generalize tputs (T.1, 0, false) (rowsO wn X (xRc X) 0) = T2 at *
  have hP2 := jPt_hT (T := T2) hP ho
  have hx2 := hT_tx (h := h) (t := t) hl2
  have q' := fun {β : Type} {f : jx_R → Option β} => bnd (f := f) q
  have hI' := fun {β : Type} {f : jx_R → Option β} => bnd (f := f) hI
  cases c : T2.2.2
  · simp (disch := omega) only [e_180_0, e_180_4r, e_180_4n, e_180_9r, e_180_9n, e_180_12r, e_180_12n, e_180_20r, e_180_20n, e_180_27r, e_180_27n, e_180_30r, e_180_30n, e_180_37r, e_180_37n, e_180_40r, e_180_40n, e_180_47r, e_180_47n, pt_rv hP', ↓hI', ↓pt_f2_b hP', wr_rv hr', ↓q', ↓pt_f0_b hP2, tx_rv hx2, ↓T_isOverfull_b hx2, ↓T_length_b hx2, c, ↓Option.bind_some, ↓jzo_0b, ↓jzo_1b, ↓jzo_bb, Option.toList_some, Option.toList_none, List.cons_append, List.nil_append, ↓reduceIte, jzo_0, jzo_1, jzo_b, jbi_t, jbi_f, i_add, ↓i_ltP, ↓i_ltN, ↓i_eqP, ↓i_eqN, i_lt, i_eq, jbi_0, pt_lt, pf_lt, pt_eq, pf_eq, pt_le, pf_le, Nat.reduceEqDiff, eq_self, true_or, or_true, false_or, or_false, true_and, and_true, false_and, and_false, jE_sw, jE_sw0, cond_false]
  · simp (disch := omega) only [e_180_0, e_180_4r, e_180_4n, e_180_9r, e_180_9n, e_180_12r, e_180_12n, e_180_20r, e_180_20n, e_180_27r, e_180_27n, e_180_30r, e_180_30n, e_180_37r, e_180_37n, e_180_40r, e_180_40n, e_180_47r, e_180_47n, pt_rv hP', ↓hI', ↓pt_f2_b hP', wr_rv hr', ↓q', ↓pt_f0_b hP2, tx_rv hx2, ↓T_isOverfull_b hx2, ↓T_clear_b, c, ↓Option.bind_some, ↓jzo_0b, ↓jzo_1b, ↓jzo_bb, Option.toList_some, Option.toList_none, List.cons_append, List.nil_append, ↓reduceIte, jzo_0, jzo_1, jzo_b, jbi_t, jbi_f, i_add, ↓i_ltP, ↓i_ltN, ↓i_eqP, ↓i_eqN, i_lt, i_eq, jbi_0, pt_lt, pf_lt, pt_eq, pf_eq, pt_le, pf_le, Nat.reduceEqDiff, eq_self, true_or, or_true, false_or, or_false, true_and, and_true, false_and, and_false, jE_sw, jE_sw0, cond_true]

theorem P_print_b {G : jx_Gv} {h : jx_H} {a t u w : Nat} {X : jX} {wn : Nat → Int64} (hE : jEd h a X) (hW : xWF X) (hr : jWr h u t w) (hD : jWd h w wn) (hN : xNum X) (hta : t + 1 < a) (htu : t + 1 < u) (hwt : w + 1 < t) {o d l s : Nat} {kept hand : Int32} (hP : jPt h o t d u l s kept hand) (ho : o < t) {T : jTt} (hl : T.2.1 ≤ 2000) (hI : jE G (106, 0, [some (.ref o)], [], hT h t T) = some (some (.ref a), hT h t T)) {β_ : Type} {f_ : jx_R → Option β_} : (jE G (180, 0, [some (.ref o), none], [], hT h t T)).bind f_ = f_ ((some (.int (cond (tputs (T.1, 0, false) (rowsO wn X (xRc X) 0)).2.2 (-(Int32.ofNat 4)) (Int32.ofNat (tputs (T.1, 0, false) (rowsO wn X (xRc X) 0)).2.1))), hT h t (cond (tputs (T.1, 0, false) (rowsO wn X (xRc X) 0)).2.2 ((tputs (T.1, 0, false) (rowsO wn X (xRc X) 0)).1, 0, false) (tputs (T.1, 0, false) (rowsO wn X (xRc X) 0))))) := bnd (P_print hE hW hr hD hN hta htu hwt hP ho hl hI)