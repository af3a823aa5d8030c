/-! A ROW IS WRITTEN -/
def jWd (h : jx_H) (w : Nat) (wn : Nat → Int64) : Prop := h.2.2 w = some (.inl (2, [.ref (w + 1)])) ∧ h.2.2 (w + 1) = some (.inr (1, 16, .inr (.inl wn)))
section JWD
variable {h : jx_H} {w i : Nat} {wn : Nat → Int64} {l : List Value}
theorem wd_rv (q : jWd h w wn) : jx_recv h (.ref w :: l) (some 2) = true := c_rv q.1
theorem wd_f (q : jWd h w wn) : jx_fA h w 2 0 = some (w + 1) := c_fA q.1 rfl
theorem wd_f_b (q : jWd h w wn) {β_ : Type} {f_ : Nat → Option β_} : (jx_fA h w 2 0).bind f_ = f_ ((w + 1)) := bnd (wd_f q)
theorem wd_n (q : jWd h w wn) : jx_len h 1 (w + 1) = some 16 := c_len q.2
theorem wd_n_b (q : jWd h w wn) {β_ : Type} {f_ : Nat → Option β_} : (jx_len h 1 (w + 1)).bind f_ = f_ (16) := bnd (wd_n q)
theorem wd_a (q : jWd h w wn) (hi : i < 16) : jx_aJ h 1 (w + 1) (Int32.ofNat i) = some (wn i) := c_aJ q.2 (by decide) hi
theorem wd_a_b (q : jWd h w wn) (hi : i < 16) {β_ : Type} {f_ : Int64 → Option β_} : (jx_aJ h 1 (w + 1) (Int32.ofNat i)).bind f_ = f_ ((wn i)) := bnd (wd_a q hi)
end JWD
theorem jWd_hT {h : jx_H} {w t : Nat} {wn : Nat → Int64} {T : jTt} (q : jWd h w wn) (hw : w + 1 < t) : jWd (hT h t T) w wn := ⟨by rw [hT_ne (by omega) (by omega)]; exact q.1, by rw [hT_ne (by omega) (by omega)]; exact q.2⟩
def jWr (h : jx_H) (r t w : Nat) : Prop := h.2.2 r = some (.inl (5, [.ref t, .ref w]))
theorem wr_rv {h : jx_H} {r t w : Nat} {l : List Value} (q : jWr h r t w) : jx_recv h (.ref r :: l) (some 5) = true := c_rv q
theorem wr_f0 {h : jx_H} {r t w : Nat} (q : jWr h r t w) : jx_fA h r 5 0 = some t := c_fA q rfl
theorem wr_f0_b {h : jx_H} {r t w : Nat} (q : jWr h r t w) {β_ : Type} {f_ : Nat → Option β_} : (jx_fA h r 5 0).bind f_ = f_ (t) := bnd (wr_f0 q)
theorem wr_f1 {h : jx_H} {r t w : Nat} (q : jWr h r t w) : jx_fA h r 5 1 = some w := c_fA q rfl
theorem wr_f1_b {h : jx_H} {r t w : Nat} (q : jWr h r t w) {β_ : Type} {f_ : Nat → Option β_} : (jx_fA h r 5 1).bind f_ = f_ (w) := bnd (wr_f1 q)
theorem jWr_hT {h : jx_H} {r t w : Nat} {T : jTt} (q : jWr h r t w) (hr : t + 1 < r) : jWr (hT h t T) r t w := by unfold jWr; rw [hT_ne (by omega) (by omega)]; exact q
theorem i_shl : ∀ i : Nat, i < 16 → Int32.ofNat 1 <<< (Int32.ofNat i &&& 31) = Int32.ofNat (2 ^ i) := by decide +kernel
def wnl (wn : Nat → Int64) (b : Int32) : Nat → Nat → Int64
  | 0, _ => 0
  | d + 1, i => if Int32.ofNat (2 ^ i) = b then wn i else wnl wn b d (i + 1)
theorem W_no_loop {G : jx_Gv} {h : jx_H} {w : Nat} {wn : Nat → Int64} (hD : jWd h w wn) {b : Int32} : ∀ d i : Nat, i + d = 16 → jE G (171, 2, [some (.ref w), some (.int b), some (.int (Int32.ofNat i))], [], h) = some (some (.long (wnl wn b d i)), h)
  | 0, i, hi => by
    rw [e_171_2, wnl]
    simp (disch := omega) only [e_171_0, e_171_11, e_171_18, e_171_25, e_171_31, ↓wd_f_b hD, ↓wd_n_b hD, ↓Option.bind_some, ↓jzo_0b, ↓jzo_1b, ↓jzo_bb, Option.toList_some, Option.toList_none, List.cons_append, List.nil_append, ↓reduceIte, jzo_0, jzo_1, jzo_b, jbi_t, jbi_f, i_add, ↓i_ltP, ↓i_ltN, ↓i_eqP, ↓i_eqN, i_lt, i_eq, jbi_0, pt_lt, pf_lt, pt_eq, pf_eq, pt_le, pf_le, Nat.reduceEqDiff, eq_self, true_or, or_true, false_or, or_false, true_and, and_true, false_and, and_false, jE_sw, jE_sw0]
  | d + 1, i, hi => by
    have ih := W_no_loop (G := G) hD (b := b) d (i + 1) (by omega)
    have es := i_shl i (by omega)
    rw [e_171_2, wnl]
    by_cases c : Int32.ofNat (2 ^ i) = b
    · rw [if_pos c]
      simp (disch := omega) only [e_171_0, e_171_11, e_171_18, e_171_25, e_171_31, ↓wd_f_b hD, ↓wd_n_b hD, ↓wd_a_b hD, es, c, ↓Option.bind_some, ↓jzo_0b, ↓jzo_1b, ↓jzo_bb, Option.toList_some, Option.toList_none, List.cons_append, List.nil_append, ↓reduceIte, jzo_0, jzo_1, jzo_b, jbi_t, jbi_f, i_add, ↓i_ltP, ↓i_ltN, ↓i_eqP, ↓i_eqN, i_lt, i_eq, jbi_0, pt_lt, pf_lt, pt_eq, pf_eq, pt_le, pf_le, Nat.reduceEqDiff, eq_self, true_or, or_true, false_or, or_false, true_and, and_true, false_and, and_false, jE_sw, jE_sw0]
    · rw [if_neg c]
      simp (disch := omega) only [e_171_0, e_171_11, e_171_18, e_171_25, e_171_31, ↓wd_f_b hD, ↓wd_n_b hD, ↓wd_a_b hD, es, c, ↓Option.bind_some, ↓jzo_0b, ↓jzo_1b, ↓jzo_bb, Option.toList_some, Option.toList_none, List.cons_append, List.nil_append, ↓reduceIte, jzo_0, jzo_1, jzo_b, jbi_t, jbi_f, i_add, ↓i_ltP, ↓i_ltN, ↓i_eqP, ↓i_eqN, i_lt, i_eq, jbi_0, pt_lt, pf_lt, pt_eq, pf_eq, pt_le, pf_le, Nat.reduceEqDiff, eq_self, true_or, or_true, false_or, or_false, true_and, and_true, false_and, and_false, jE_sw, jE_sw0]
      exact ih
def wname (wn : Nat → Int64) (b : Int32) : Int64 := wnl wn b 16 0
theorem W_nameOf {G : jx_Gv} {h : jx_H} {w : Nat} {wn : Nat → Int64} (hD : jWd h w wn) {b : Int32} : jE G (171, 0, [some (.ref w), some (.int b), none], [], h) = some (some (.long (wname wn b)), h) := by
  simp (disch := omega) only [e_171_0, e_171_11, e_171_18, e_171_25, e_171_31]
  exact W_no_loop hD 16 0 (by omega)
theorem W_nameOf_b {G : jx_Gv} {h : jx_H} {w : Nat} {wn : Nat → Int64} (hD : jWd h w wn) {b : Int32} {β_ : Type} {f_ : jx_R → Option β_} : (jE G (171, 0, [some (.ref w), some (.int b), none], [], h)).bind f_ = f_ ((some (.long (wname wn b)), h)) := bnd (W_nameOf hD)
def woct (x : Int32) : Int32 := if Int32.ofNat 10 < x then x - Int32.ofNat 11 + Int32.ofNat 97 else x - Int32.ofNat 1 + Int32.ofNat 48
theorem W_octetOf {G : jx_Gv} {h : jx_H} {x : Int32} : jE G (172, 0, [some (.int x)], [], h) = some (some (.int (woct x)), h) := by
  by_cases c : Int32.ofNat 10 < x <;> simp (disch := omega) only [e_172_0, e_172_6, e_172_15, e_172_22, ↓Option.bind_some, ↓jzo_0b, ↓jzo_1b, ↓jzo_bb, Option.toList_some, Option.toList_none, List.cons_append, List.nil_append, ↓reduceIte, jzo_0, jzo_1, jzo_b, jbi_t, jbi_f, i_add, ↓i_ltP, ↓i_ltN, ↓i_eqP, ↓i_eqN, i_lt, i_eq, jbi_0, pt_lt, pf_lt, pt_eq, pf_eq, pt_le, pf_le, Nat.reduceEqDiff, eq_self, true_or, or_true, false_or, or_false, true_and, and_true, false_and, and_false, jE_sw, jE_sw0, woct, c]
theorem W_octetOf_b {G : jx_Gv} {h : jx_H} {x : Int32} {β_ : Type} {f_ : jx_R → Option β_} : (jE G (172, 0, [some (.int x)], [], h)).bind f_ = f_ ((some (.int (woct x)), h)) := bnd (W_octetOf )
def noct : Nat → Nat → List Int32
  | 0, _ => []
  | d + 1, n => if n = 0 then [] else woct (Int32.ofNat (n % 37)) :: noct d (n / 37)
theorem i_mod2 {a b : Nat} : Int32.ofNat a - Int32.ofNat (a / b) * Int32.ofNat b = Int32.ofNat (a % b) := by
  rw [i_mul, i_sub (Nat.div_mul_le_self a b)]
  congr 1
  have := Nat.mod_add_div a b
  rw [Nat.mul_comm] at this
  omega
theorem l_div37 {a : Nat} (ha : a < 9223372036854775808) : Int64.ofNat a / (37 : Int64) = Int64.ofNat (a / 37) := l_div ha (b := 37) (by decide)
theorem l_mod37 {a : Nat} : Int64.ofNat a - Int64.ofNat (a / 37) * (37 : Int64) = Int64.ofNat (a % 37) := by
  show Int64.ofNat a - Int64.ofNat (a / 37) * Int64.ofNat 37 = Int64.ofNat (a % 37)
  rw [l_mul, ← Int64.ofNat_sub _ _ (Nat.div_mul_le_self a 37)]
  congr 1
  have := Nat.mod_add_div a 37
  rw [Nat.mul_comm] at this
  omega
theorem l_ne37 : ((37 : Int64) = 0) = False := eq_false (by decide)
theorem l_0 : (0 : Int64) = Int64.ofNat 0 := rfl
theorem V_name_loop {G : jx_Gv} {h : jx_H} {r t w : Nat} (hr : jWr h r t w) (htr : t + 1 < r) {y : Int64} : ∀ (d n i : Nat) (T : jTt) (z2 z4 : Option Value), i + d = 12 → n < 9223372036854775808 → T.2.1 ≤ 2000 → jE G (173, 5, [some (.ref r), some (.long y), z2, some (.long (Int64.ofNat n)), z4, some (.int (Int32.ofNat i))], [], hT h t T) = some (none, hT h t (tputs T (noct d n)))
  | 0, n, i, T, z2, z4, hi, hn, hl => by
    rw [e_173_5, noct]
    simp (disch := omega) only [e_173_0, e_173_12, e_173_18, e_173_31, e_173_34, e_173_46, ↓Option.bind_some, ↓jzo_0b, ↓jzo_1b, ↓jzo_bb, Option.toList_some, Option.toList_none, List.cons_append, List.nil_append, ↓reduceIte, jzo_0, jzo_1, jzo_b, jbi_t, jbi_f, i_add, ↓i_ltP, ↓i_ltN, ↓i_eqP, ↓i_eqN, i_lt, i_eq, jbi_0, pt_lt, pf_lt, pt_eq, pf_eq, pt_le, pf_le, Nat.reduceEqDiff, eq_self, true_or, or_true, false_or, or_false, true_and, and_true, false_and, and_false, jE_sw, jE_sw0, tputs_0]
  | d + 1, n, i, T, z2, z4, hi, hn, hl => by
    have hr' := jWr_hT (T := T) hr htr
    have hx := hT_tx (h := h) (t := t) hl
    rw [e_173_5, noct]
    by_cases c : n = 0
    · rw [if_pos c]
      simp (disch := omega) only [e_173_0, e_173_12, e_173_18, e_173_31, e_173_34, e_173_46, ↓Option.bind_some, ↓jzo_0b, ↓jzo_1b, ↓jzo_bb, Option.toList_some, Option.toList_none, List.cons_append, List.nil_append, ↓reduceIte, jzo_0, jzo_1, jzo_b, jbi_t, jbi_f, i_add, ↓i_ltP, ↓i_ltN, ↓i_eqP, ↓i_eqN, i_lt, i_eq, jbi_0, pt_lt, pf_lt, pt_eq, pf_eq, pt_le, pf_le, Nat.reduceEqDiff, eq_self, true_or, or_true, false_or, or_false, true_and, and_true, false_and, and_false, jE_sw, jE_sw0, tputs_0, j_cmpG, l_lt0]
    · rw [if_neg c]
      have hm : n / 37 ≤ n := Nat.div_le_self _ _
      have hm2 : n % 37 < 37 := Nat.mod_lt _ (by decide)
      have hr2 := jWr_hT (T := tput T (woct (Int32.ofNat (n % 37)))) hr htr
      have ih := fun z2 z4 => V_name_loop (G := G) hr htr (y := y) d (n / 37) (i + 1) (tput T (woct (Int32.ofNat (n % 37)))) z2 z4 (by omega) (by omega) (tput_le hl)
      simp (disch := omega) only [e_173_0, e_173_12, e_173_18, e_173_31, e_173_34, e_173_46, ↓wr_f0_b hr', tx_rv hx, ↓T_add_b, ↓W_octetOf_b, ↓Option.bind_some, ↓jzo_0b, ↓jzo_1b, ↓jzo_bb, Option.toList_some, Option.toList_none, List.cons_append, List.nil_append, ↓reduceIte, jzo_0, jzo_1, jzo_b, jbi_t, jbi_f, i_add, ↓i_ltP, ↓i_ltN, ↓i_eqP, ↓i_eqN, i_lt, i_eq, jbi_0, pt_lt, pf_lt, pt_eq, pf_eq, pt_le, pf_le, Nat.reduceEqDiff, eq_self, true_or, or_true, false_or, or_false, true_and, and_true, false_and, and_false, jE_sw, jE_sw0, j_cmpG, l_lt0, l_div37, l_mod37, l_ne37, l_2i]
      exact ih _ _
def noR (x : Int64) : List Int32 := if 0 < x then noct 12 x.toNatClampNeg else []
theorem V_writeName {G : jx_Gv} {h : jx_H} {r t w : Nat} (hr : jWr h r t w) (htr : t + 1 < r) {x : Int64} {T : jTt} (hl : T.2.1 ≤ 2000) : jE G (173, 0, [some (.ref r), some (.long x), none, none, none, none], [], hT h t T) = some (none, hT h t (tputs T (noR x))) := by
  by_cases c : 0 < x
  · have e : Int64.ofNat x.toNatClampNeg = x := Int64.ofNat_toNatClampNeg x (Int64.le_of_lt c)
    have q := V_name_loop (G := G) hr htr (y := x) 12 x.toNatClampNeg 0 T none none (by omega) (Int64.toNatClampNeg_lt x) hl
    rw [e] at q
    rw [noR, if_pos c]
    simp (disch := omega) only [e_173_0, e_173_12, e_173_18, e_173_31, e_173_34, e_173_46, ↓Option.bind_some, ↓jzo_0b, ↓jzo_1b, ↓jzo_bb, Option.toList_some, Option.toList_none, List.cons_append, List.nil_append, ↓reduceIte, jzo_0, jzo_1, jzo_b, jbi_t, jbi_f, i_add, ↓i_ltP, ↓i_ltN, ↓i_eqP, ↓i_eqN, i_lt, i_eq, jbi_0, pt_lt, pf_lt, pt_eq, pf_eq, pt_le, pf_le, Nat.reduceEqDiff, eq_self, true_or, or_true, false_or, or_false, true_and, and_true, false_and, and_false, jE_sw, jE_sw0]
    exact q
  · rw [noR, if_neg c]
    simp (disch := omega) only [e_173_0, e_173_12, e_173_18, e_173_31, e_173_34, e_173_46, ↓Option.bind_some, ↓jzo_0b, ↓jzo_1b, ↓jzo_bb, Option.toList_some, Option.toList_none, List.cons_append, List.nil_append, ↓reduceIte, jzo_0, jzo_1, jzo_b, jbi_t, jbi_f, i_add, ↓i_ltP, ↓i_ltN, ↓i_eqP, ↓i_eqN, i_lt, i_eq, jbi_0, pt_lt, pf_lt, pt_eq, pf_eq, pt_le, pf_le, Nat.reduceEqDiff, eq_self, true_or, or_true, false_or, or_false, true_and, and_true, false_and, and_false, jE_sw, jE_sw0]
    rw [e_173_5]
    simp (disch := omega) only [e_173_0, e_173_12, e_173_18, e_173_31, e_173_34, e_173_46, ↓Option.bind_some, ↓jzo_0b, ↓jzo_1b, ↓jzo_bb, Option.toList_some, Option.toList_none, List.cons_append, List.nil_append, ↓reduceIte, jzo_0, jzo_1, jzo_b, jbi_t, jbi_f, i_add, ↓i_ltP, ↓i_ltN, ↓i_eqP, ↓i_eqN, i_lt, i_eq, jbi_0, pt_lt, pf_lt, pt_eq, pf_eq, pt_le, pf_le, Nat.reduceEqDiff, eq_self, true_or, or_true, false_or, or_false, true_and, and_true, false_and, and_false, jE_sw, jE_sw0, tputs_0, j_cmpG, c]
theorem V_writeName_b {G : jx_Gv} {h : jx_H} {r t w : Nat} (hr : jWr h r t w) (htr : t + 1 < r) {x : Int64} {T : jTt} (hl : T.2.1 ≤ 2000) {β_ : Type} {f_ : jx_R → Option β_} : (jE G (173, 0, [some (.ref r), some (.long x), none, none, none, none], [], hT h t T)).bind f_ = f_ ((none, hT h t (tputs T (noR x)))) := bnd (V_writeName hr htr hl)
def dg0 (_ : Nat) : List Int32 := []
theorem V_dg0 {G : jx_Gv} {h : jx_H} {r t w n : Nat} {T : jTt} {v : Int32} (hr : jWr h r t w) (htr : t + 1 < r) (hn : n < 1000000) (hl : T.2.1 ≤ 2000) : jE G (175, 30, [some (.ref r), some (.int v), some (.int (Int32.ofNat n)), some (.int (Int32.ofNat 0))], [], hT h t T) = some (none, hT h t (tputs T (dg0 n))) := by
  rw [e_175_30]
  simp (disch := omega) only [e_175_0, e_175_4, e_175_13, e_175_22, e_175_34, e_175_39, e_175_44, e_175_60, e_175_68, ↓Option.bind_some, ↓jzo_0b, ↓jzo_1b, ↓jzo_bb, Option.toList_some, Option.toList_none, List.cons_append, List.nil_append, ↓reduceIte, jzo_0, jzo_1, jzo_b, jbi_t, jbi_f, i_add, ↓i_ltP, ↓i_ltN, ↓i_eqP, ↓i_eqN, i_lt, i_eq, jbi_0, pt_lt, pf_lt, pt_eq, pf_eq, pt_le, pf_le, Nat.reduceEqDiff, eq_self, true_or, or_true, false_or, or_false, true_and, and_true, false_and, and_false, jE_sw, jE_sw0, dg0, tputs_0]
theorem V_dg0_b {G : jx_Gv} {h : jx_H} {r t w n : Nat} {T : jTt} {v : Int32} (hr : jWr h r t w) (htr : t + 1 < r) (hn : n < 1000000) (hl : T.2.1 ≤ 2000) {β_ : Type} {f_ : jx_R → Option β_} : (jE G (175, 30, [some (.ref r), some (.int v), some (.int (Int32.ofNat n)), some (.int (Int32.ofNat 0))], [], hT h t T)).bind f_ = f_ ((none, hT h t (tputs T (dg0 n)))) := bnd (V_dg0 hr htr hn hl)
def dg1 (n : Nat) : List Int32 := [Int32.ofNat (48 + n / 1 % 10)]
theorem V_dg1 {G : jx_Gv} {h : jx_H} {r t w n : Nat} {T : jTt} {v : Int32} (hr : jWr h r t w) (htr : t + 1 < r) (hn : n < 1000000) (hl : T.2.1 ≤ 2000) : jE G (175, 30, [some (.ref r), some (.int v), some (.int (Int32.ofNat n)), some (.int (Int32.ofNat 1))], [], hT h t T) = some (none, hT h t (tputs T (dg1 n))) := by
  have hr' := jWr_hT (T := T) hr htr
  have hx := hT_tx (h := h) (t := t) hl
  have hd := Nat.div_le_self n 1
  have hm := Nat.mod_lt (n / 1) (y := 10) (by decide)
  rw [e_175_30]
  have ih := V_dg0 (G := G) (n := n) (T := tput T (Int32.ofNat (48 + n / 1 % 10))) (v := v) hr htr hn (tput_le hl)
  by_cases c : n < 1
  · simp (disch := omega) only [e_175_0, e_175_4, e_175_13, e_175_22, e_175_34, e_175_39, e_175_44, e_175_60, e_175_68, ↓wr_f0_b hr', tx_rv hx, ↓T_add_b, ↓Option.bind_some, ↓jzo_0b, ↓jzo_1b, ↓jzo_bb, Option.toList_some, Option.toList_none, List.cons_append, List.nil_append, ↓reduceIte, jzo_0, jzo_1, jzo_b, jbi_t, jbi_f, i_add, ↓i_ltP, ↓i_ltN, ↓i_eqP, ↓i_eqN, i_lt, i_eq, jbi_0, pt_lt, pf_lt, pt_eq, pf_eq, pt_le, pf_le, Nat.reduceEqDiff, eq_self, true_or, or_true, false_or, or_false, true_and, and_true, false_and, and_false, jE_sw, jE_sw0, i_mod2, i_div, Nat.reduceDiv, dg1]
    exact ih
  · simp (disch := omega) only [e_175_0, e_175_4, e_175_13, e_175_22, e_175_34, e_175_39, e_175_44, e_175_60, e_175_68, ↓wr_f0_b hr', tx_rv hx, ↓T_add_b, ↓Option.bind_some, ↓jzo_0b, ↓jzo_1b, ↓jzo_bb, Option.toList_some, Option.toList_none, List.cons_append, List.nil_append, ↓reduceIte, jzo_0, jzo_1, jzo_b, jbi_t, jbi_f, i_add, ↓i_ltP, ↓i_ltN, ↓i_eqP, ↓i_eqN, i_lt, i_eq, jbi_0, pt_lt, pf_lt, pt_eq, pf_eq, pt_le, pf_le, Nat.reduceEqDiff, eq_self, true_or, or_true, false_or, or_false, true_and, and_true, false_and, and_false, jE_sw, jE_sw0, i_mod2, i_div, Nat.reduceDiv, dg1]
    exact ih
theorem V_dg1_b {G : jx_Gv} {h : jx_H} {r t w n : Nat} {T : jTt} {v : Int32} (hr : jWr h r t w) (htr : t + 1 < r) (hn : n < 1000000) (hl : T.2.1 ≤ 2000) {β_ : Type} {f_ : jx_R → Option β_} : (jE G (175, 30, [some (.ref r), some (.int v), some (.int (Int32.ofNat n)), some (.int (Int32.ofNat 1))], [], hT h t T)).bind f_ = f_ ((none, hT h t (tputs T (dg1 n)))) := bnd (V_dg1 hr htr hn hl)
def dg10 (n : Nat) : List Int32 := if n < 10 then dg1 n else Int32.ofNat (48 + n / 10 % 10) :: dg1 n
theorem V_dg10 {G : jx_Gv} {h : jx_H} {r t w n : Nat} {T : jTt} {v : Int32} (hr : jWr h r t w) (htr : t + 1 < r) (hn : n < 1000000) (hl : T.2.1 ≤ 2000) : jE G (175, 30, [some (.ref r), some (.int v), some (.int (Int32.ofNat n)), some (.int (Int32.ofNat 10))], [], hT h t T) = some (none, hT h t (tputs T (dg10 n))) := by
  have hr' := jWr_hT (T := T) hr htr
  have hx := hT_tx (h := h) (t := t) hl
  have hd := Nat.div_le_self n 10
  have hm := Nat.mod_lt (n / 10) (y := 10) (by decide)
  rw [e_175_30]
  unfold dg10
  by_cases c : n < 10
  · rw [if_pos c, ← V_dg1 (G := G) (n := n) (T := T) (v := v) hr htr hn hl]
    simp (disch := omega) only [e_175_0, e_175_4, e_175_13, e_175_22, e_175_34, e_175_39, e_175_44, e_175_60, e_175_68, ↓wr_f0_b hr', tx_rv hx, ↓Option.bind_some, ↓jzo_0b, ↓jzo_1b, ↓jzo_bb, Option.toList_some, Option.toList_none, List.cons_append, List.nil_append, ↓reduceIte, jzo_0, jzo_1, jzo_b, jbi_t, jbi_f, i_add, ↓i_ltP, ↓i_ltN, ↓i_eqP, ↓i_eqN, i_lt, i_eq, jbi_0, pt_lt, pf_lt, pt_eq, pf_eq, pt_le, pf_le, Nat.reduceEqDiff, eq_self, true_or, or_true, false_or, or_false, true_and, and_true, false_and, and_false, jE_sw, jE_sw0, i_div, Nat.reduceDiv]
  · have ih := V_dg1 (G := G) (n := n) (T := tput T (Int32.ofNat (48 + n / 10 % 10))) (v := v) hr htr hn (tput_le hl)
    rw [if_neg c]
    refine Eq.trans ?_ ih
    simp (disch := omega) only [e_175_0, e_175_4, e_175_13, e_175_22, e_175_34, e_175_39, e_175_44, e_175_60, e_175_68, ↓wr_f0_b hr', tx_rv hx, ↓T_add_b, ↓Option.bind_some, ↓jzo_0b, ↓jzo_1b, ↓jzo_bb, Option.toList_some, Option.toList_none, List.cons_append, List.nil_append, ↓reduceIte, jzo_0, jzo_1, jzo_b, jbi_t, jbi_f, i_add, ↓i_ltP, ↓i_ltN, ↓i_eqP, ↓i_eqN, i_lt, i_eq, jbi_0, pt_lt, pf_lt, pt_eq, pf_eq, pt_le, pf_le, Nat.reduceEqDiff, eq_self, true_or, or_true, false_or, or_false, true_and, and_true, false_and, and_false, jE_sw, jE_sw0, i_mod2, i_div, Nat.reduceDiv]
theorem V_dg10_b {G : jx_Gv} {h : jx_H} {r t w n : Nat} {T : jTt} {v : Int32} (hr : jWr h r t w) (htr : t + 1 < r) (hn : n < 1000000) (hl : T.2.1 ≤ 2000) {β_ : Type} {f_ : jx_R → Option β_} : (jE G (175, 30, [some (.ref r), some (.int v), some (.int (Int32.ofNat n)), some (.int (Int32.ofNat 10))], [], hT h t T)).bind f_ = f_ ((none, hT h t (tputs T (dg10 n)))) := bnd (V_dg10 hr htr hn hl)
def dg100 (n : Nat) : List Int32 := if n < 100 then dg10 n else Int32.ofNat (48 + n / 100 % 10) :: dg10 n
theorem V_dg100 {G : jx_Gv} {h : jx_H} {r t w n : Nat} {T : jTt} {v : Int32} (hr : jWr h r t w) (htr : t + 1 < r) (hn : n < 1000000) (hl : T.2.1 ≤ 2000) : jE G (175, 30, [some (.ref r), some (.int v), some (.int (Int32.ofNat n)), some (.int (Int32.ofNat 100))], [], hT h t T) = some (none, hT h t (tputs T (dg100 n))) := by
  have hr' := jWr_hT (T := T) hr htr
  have hx := hT_tx (h := h) (t := t) hl
  have hd := Nat.div_le_self n 100
  have hm := Nat.mod_lt (n / 100) (y := 10) (by decide)
  rw [e_175_30]
  unfold dg100
  by_cases c : n < 100
  · rw [if_pos c, ← V_dg10 (G := G) (n := n) (T := T) (v := v) hr htr hn hl]
    simp (disch := omega) only [e_175_0, e_175_4, e_175_13, e_175_22, e_175_34, e_175_39, e_175_44, e_175_60, e_175_68, ↓wr_f0_b hr', tx_rv hx, ↓Option.bind_some, ↓jzo_0b, ↓jzo_1b, ↓jzo_bb, Option.toList_some, Option.toList_none, List.cons_append, List.nil_append, ↓reduceIte, jzo_0, jzo_1, jzo_b, jbi_t, jbi_f, i_add, ↓i_ltP, ↓i_ltN, ↓i_eqP, ↓i_eqN, i_lt, i_eq, jbi_0, pt_lt, pf_lt, pt_eq, pf_eq, pt_le, pf_le, Nat.reduceEqDiff, eq_self, true_or, or_true, false_or, or_false, true_and, and_true, false_and, and_false, jE_sw, jE_sw0, i_div, Nat.reduceDiv]
  · have ih := V_dg10 (G := G) (n := n) (T := tput T (Int32.ofNat (48 + n / 100 % 10))) (v := v) hr htr hn (tput_le hl)
    rw [if_neg c]
    refine Eq.trans ?_ ih
    simp (disch := omega) only [e_175_0, e_175_4, e_175_13, e_175_22, e_175_34, e_175_39, e_175_44, e_175_60, e_175_68, ↓wr_f0_b hr', tx_rv hx, ↓T_add_b, ↓Option.bind_some, ↓jzo_0b, ↓jzo_1b, ↓jzo_bb, Option.toList_some, Option.toList_none, List.cons_append, List.nil_append, ↓reduceIte, jzo_0, jzo_1, jzo_b, jbi_t, jbi_f, i_add, ↓i_ltP, ↓i_ltN, ↓i_eqP, ↓i_eqN, i_lt, i_eq, jbi_0, pt_lt, pf_lt, pt_eq, pf_eq, pt_le, pf_le, Nat.reduceEqDiff, eq_self, true_or, or_true, false_or, or_false, true_and, and_true, false_and, and_false, jE_sw, jE_sw0, i_mod2, i_div, Nat.reduceDiv]
theorem V_dg100_b {G : jx_Gv} {h : jx_H} {r t w n : Nat} {T : jTt} {v : Int32} (hr : jWr h r t w) (htr : t + 1 < r) (hn : n < 1000000) (hl : T.2.1 ≤ 2000) {β_ : Type} {f_ : jx_R → Option β_} : (jE G (175, 30, [some (.ref r), some (.int v), some (.int (Int32.ofNat n)), some (.int (Int32.ofNat 100))], [], hT h t T)).bind f_ = f_ ((none, hT h t (tputs T (dg100 n)))) := bnd (V_dg100 hr htr hn hl)
def dg1000 (n : Nat) : List Int32 := if n < 1000 then dg100 n else Int32.ofNat (48 + n / 1000 % 10) :: dg100 n
theorem V_dg1000 {G : jx_Gv} {h : jx_H} {r t w n : Nat} {T : jTt} {v : Int32} (hr : jWr h r t w) (htr : t + 1 < r) (hn : n < 1000000) (hl : T.2.1 ≤ 2000) : jE G (175, 30, [some (.ref r), some (.int v), some (.int (Int32.ofNat n)), some (.int (Int32.ofNat 1000))], [], hT h t T) = some (none, hT h t (tputs T (dg1000 n))) := by
  have hr' := jWr_hT (T := T) hr htr
  have hx := hT_tx (h := h) (t := t) hl
  have hd := Nat.div_le_self n 1000
  have hm := Nat.mod_lt (n / 1000) (y := 10) (by decide)
  rw [e_175_30]
  unfold dg1000
  by_cases c : n < 1000
  · rw [if_pos c, ← V_dg100 (G := G) (n := n) (T := T) (v := v) hr htr hn hl]
    simp (disch := omega) only [e_175_0, e_175_4, e_175_13, e_175_22, e_175_34, e_175_39, e_175_44, e_175_60, e_175_68, ↓wr_f0_b hr', tx_rv hx, ↓Option.bind_some, ↓jzo_0b, ↓jzo_1b, ↓jzo_bb, Option.toList_some, Option.toList_none, List.cons_append, List.nil_append, ↓reduceIte, jzo_0, jzo_1, jzo_b, jbi_t, jbi_f, i_add, ↓i_ltP, ↓i_ltN, ↓i_eqP, ↓i_eqN, i_lt, i_eq, jbi_0, pt_lt, pf_lt, pt_eq, pf_eq, pt_le, pf_le, Nat.reduceEqDiff, eq_self, true_or, or_true, false_or, or_false, true_and, and_true, false_and, and_false, jE_sw, jE_sw0, i_div, Nat.reduceDiv]
  · have ih := V_dg100 (G := G) (n := n) (T := tput T (Int32.ofNat (48 + n / 1000 % 10))) (v := v) hr htr hn (tput_le hl)
    rw [if_neg c]
    refine Eq.trans ?_ ih
    simp (disch := omega) only [e_175_0, e_175_4, e_175_13, e_175_22, e_175_34, e_175_39, e_175_44, e_175_60, e_175_68, ↓wr_f0_b hr', tx_rv hx, ↓T_add_b, ↓Option.bind_some, ↓jzo_0b, ↓jzo_1b, ↓jzo_bb, Option.toList_some, Option.toList_none, List.cons_append, List.nil_append, ↓reduceIte, jzo_0, jzo_1, jzo_b, jbi_t, jbi_f, i_add, ↓i_ltP, ↓i_ltN, ↓i_eqP, ↓i_eqN, i_lt, i_eq, jbi_0, pt_lt, pf_lt, pt_eq, pf_eq, pt_le, pf_le, Nat.reduceEqDiff, eq_self, true_or, or_true, false_or, or_false, true_and, and_true, false_and, and_false, jE_sw, jE_sw0, i_mod2, i_div, Nat.reduceDiv]
theorem V_dg1000_b {G : jx_Gv} {h : jx_H} {r t w n : Nat} {T : jTt} {v : Int32} (hr : jWr h r t w) (htr : t + 1 < r) (hn : n < 1000000) (hl : T.2.1 ≤ 2000) {β_ : Type} {f_ : jx_R → Option β_} : (jE G (175, 30, [some (.ref r), some (.int v), some (.int (Int32.ofNat n)), some (.int (Int32.ofNat 1000))], [], hT h t T)).bind f_ = f_ ((none, hT h t (tputs T (dg1000 n)))) := bnd (V_dg1000 hr htr hn hl)
def dg10000 (n : Nat) : List Int32 := if n < 10000 then dg1000 n else Int32.ofNat (48 + n / 10000 % 10) :: dg1000 n
theorem V_dg10000 {G : jx_Gv} {h : jx_H} {r t w n : Nat} {T : jTt} {v : Int32} (hr : jWr h r t w) (htr : t + 1 < r) (hn : n < 1000000) (hl : T.2.1 ≤ 2000) : jE G (175, 30, [some (.ref r), some (.int v), some (.int (Int32.ofNat n)), some (.int (Int32.ofNat 10000))], [], hT h t T) = some (none, hT h t (tputs T (dg10000 n))) := by
  have hr' := jWr_hT (T := T) hr htr
  have hx := hT_tx (h := h) (t := t) hl
  have hd := Nat.div_le_self n 10000
  have hm := Nat.mod_lt (n / 10000) (y := 10) (by decide)
  rw [e_175_30]
  unfold dg10000
  by_cases c : n < 10000
  · rw [if_pos c, ← V_dg1000 (G := G) (n := n) (T := T) (v := v) hr htr hn hl]
    simp (disch := omega) only [e_175_0, e_175_4, e_175_13, e_175_22, e_175_34, e_175_39, e_175_44, e_175_60, e_175_68, ↓wr_f0_b hr', tx_rv hx, ↓Option.bind_some, ↓jzo_0b, ↓jzo_1b, ↓jzo_bb, Option.toList_some, Option.toList_none, List.cons_append, List.nil_append, ↓reduceIte, jzo_0, jzo_1, jzo_b, jbi_t, jbi_f, i_add, ↓i_ltP, ↓i_ltN, ↓i_eqP, ↓i_eqN, i_lt, i_eq, jbi_0, pt_lt, pf_lt, pt_eq, pf_eq, pt_le, pf_le, Nat.reduceEqDiff, eq_self, true_or, or_true, false_or, or_false, true_and, and_true, false_and, and_false, jE_sw, jE_sw0, i_div, Nat.reduceDiv]
  · have ih := V_dg1000 (G := G) (n := n) (T := tput T (Int32.ofNat (48 + n / 10000 % 10))) (v := v) hr htr hn (tput_le hl)
    rw [if_neg c]
    refine Eq.trans ?_ ih
    simp (disch := omega) only [e_175_0, e_175_4, e_175_13, e_175_22, e_175_34, e_175_39, e_175_44, e_175_60, e_175_68, ↓wr_f0_b hr', tx_rv hx, ↓T_add_b, ↓Option.bind_some, ↓jzo_0b, ↓jzo_1b, ↓jzo_bb, Option.toList_some, Option.toList_none, List.cons_append, List.nil_append, ↓reduceIte, jzo_0, jzo_1, jzo_b, jbi_t, jbi_f, i_add, ↓i_ltP, ↓i_ltN, ↓i_eqP, ↓i_eqN, i_lt, i_eq, jbi_0, pt_lt, pf_lt, pt_eq, pf_eq, pt_le, pf_le, Nat.reduceEqDiff, eq_self, true_or, or_true, false_or, or_false, true_and, and_true, false_and, and_false, jE_sw, jE_sw0, i_mod2, i_div, Nat.reduceDiv]
theorem V_dg10000_b {G : jx_Gv} {h : jx_H} {r t w n : Nat} {T : jTt} {v : Int32} (hr : jWr h r t w) (htr : t + 1 < r) (hn : n < 1000000) (hl : T.2.1 ≤ 2000) {β_ : Type} {f_ : jx_R → Option β_} : (jE G (175, 30, [some (.ref r), some (.int v), some (.int (Int32.ofNat n)), some (.int (Int32.ofNat 10000))], [], hT h t T)).bind f_ = f_ ((none, hT h t (tputs T (dg10000 n)))) := bnd (V_dg10000 hr htr hn hl)
def dg100000 (n : Nat) : List Int32 := if n < 100000 then dg10000 n else Int32.ofNat (48 + n / 100000 % 10) :: dg10000 n
theorem V_dg100000 {G : jx_Gv} {h : jx_H} {r t w n : Nat} {T : jTt} {v : Int32} (hr : jWr h r t w) (htr : t + 1 < r) (hn : n < 1000000) (hl : T.2.1 ≤ 2000) : jE G (175, 30, [some (.ref r), some (.int v), some (.int (Int32.ofNat n)), some (.int (Int32.ofNat 100000))], [], hT h t T) = some (none, hT h t (tputs T (dg100000 n))) := by
  have hr' := jWr_hT (T := T) hr htr
  have hx := hT_tx (h := h) (t := t) hl
  have hd := Nat.div_le_self n 100000
  have hm := Nat.mod_lt (n / 100000) (y := 10) (by decide)
  rw [e_175_30]
  unfold dg100000
  by_cases c : n < 100000
  · rw [if_pos c, ← V_dg10000 (G := G) (n := n) (T := T) (v := v) hr htr hn hl]
    simp (disch := omega) only [e_175_0, e_175_4, e_175_13, e_175_22, e_175_34, e_175_39, e_175_44, e_175_60, e_175_68, ↓wr_f0_b hr', tx_rv hx, ↓Option.bind_some, ↓jzo_0b, ↓jzo_1b, ↓jzo_bb, Option.toList_some, Option.toList_none, List.cons_append, List.nil_append, ↓reduceIte, jzo_0, jzo_1, jzo_b, jbi_t, jbi_f, i_add, ↓i_ltP, ↓i_ltN, ↓i_eqP, ↓i_eqN, i_lt, i_eq, jbi_0, pt_lt, pf_lt, pt_eq, pf_eq, pt_le, pf_le, Nat.reduceEqDiff, eq_self, true_or, or_true, false_or, or_false, true_and, and_true, false_and, and_false, jE_sw, jE_sw0, i_div, Nat.reduceDiv]
  · have ih := V_dg10000 (G := G) (n := n) (T := tput T (Int32.ofNat (48 + n / 100000 % 10))) (v := v) hr htr hn (tput_le hl)
    rw [if_neg c]
    refine Eq.trans ?_ ih
    simp (disch := omega) only [e_175_0, e_175_4, e_175_13, e_175_22, e_175_34, e_175_39, e_175_44, e_175_60, e_175_68, ↓wr_f0_b hr', tx_rv hx, ↓T_add_b, ↓Option.bind_some, ↓jzo_0b, ↓jzo_1b, ↓jzo_bb, Option.toList_some, Option.toList_none, List.cons_append, List.nil_append, ↓reduceIte, jzo_0, jzo_1, jzo_b, jbi_t, jbi_f, i_add, ↓i_ltP, ↓i_ltN, ↓i_eqP, ↓i_eqN, i_lt, i_eq, jbi_0, pt_lt, pf_lt, pt_eq, pf_eq, pt_le, pf_le, Nat.reduceEqDiff, eq_self, true_or, or_true, false_or, or_false, true_and, and_true, false_and, and_false, jE_sw, jE_sw0, i_mod2, i_div, Nat.reduceDiv]

theorem V_dg100000_b {G : jx_Gv} {h : jx_H} {r t w n : Nat} {T : jTt} {v : Int32} (hr : jWr h r t w) (htr : t + 1 < r) (hn : n < 1000000) (hl : T.2.1 ≤ 2000) {β_ : Type} {f_ : jx_R → Option β_} : (jE G (175, 30, [some (.ref r), some (.int v), some (.int (Int32.ofNat n)), some (.int (Int32.ofNat 100000))], [], hT h t T)).bind f_ = f_ ((none, hT h t (tputs T (dg100000 n)))) := bnd (V_dg100000 hr htr hn hl)