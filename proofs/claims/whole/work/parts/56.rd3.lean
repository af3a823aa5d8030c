/-! A STEP; A ROW BEGUN -/
section JGD
variable {G : jx_Gv} {h : jx_H} {r t w a n : Nat} {c : jS} {D : jR} {X : jX}
theorem gr_block : jx_fI (hF h r t w a c (dG G D) X) r 4 1 = some (Int32.ofNat D.1) := fr_block
theorem gr_block_b  {β_ : Type} {f_ : Int32 → Option β_} : (jx_fI (hF h r t w a c (dG G D) X) r 4 1).bind f_ = f_ ((Int32.ofNat D.1)) := bnd (gr_block )
theorem gr_form : jx_fA (hF h r t w a c (dG G D) X) r 4 2 = some (G.1 D.2.1) := fr_form
theorem gr_form_b  {β_ : Type} {f_ : Nat → Option β_} : (jx_fA (hF h r t w a c (dG G D) X) r 4 2).bind f_ = f_ ((G.1 D.2.1)) := bnd (gr_form )
theorem gr_step : jx_fI (hF h r t w a c (dG G D) X) r 4 3 = some (Int32.ofNat D.2.2.1) := fr_step
theorem gr_step_b  {β_ : Type} {f_ : Int32 → Option β_} : (jx_fI (hF h r t w a c (dG G D) X) r 4 3).bind f_ = f_ ((Int32.ofNat D.2.2.1)) := bnd (gr_step )
theorem gr_acc : jx_fI (hF h r t w a c (dG G D) X) r 4 4 = some (Int32.ofNat D.2.2.2.1) := fr_acc
theorem gr_acc_b  {β_ : Type} {f_ : Int32 → Option β_} : (jx_fI (hF h r t w a c (dG G D) X) r 4 4).bind f_ = f_ ((Int32.ofNat D.2.2.2.1)) := bnd (gr_acc )
theorem gr_minus : jx_fI (hF h r t w a c (dG G D) X) r 4 5 = some (jbi D.2.2.2.2) := fr_minus
theorem gr_minus_b  {β_ : Type} {f_ : Int32 → Option β_} : (jx_fI (hF h r t w a c (dG G D) X) r 4 5).bind f_ = f_ ((jbi D.2.2.2.2)) := bnd (gr_minus )
theorem gp_block : jx_put (hF h r t w a c (dG G D) X) r 4 1 (.int (Int32.ofNat n)) = some (hF h r t w a c (dG G (n, D.2)) X) := pr_block
theorem gp_block_b  {β_ : Type} {f_ : jx_H → Option β_} : (jx_put (hF h r t w a c (dG G D) X) r 4 1 (.int (Int32.ofNat n))).bind f_ = f_ ((hF h r t w a c (dG G (n, D.2)) X)) := bnd (gp_block )
theorem gp_step : jx_put (hF h r t w a c (dG G D) X) r 4 3 (.int (Int32.ofNat n)) = some (hF h r t w a c (dG G (D.1, D.2.1, n, D.2.2.2)) X) := pr_step
theorem gp_step_b  {β_ : Type} {f_ : jx_H → Option β_} : (jx_put (hF h r t w a c (dG G D) X) r 4 3 (.int (Int32.ofNat n))).bind f_ = f_ ((hF h r t w a c (dG G (D.1, D.2.1, n, D.2.2.2)) X)) := bnd (gp_step )
theorem gp_acc : jx_put (hF h r t w a c (dG G D) X) r 4 4 (.int (Int32.ofNat n)) = some (hF h r t w a c (dG G (D.1, D.2.1, D.2.2.1, n, D.2.2.2.2)) X) := pr_acc
theorem gp_acc_b  {β_ : Type} {f_ : jx_H → Option β_} : (jx_put (hF h r t w a c (dG G D) X) r 4 4 (.int (Int32.ofNat n))).bind f_ = f_ ((hF h r t w a c (dG G (D.1, D.2.1, D.2.2.1, n, D.2.2.2.2)) X)) := bnd (gp_acc )
theorem gp_minus0 : jx_put (hF h r t w a c (dG G D) X) r 4 5 (.int (Int32.ofNat 0)) = some (hF h r t w a c (dG G (D.1, D.2.1, D.2.2.1, D.2.2.2.1, false)) X) := pr_minus0
theorem gp_minus0_b  {β_ : Type} {f_ : jx_H → Option β_} : (jx_put (hF h r t w a c (dG G D) X) r 4 5 (.int (Int32.ofNat 0))).bind f_ = f_ ((hF h r t w a c (dG G (D.1, D.2.1, D.2.2.1, D.2.2.2.1, false)) X)) := bnd (gp_minus0 )
end JGD
theorem xnn_room {X : jX} {y : Int64} (h : xRoom X) : xRoom (xnn X y).2 := by
  unfold xnn
  cases xnf X y (xNc X) 0 with
  | some j => exact h
  | none =>
    by_cases c1 : xNc X < 1000
    · simp only [if_pos c1]; exact h
    · simp only [if_neg c1]; exact h
def tDue (D : jR) : Int32 := if D.2.2.1 < jlen.getD D.2.1 0 then (jbyt.getD D.2.1 []).getD D.2.2.1 0 else Int32.ofNat 59
def tSw (u : Int32) (c : jS) (D : jR) (X : jX) : Bool × jR × jX :=
  if u = Int32.ofNat 65 then tAc c D X
  else if u = Int32.ofNat 78 then (if c.2.2.1 = Int32.ofNat 2 then (true, D, xaddTok (xnn X c.2.2.2.2).2 c.2.2.1 (Int32.ofNat (xnn X c.2.2.2.2).1)) else (false, D, X))
  else if u = Int32.ofNat 81 then cond (sNu c (Int32.ofNat 1) (Int32.ofNat 9999)) (true, D, xaddTok X c.2.2.1 c.2.2.2.1) (false, D, X)
  else if u = Int32.ofNat 82 then tTr c D X
  else if u = Int32.ofNat 84 then cond (sWd c (Int32.ofNat 32768)) (true, D, xaddTok X c.2.2.1 (Int32.ofNat 32768)) (false, D, X)
  else if u = Int32.ofNat 86 then tVa c D X
  else if u = Int32.ofNat 90 then cond (sNu c (Int32.ofNat 1) (Int32.ofNat 999999)) (true, D, xaddTok X c.2.2.1 c.2.2.2.1) (false, D, X)
  else cond (sSg c u) (true, D, xaddTok X c.2.2.1 u) (false, D, X)
theorem D_sw {G : jx_Gv} {h : jx_H} {r t w a : Nat} (hra : r + 1 < a) {c : jS} {D : jR} {X : jX} {u : Int32} {z2 : Option Value} (hX : xRoom X) (hn : xNc X ≤ 1000) (hc : sOk c) (ha : D.2.2.2.1 < 2147483648) : jE G (59, 30, [some (.ref r), some (.ref a), z2], [.int u], hF h r t w a c (dG G D) X) = some (some (.int (jbi (tSw u c (D.1, D.2.1, D.2.2.1 + 1, D.2.2.2) X).1)), hF h r t w a c (dG G (tSw u c (D.1, D.2.1, D.2.2.1 + 1, D.2.2.2) X).2.1) (tSw u c (D.1, D.2.1, D.2.2.1 + 1, D.2.2.2) X).2.2) := by
  rw [e_59_30]
  have hs1 : 1 ≤ D.2.2.1 + 1 := by omega
  have g1 : jx_put (hF h r t w a c (dG G D) X) r 4 3 (.int (Int32.ofNat (D.2.2.1 + 1))) = some (hF h r t w a c (dG G (D.1, D.2.1, D.2.2.1 + 1, D.2.2.2)) X) := gp_step
  have g1' := fun {β : Type} {f : jx_H → Option β} => bnd (f := f) g1
  have hd := fun D X' => hF_ed (h := h) (t := t) (w := w) (c := c) (d := dG G D) (X := X') hra
  have g2 : (jx_fI (hF h r t w a c (dG G D) X) r 4 3) = some (Int32.ofNat D.2.2.1) := gr_step
  have g2' := fun {β : Type} {f : Int32 → Option β} => bnd (f := f) g2
  generalize eD : ((D.1, D.2.1, D.2.2.1 + 1, D.2.2.2) : jR) = D1 at *
  have ha1 : D1.2.2.2.1 < 2147483648 := by rw [← eD]; exact ha
  have hs2 : 1 ≤ D1.2.2.1 := by rw [← eD]; exact hs1
  unfold tSw
  by_cases c1 : u = Int32.ofNat 65
  · rw [if_pos c1]
    simp (disch := omega) only [e_59_0, e_59_11, e_59_14, e_59_25, e_59_28, e_59_108, e_59_115, e_59_119, e_59_129, e_59_132, e_59_135, e_59_138, e_59_142, e_59_143, e_59_144, e_59_155, e_59_158, e_59_167, e_59_170, e_59_173, e_59_177, e_59_178, e_59_179, e_59_189, e_59_192, e_59_201, e_59_204, e_59_207, e_59_211, e_59_212, e_59_213, e_59_218, e_59_219, e_59_228, e_59_231, e_59_238, e_59_241, e_59_245, e_59_246, e_59_247, e_59_252, e_59_253, e_59_258, e_59_259, e_59_267, e_59_270, e_59_276, e_59_279, e_59_283, e_59_284, ↓g2', ↓g1', fr_rv, ↓D_takeAccess_b hra hX hc, c1, ↓Option.bind_some, ↓jzo_0b, ↓jzo_1b, ↓jzo_bb, Option.toList_some, Option.toList_none, List.cons_append, List.nil_append, ↓reduceIte, jzo_0, jzo_1, jzo_b, jbi_t, jbi_f, i_add, ↓i_ltP, ↓i_ltN, ↓i_eqP, ↓i_eqN, i_lt, i_eq, jbi_0, pt_lt, pf_lt, pt_eq, pf_eq, pt_le, pf_le, Nat.reduceEqDiff, eq_self, true_or, or_true, false_or, or_false, true_and, and_true, false_and, and_false, jE_sw, jE_sw0]
  rw [if_neg c1]
  by_cases c2 : u = Int32.ofNat 78
  · rw [if_pos c2]
    by_cases d1 : c.2.2.1 = Int32.ofNat 2
    · rw [if_pos d1]
      have tk := D_take (G := G) hra (h := h) (t := t) (w := w) (c := c) (d := dG G D1) (X := (xnn X c.2.2.2.2).2) (v := Int32.ofNat (xnn X c.2.2.2.2).1) (xnn_room hX) hc
      have tk' := fun {β : Type} {f : jx_R → Option β} => bnd (f := f) tk
      simp (disch := omega) only [e_59_0, e_59_11, e_59_14, e_59_25, e_59_28, e_59_108, e_59_115, e_59_119, e_59_129, e_59_132, e_59_135, e_59_138, e_59_142, e_59_143, e_59_144, e_59_155, e_59_158, e_59_167, e_59_170, e_59_173, e_59_177, e_59_178, e_59_179, e_59_189, e_59_192, e_59_201, e_59_204, e_59_207, e_59_211, e_59_212, e_59_213, e_59_218, e_59_219, e_59_228, e_59_231, e_59_238, e_59_241, e_59_245, e_59_246, e_59_247, e_59_252, e_59_253, e_59_258, e_59_259, e_59_267, e_59_270, e_59_276, e_59_279, e_59_283, e_59_284, ↓g2', ↓g1', fr_rv, ↓fr_s_b, fs_rv, ↓S_sort_b hra, ↓S_name_b hra, ed_rv (hd _ _), ↓E_nameNumber_b hra hn, ↓tk', c2, d1, ↓Option.bind_some, ↓jzo_0b, ↓jzo_1b, ↓jzo_bb, Option.toList_some, Option.toList_none, List.cons_append, List.nil_append, ↓reduceIte, jzo_0, jzo_1, jzo_b, jbi_t, jbi_f, i_add, ↓i_ltP, ↓i_ltN, ↓i_eqP, ↓i_eqN, i_lt, i_eq, jbi_0, pt_lt, pf_lt, pt_eq, pf_eq, pt_le, pf_le, Nat.reduceEqDiff, eq_self, true_or, or_true, false_or, or_false, true_and, and_true, false_and, and_false, jE_sw, jE_sw0]
    · rw [if_neg d1]
      simp (disch := omega) only [e_59_0, e_59_11, e_59_14, e_59_25, e_59_28, e_59_108, e_59_115, e_59_119, e_59_129, e_59_132, e_59_135, e_59_138, e_59_142, e_59_143, e_59_144, e_59_155, e_59_158, e_59_167, e_59_170, e_59_173, e_59_177, e_59_178, e_59_179, e_59_189, e_59_192, e_59_201, e_59_204, e_59_207, e_59_211, e_59_212, e_59_213, e_59_218, e_59_219, e_59_228, e_59_231, e_59_238, e_59_241, e_59_245, e_59_246, e_59_247, e_59_252, e_59_253, e_59_258, e_59_259, e_59_267, e_59_270, e_59_276, e_59_279, e_59_283, e_59_284, ↓g2', ↓g1', fr_rv, ↓fr_s_b, fs_rv, ↓S_sort_b hra, c2, d1, ↓Option.bind_some, ↓jzo_0b, ↓jzo_1b, ↓jzo_bb, Option.toList_some, Option.toList_none, List.cons_append, List.nil_append, ↓reduceIte, jzo_0, jzo_1, jzo_b, jbi_t, jbi_f, i_add, ↓i_ltP, ↓i_ltN, ↓i_eqP, ↓i_eqN, i_lt, i_eq, jbi_0, pt_lt, pf_lt, pt_eq, pf_eq, pt_le, pf_le, Nat.reduceEqDiff, eq_self, true_or, or_true, false_or, or_false, true_and, and_true, false_and, and_false, jE_sw, jE_sw0]
  rw [if_neg c2]
  by_cases c3 : u = Int32.ofNat 81
  · rw [if_pos c3]
    cases d1 : sNu c (Int32.ofNat 1) (Int32.ofNat 9999) <;> simp (disch := omega) only [e_59_0, e_59_11, e_59_14, e_59_25, e_59_28, e_59_108, e_59_115, e_59_119, e_59_129, e_59_132, e_59_135, e_59_138, e_59_142, e_59_143, e_59_144, e_59_155, e_59_158, e_59_167, e_59_170, e_59_173, e_59_177, e_59_178, e_59_179, e_59_189, e_59_192, e_59_201, e_59_204, e_59_207, e_59_211, e_59_212, e_59_213, e_59_218, e_59_219, e_59_228, e_59_231, e_59_238, e_59_241, e_59_245, e_59_246, e_59_247, e_59_252, e_59_253, e_59_258, e_59_259, e_59_267, e_59_270, e_59_276, e_59_279, e_59_283, e_59_284, ↓g2', ↓g1', fr_rv, ↓fr_s_b, fs_rv, ↓S_isNumberWithin_b hra, ↓S_value_b hra, ↓D_take_b hra hX hc, c3, d1, ↓Option.bind_some, ↓jzo_0b, ↓jzo_1b, ↓jzo_bb, Option.toList_some, Option.toList_none, List.cons_append, List.nil_append, ↓reduceIte, jzo_0, jzo_1, jzo_b, jbi_t, jbi_f, i_add, ↓i_ltP, ↓i_ltN, ↓i_eqP, ↓i_eqN, i_lt, i_eq, jbi_0, pt_lt, pf_lt, pt_eq, pf_eq, pt_le, pf_le, Nat.reduceEqDiff, eq_self, true_or, or_true, false_or, or_false, true_and, and_true, false_and, and_false, jE_sw, jE_sw0, cond_true, cond_false]
  rw [if_neg c3]
  by_cases c4 : u = Int32.ofNat 82
  · rw [if_pos c4]
    simp (disch := omega) only [e_59_0, e_59_11, e_59_14, e_59_25, e_59_28, e_59_108, e_59_115, e_59_119, e_59_129, e_59_132, e_59_135, e_59_138, e_59_142, e_59_143, e_59_144, e_59_155, e_59_158, e_59_167, e_59_170, e_59_173, e_59_177, e_59_178, e_59_179, e_59_189, e_59_192, e_59_201, e_59_204, e_59_207, e_59_211, e_59_212, e_59_213, e_59_218, e_59_219, e_59_228, e_59_231, e_59_238, e_59_241, e_59_245, e_59_246, e_59_247, e_59_252, e_59_253, e_59_258, e_59_259, e_59_267, e_59_270, e_59_276, e_59_279, e_59_283, e_59_284, ↓g2', ↓g1', fr_rv, ↓D_takeTrigger_b hra hX hc, c4, ↓Option.bind_some, ↓jzo_0b, ↓jzo_1b, ↓jzo_bb, Option.toList_some, Option.toList_none, List.cons_append, List.nil_append, ↓reduceIte, jzo_0, jzo_1, jzo_b, jbi_t, jbi_f, i_add, ↓i_ltP, ↓i_ltN, ↓i_eqP, ↓i_eqN, i_lt, i_eq, jbi_0, pt_lt, pf_lt, pt_eq, pf_eq, pt_le, pf_le, Nat.reduceEqDiff, eq_self, true_or, or_true, false_or, or_false, true_and, and_true, false_and, and_false, jE_sw, jE_sw0]
  rw [if_neg c4]
  by_cases c5 : u = Int32.ofNat 84
  · rw [if_pos c5]
    cases d1 : sWd c (Int32.ofNat 32768) <;> simp (disch := omega) only [e_59_0, e_59_11, e_59_14, e_59_25, e_59_28, e_59_108, e_59_115, e_59_119, e_59_129, e_59_132, e_59_135, e_59_138, e_59_142, e_59_143, e_59_144, e_59_155, e_59_158, e_59_167, e_59_170, e_59_173, e_59_177, e_59_178, e_59_179, e_59_189, e_59_192, e_59_201, e_59_204, e_59_207, e_59_211, e_59_212, e_59_213, e_59_218, e_59_219, e_59_228, e_59_231, e_59_238, e_59_241, e_59_245, e_59_246, e_59_247, e_59_252, e_59_253, e_59_258, e_59_259, e_59_267, e_59_270, e_59_276, e_59_279, e_59_283, e_59_284, ↓g2', ↓g1', fr_rv, ↓fr_s_b, fs_rv, ↓S_isWordOf_b hra, ↓D_take_b hra hX hc, c5, d1, ↓Option.bind_some, ↓jzo_0b, ↓jzo_1b, ↓jzo_bb, Option.toList_some, Option.toList_none, List.cons_append, List.nil_append, ↓reduceIte, jzo_0, jzo_1, jzo_b, jbi_t, jbi_f, i_add, ↓i_ltP, ↓i_ltN, ↓i_eqP, ↓i_eqN, i_lt, i_eq, jbi_0, pt_lt, pf_lt, pt_eq, pf_eq, pt_le, pf_le, Nat.reduceEqDiff, eq_self, true_or, or_true, false_or, or_false, true_and, and_true, false_and, and_false, jE_sw, jE_sw0, cond_true, cond_false]
  rw [if_neg c5]
  by_cases c6 : u = Int32.ofNat 86
  · rw [if_pos c6]
    simp (disch := omega) only [e_59_0, e_59_11, e_59_14, e_59_25, e_59_28, e_59_108, e_59_115, e_59_119, e_59_129, e_59_132, e_59_135, e_59_138, e_59_142, e_59_143, e_59_144, e_59_155, e_59_158, e_59_167, e_59_170, e_59_173, e_59_177, e_59_178, e_59_179, e_59_189, e_59_192, e_59_201, e_59_204, e_59_207, e_59_211, e_59_212, e_59_213, e_59_218, e_59_219, e_59_228, e_59_231, e_59_238, e_59_241, e_59_245, e_59_246, e_59_247, e_59_252, e_59_253, e_59_258, e_59_259, e_59_267, e_59_270, e_59_276, e_59_279, e_59_283, e_59_284, ↓g2', ↓g1', fr_rv, ↓D_takeValue_b hra hX hc hs2, c6, ↓Option.bind_some, ↓jzo_0b, ↓jzo_1b, ↓jzo_bb, Option.toList_some, Option.toList_none, List.cons_append, List.nil_append, ↓reduceIte, jzo_0, jzo_1, jzo_b, jbi_t, jbi_f, i_add, ↓i_ltP, ↓i_ltN, ↓i_eqP, ↓i_eqN, i_lt, i_eq, jbi_0, pt_lt, pf_lt, pt_eq, pf_eq, pt_le, pf_le, Nat.reduceEqDiff, eq_self, true_or, or_true, false_or, or_false, true_and, and_true, false_and, and_false, jE_sw, jE_sw0]
  rw [if_neg c6]
  by_cases c7 : u = Int32.ofNat 90
  · rw [if_pos c7]
    cases d1 : sNu c (Int32.ofNat 1) (Int32.ofNat 999999) <;> simp (disch := omega) only [e_59_0, e_59_11, e_59_14, e_59_25, e_59_28, e_59_108, e_59_115, e_59_119, e_59_129, e_59_132, e_59_135, e_59_138, e_59_142, e_59_143, e_59_144, e_59_155, e_59_158, e_59_167, e_59_170, e_59_173, e_59_177, e_59_178, e_59_179, e_59_189, e_59_192, e_59_201, e_59_204, e_59_207, e_59_211, e_59_212, e_59_213, e_59_218, e_59_219, e_59_228, e_59_231, e_59_238, e_59_241, e_59_245, e_59_246, e_59_247, e_59_252, e_59_253, e_59_258, e_59_259, e_59_267, e_59_270, e_59_276, e_59_279, e_59_283, e_59_284, ↓g2', ↓g1', fr_rv, ↓fr_s_b, fs_rv, ↓S_isNumberWithin_b hra, ↓S_value_b hra, ↓D_take_b hra hX hc, c7, d1, ↓Option.bind_some, ↓jzo_0b, ↓jzo_1b, ↓jzo_bb, Option.toList_some, Option.toList_none, List.cons_append, List.nil_append, ↓reduceIte, jzo_0, jzo_1, jzo_b, jbi_t, jbi_f, i_add, ↓i_ltP, ↓i_ltN, ↓i_eqP, ↓i_eqN, i_lt, i_eq, jbi_0, pt_lt, pf_lt, pt_eq, pf_eq, pt_le, pf_le, Nat.reduceEqDiff, eq_self, true_or, or_true, false_or, or_false, true_and, and_true, false_and, and_false, jE_sw, jE_sw0, cond_true, cond_false]
  rw [if_neg c7]
  cases d1 : sSg c u <;> simp (disch := omega) only [e_59_0, e_59_11, e_59_14, e_59_25, e_59_28, e_59_108, e_59_115, e_59_119, e_59_129, e_59_132, e_59_135, e_59_138, e_59_142, e_59_143, e_59_144, e_59_155, e_59_158, e_59_167, e_59_170, e_59_173, e_59_177, e_59_178, e_59_179, e_59_189, e_59_192, e_59_201, e_59_204, e_59_207, e_59_211, e_59_212, e_59_213, e_59_218, e_59_219, e_59_228, e_59_231, e_59_238, e_59_241, e_59_245, e_59_246, e_59_247, e_59_252, e_59_253, e_59_258, e_59_259, e_59_267, e_59_270, e_59_276, e_59_279, e_59_283, e_59_284, ↓g2', ↓g1', fr_rv, ↓fr_s_b, fs_rv, ↓S_isSignOf_b hra, ↓D_take_b hra hX hc, c1, c2, c3, c4, c5, c6, c7, d1, ↓Option.bind_some, ↓jzo_0b, ↓jzo_1b, ↓jzo_bb, Option.toList_some, Option.toList_none, List.cons_append, List.nil_append, ↓reduceIte, jzo_0, jzo_1, jzo_b, jbi_t, jbi_f, i_add, ↓i_ltP, ↓i_ltN, ↓i_eqP, ↓i_eqN, i_lt, i_eq, jbi_0, pt_lt, pf_lt, pt_eq, pf_eq, pt_le, pf_le, Nat.reduceEqDiff, eq_self, true_or, or_true, false_or, or_false, true_and, and_true, false_and, and_false, jE_sw, jE_sw0, cond_true, cond_false]
theorem D_sw_b {G : jx_Gv} {h : jx_H} {r t w a : Nat} (hra : r + 1 < a) {c : jS} {D : jR} {X : jX} {u : Int32} {z2 : Option Value} (hX : xRoom X) (hn : xNc X ≤ 1000) (hc : sOk c) (ha : D.2.2.2.1 < 2147483648) {β_ : Type} {f_ : jx_R → Option β_} : (jE G (59, 30, [some (.ref r), some (.ref a), z2], [.int u], hF h r t w a c (dG G D) X)).bind f_ = f_ ((some (.int (jbi (tSw u c (D.1, D.2.1, D.2.2.1 + 1, D.2.2.2) X).1)), hF h r t w a c (dG G (tSw u c (D.1, D.2.1, D.2.2.1 + 1, D.2.2.2) X).2.1) (tSw u c (D.1, D.2.1, D.2.2.1 + 1, D.2.2.2) X).2.2)) := bnd (D_sw hra hX hn hc ha)
def tSt (c : jS) (D : jR) (X : jX) : Bool × jR × jX := tSw (tDue D) c (D.1, D.2.1, D.2.2.1 + 1, D.2.2.2) X
theorem D_takeStep {G : jx_Gv} {h : jx_H} {r t w a : Nat} (hra : r + 1 < a) {c : jS} {D : jR} {X : jX} (hG : jLt G) (hf : D.2.1 < 11) (hs : D.2.2.1 < 2147483640) (hX : xRoom X) (hn : xNc X ≤ 1000) (hc : sOk c) (ha : D.2.2.2.1 < 2147483648) : jE G (59, 0, [some (.ref r), some (.ref a), none], [], hF h r t w a c (dG G D) X) = some (some (.int (jbi (tSt c D X).1)), hF h r t w a c (dG G (tSt c D X).2.1) (tSt c D X).2.2) := by
  have e := hG.1 D.2.1 hf
  have e' := fun {β : Type} {f : Nat → Option β} => bnd (f := f) e
  have hl := jlen_le D.2.1 hf
  unfold tSt
  refine Eq.trans ?_ (D_sw hra (u := tDue D) (z2 := none) hX hn hc ha)
  unfold tDue
  by_cases c1 : D.2.2.1 < jlen.getD D.2.1 0
  · rw [if_pos c1]
    simp (disch := omega) only [e_59_0, e_59_11, e_59_14, e_59_25, e_59_28, ↓gr_step_b, ↓gr_form_b, ↓e', ↓L_length_b hG, ↓L_charAt_b hG, ↓Option.bind_some, ↓jzo_0b, ↓jzo_1b, ↓jzo_bb, Option.toList_some, Option.toList_none, List.cons_append, List.nil_append, ↓reduceIte, jzo_0, jzo_1, jzo_b, jbi_t, jbi_f, i_add, ↓i_ltP, ↓i_ltN, ↓i_eqP, ↓i_eqN, i_lt, i_eq, jbi_0, pt_lt, pf_lt, pt_eq, pf_eq, pt_le, pf_le, Nat.reduceEqDiff, eq_self, true_or, or_true, false_or, or_false, true_and, and_true, false_and, and_false, jE_sw, jE_sw0]
  · rw [if_neg c1]
    simp (disch := omega) only [e_59_0, e_59_11, e_59_14, e_59_25, e_59_28, ↓gr_step_b, ↓gr_form_b, ↓e', ↓L_length_b hG, ↓Option.bind_some, ↓jzo_0b, ↓jzo_1b, ↓jzo_bb, Option.toList_some, Option.toList_none, List.cons_append, List.nil_append, ↓reduceIte, jzo_0, jzo_1, jzo_b, jbi_t, jbi_f, i_add, ↓i_ltP, ↓i_ltN, ↓i_eqP, ↓i_eqN, i_lt, i_eq, jbi_0, pt_lt, pf_lt, pt_eq, pf_eq, pt_le, pf_le, Nat.reduceEqDiff, eq_self, true_or, or_true, false_or, or_false, true_and, and_true, false_and, and_false, jE_sw, jE_sw0]

theorem D_takeStep_b {G : jx_Gv} {h : jx_H} {r t w a : Nat} (hra : r + 1 < a) {c : jS} {D : jR} {X : jX} (hG : jLt G) (hf : D.2.1 < 11) (hs : D.2.2.1 < 2147483640) (hX : xRoom X) (hn : xNc X ≤ 1000) (hc : sOk c) (ha : D.2.2.2.1 < 2147483648) {β_ : Type} {f_ : jx_R → Option β_} : (jE G (59, 0, [some (.ref r), some (.ref a), none], [], hF h r t w a c (dG G D) X)).bind f_ = f_ ((some (.int (jbi (tSt c D X).1)), hF h r t w a c (dG G (tSt c D X).2.1) (tSt c D X).2.2)) := bnd (D_takeStep hra hG hf hs hX hn hc ha)