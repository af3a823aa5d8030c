/-! THE REFERENCE GOES OVER BLANKS AND LETTERS -/
def lS (S : Nat → Int32) (p l : Nat) (k v : Int32) (tl : Nat) : Nat → Int32 := fun j => if j = 2 then Int32.ofNat p else if j = 3 then Int32.ofNat l else if j = 4 then k else if j = 5 then v else if j = 6 then Int32.ofNat tl else S j
def hL (h : jx_H) (b : Nat) (S : Nat → Int32) (A : Nat → Nat → Int32) (p l : Nat) (k v : Int32) (tl : Nat) : jx_H := hR h b (lS S p l k v tl) A
section JHL
variable {h : jx_H} {b i p l tl n : Nat} {S : Nat → Int32} {A : Nat → Nat → Int32} {k v x : Int32} {av : List Value}
theorem lS_2 : upd (lS S p l k v tl) 2 (Int32.ofNat n) = lS S n l k v tl := by
  funext j
  unfold upd lS
  by_cases e : j = 2
  · rw [if_pos e, if_pos e]
  · rw [if_neg e, if_neg e, if_neg e]
theorem lS_3 : upd (lS S p l k v tl) 3 (Int32.ofNat n) = lS S p n k v tl := by
  funext j
  unfold upd lS
  by_cases e : j = 3
  · subst e
    rfl
  · rw [if_neg e, if_neg e, if_neg e]
theorem lS_4 : upd (lS S p l k v tl) 4 x = lS S p l x v tl := by
  funext j
  unfold upd lS
  by_cases e : j = 4
  · subst e
    rfl
  · rw [if_neg e, if_neg e, if_neg e]
theorem lS_5 : upd (lS S p l k v tl) 5 x = lS S p l k x tl := by
  funext j
  unfold upd lS
  by_cases e : j = 5
  · subst e
    rfl
  · rw [if_neg e, if_neg e, if_neg e]
theorem lS_6 : upd (lS S p l k v tl) 6 (Int32.ofNat n) = lS S p l k v n := by
  funext j
  unfold upd lS
  by_cases e : j = 6
  · subst e
    rfl
  · rw [if_neg e, if_neg e, if_neg e]
theorem lr_v : jx_recv (hL h b S A p l k v tl) (.ref b :: av) (some 8) = true := rr_v
theorem lg_at : jx_fI (hL h b S A p l k v tl) b 8 2 = some (Int32.ofNat p) := rg_at
theorem lg_at_b  {β_ : Type} {f_ : Int32 → Option β_} : (jx_fI (hL h b S A p l k v tl) b 8 2).bind f_ = f_ ((Int32.ofNat p)) := bnd (lg_at )
theorem lg_line : jx_fI (hL h b S A p l k v tl) b 8 3 = some (Int32.ofNat l) := rg_line
theorem lg_line_b  {β_ : Type} {f_ : Int32 → Option β_} : (jx_fI (hL h b S A p l k v tl) b 8 3).bind f_ = f_ ((Int32.ofNat l)) := bnd (lg_line )
theorem lg_kind : jx_fI (hL h b S A p l k v tl) b 8 4 = some k := rg_kind
theorem lg_kind_b  {β_ : Type} {f_ : Int32 → Option β_} : (jx_fI (hL h b S A p l k v tl) b 8 4).bind f_ = f_ (k) := bnd (lg_kind )
theorem lg_value : jx_fI (hL h b S A p l k v tl) b 8 5 = some v := rg_value
theorem lg_value_b  {β_ : Type} {f_ : Int32 → Option β_} : (jx_fI (hL h b S A p l k v tl) b 8 5).bind f_ = f_ (v) := bnd (lg_value )
theorem lp_at : jx_put (hL h b S A p l k v tl) b 8 2 (.int (Int32.ofNat n)) = some (hL h b S A n l k v tl) := by
  unfold hL
  rw [rp_at, lS_2]
theorem lp_at_b  {β_ : Type} {f_ : jx_H → Option β_} : (jx_put (hL h b S A p l k v tl) b 8 2 (.int (Int32.ofNat n))).bind f_ = f_ ((hL h b S A n l k v tl)) := bnd (lp_at )
theorem lp_line : jx_put (hL h b S A p l k v tl) b 8 3 (.int (Int32.ofNat n)) = some (hL h b S A p n k v tl) := by
  unfold hL
  rw [rp_line, lS_3]
theorem lp_line_b  {β_ : Type} {f_ : jx_H → Option β_} : (jx_put (hL h b S A p l k v tl) b 8 3 (.int (Int32.ofNat n))).bind f_ = f_ ((hL h b S A p n k v tl)) := bnd (lp_line )
theorem lp_kind : jx_put (hL h b S A p l k v tl) b 8 4 (.int x) = some (hL h b S A p l x v tl) := by
  unfold hL
  rw [rp_kind, lS_4]
theorem lp_kind_b  {β_ : Type} {f_ : jx_H → Option β_} : (jx_put (hL h b S A p l k v tl) b 8 4 (.int x)).bind f_ = f_ ((hL h b S A p l x v tl)) := bnd (lp_kind )
theorem lp_value : jx_put (hL h b S A p l k v tl) b 8 5 (.int x) = some (hL h b S A p l k x tl) := by
  unfold hL
  rw [rp_value, lS_5]
theorem lp_value_b  {β_ : Type} {f_ : jx_H → Option β_} : (jx_put (hL h b S A p l k v tl) b 8 5 (.int x)).bind f_ = f_ ((hL h b S A p l k x tl)) := bnd (lp_value )
theorem lp_tokenLine : jx_put (hL h b S A p l k v tl) b 8 6 (.int (Int32.ofNat n)) = some (hL h b S A p l k v n) := by
  unfold hL
  rw [rp_tokenLine, lS_6]
theorem lp_tokenLine_b  {β_ : Type} {f_ : jx_H → Option β_} : (jx_put (hL h b S A p l k v tl) b 8 6 (.int (Int32.ofNat n))).bind f_ = f_ ((hL h b S A p l k v n)) := bnd (lp_tokenLine )
end JHL
theorem Q_here {G : jx_Gv} {h : jx_H} {b : Nat} {S : Nat → Int32} {A : Nat → Nat → Int32} {p l : Nat} {k v : Int32} {tl len : Nat} (hs : S 0 = Int32.ofNat len) (hp2 : p < 2147483648) (hl : len ≤ 2000) : jE G (71, 0, [some (.ref b)], [], hL h b S A p l k v tl) = some (some (.int (toc (A 1) len p)), hL h b S A p l k v tl) := N_here (S := lS S p l k v tl) rfl hs hp2 hl
theorem Q_here_b {G : jx_Gv} {h : jx_H} {b : Nat} {S : Nat → Int32} {A : Nat → Nat → Int32} {p l : Nat} {k v : Int32} {tl len : Nat} (hs : S 0 = Int32.ofNat len) (hp2 : p < 2147483648) (hl : len ≤ 2000) {β_ : Type} {f_ : jx_R → Option β_} : (jE G (71, 0, [some (.ref b)], [], hL h b S A p l k v tl)).bind f_ = f_ ((some (.int (toc (A 1) len p)), hL h b S A p l k v tl)) := bnd (Q_here hs hp2 hl)
theorem toc_blk {f : Nat → Int32} {len p : Nat} : (p < len ∧ wblk (f p) = true) ↔ wblk (toc f len p) = true := by
  by_cases c : p < len
  · rw [show toc f len p = f p from if_pos c]
    exact ⟨fun q => q.2, fun q => ⟨c, q⟩⟩
  · rw [show toc f len p = -(Int32.ofNat 1) from if_neg c]
    exact ⟨fun q => absurd q.1 c, fun q => absurd q (by decide)⟩
theorem Q_skip {G : jx_Gv} {h : jx_H} {b : Nat} {S : Nat → Int32} {A : Nat → Nat → Int32} {k v : Int32} {tl len : Nat} {z1 z2 z3 : Option Value} (hs : S 0 = Int32.ofNat len) (hl : len ≤ 2000) : ∀ (d p l : Nat), p + d = 2001 → p ≤ len → l ≤ 2001 + p → jE G (77, 0, [some (.ref b), z1, z2, z3], [], hL h b S A p l k v tl) = jE G (77, 68, [some (.ref b), z1, z2, z3], [], hL h b S A (lsk (A 1) len d p l).1 (lsk (A 1) len d p l).2 k v tl)
  | 0, p, l, hd, hp, hll => by omega
  | d + 1, p, l, hd, hp, hll => by
    have hp2 : p < 2147483648 := by omega
    have q0 := Q_here (G := G) (h := h) (b := b) (S := S) (A := A) (p := p) (l := l) (k := k) (v := v) (tl := tl) hs hp2 hl
    have q0' := fun {β : Type} {f : jx_R → Option β} => bnd (f := f) q0
    have q1 := Q_here (G := G) (h := h) (b := b) (S := S) (A := A) (p := p) (l := l + 1) (k := k) (v := v) (tl := tl) hs hp2 hl
    rw [e_77_0, lsk]
    by_cases c : p < len ∧ wblk (A 1 p) = true
    · have et : toc (A 1) len p = A 1 p := if_pos c.1
      rw [if_pos c]
      rw [et] at q0'
      have ih := fun l hll => Q_skip (G := G) (h := h) (b := b) (A := A) (k := k) (v := v) (tl := tl) (z1 := z1) (z2 := z2) (z3 := z3) hs hl d (p + 1) l (by omega) (by omega) hll
      have cb := c.2
      unfold wblk at cb
      by_cases c10 : A 1 p = Int32.ofNat 10
      · rw [if_pos c10, ← ih (l + 1) (by omega)]
        simp (disch := omega) only [e_77_4, e_77_9, e_77_13, e_77_18, e_77_22, e_77_27, e_77_31, e_77_36, e_77_40, e_77_45, e_77_55, e_77_85, e_77_90, e_77_98, e_77_102, e_77_109, e_77_112, e_77_115, e_77_119, e_77_122, e_77_125, e_77_138, e_77_150, e_77_154, e_77_163, e_77_178, e_77_182, e_77_189, e_77_193, e_77_194, e_77_205, e_77_215, e_77_221, e_77_225, e_77_228, e_77_234, e_77_237, e_77_240, e_77_251, e_77_259, e_77_277, e_77_289, e_77_293, e_77_296, e_77_299, e_77_303, e_77_304, e_77_315, e_77_322, e_77_328, e_77_334, e_77_340, e_77_346, e_77_352, e_77_358, e_77_364, e_77_368, e_77_369, e_77_387, lr_v, ↓q0', ↓lg_line_b, ↓lp_line_b, ↓lg_at_b, ↓lp_at_b, c10, ↓Option.bind_some, ↓jzo_0b, ↓jzo_1b, ↓jzo_bb, Option.toList_some, Option.toList_none, List.cons_append, List.nil_append, ↓reduceIte, jzo_0, jzo_1, jzo_b, jbi_t, jbi_f, i_add, ↓i_ltP, ↓i_ltN, ↓i_eqP, ↓i_eqN, i_lt, i_eq, jbi_0, pt_lt, pf_lt, pt_eq, pf_eq, pt_le, pf_le, Nat.reduceEqDiff, eq_self, true_or, or_true, false_or, or_false, true_and, and_true, false_and, and_false, jE_sw, jE_sw0]
      · rw [if_neg c10, ← ih l (by omega)]
        by_cases c9 : A 1 p = Int32.ofNat 9
        · simp (disch := omega) only [e_77_4, e_77_9, e_77_13, e_77_18, e_77_22, e_77_27, e_77_31, e_77_36, e_77_40, e_77_45, e_77_55, e_77_85, e_77_90, e_77_98, e_77_102, e_77_109, e_77_112, e_77_115, e_77_119, e_77_122, e_77_125, e_77_138, e_77_150, e_77_154, e_77_163, e_77_178, e_77_182, e_77_189, e_77_193, e_77_194, e_77_205, e_77_215, e_77_221, e_77_225, e_77_228, e_77_234, e_77_237, e_77_240, e_77_251, e_77_259, e_77_277, e_77_289, e_77_293, e_77_296, e_77_299, e_77_303, e_77_304, e_77_315, e_77_322, e_77_328, e_77_334, e_77_340, e_77_346, e_77_352, e_77_358, e_77_364, e_77_368, e_77_369, e_77_387, lr_v, ↓q0', ↓lg_at_b, ↓lp_at_b, c9, ↓Option.bind_some, ↓jzo_0b, ↓jzo_1b, ↓jzo_bb, Option.toList_some, Option.toList_none, List.cons_append, List.nil_append, ↓reduceIte, jzo_0, jzo_1, jzo_b, jbi_t, jbi_f, i_add, ↓i_ltP, ↓i_ltN, ↓i_eqP, ↓i_eqN, i_lt, i_eq, jbi_0, pt_lt, pf_lt, pt_eq, pf_eq, pt_le, pf_le, Nat.reduceEqDiff, eq_self, true_or, or_true, false_or, or_false, true_and, and_true, false_and, and_false, jE_sw, jE_sw0]
        by_cases c13 : A 1 p = Int32.ofNat 13
        · simp (disch := omega) only [e_77_4, e_77_9, e_77_13, e_77_18, e_77_22, e_77_27, e_77_31, e_77_36, e_77_40, e_77_45, e_77_55, e_77_85, e_77_90, e_77_98, e_77_102, e_77_109, e_77_112, e_77_115, e_77_119, e_77_122, e_77_125, e_77_138, e_77_150, e_77_154, e_77_163, e_77_178, e_77_182, e_77_189, e_77_193, e_77_194, e_77_205, e_77_215, e_77_221, e_77_225, e_77_228, e_77_234, e_77_237, e_77_240, e_77_251, e_77_259, e_77_277, e_77_289, e_77_293, e_77_296, e_77_299, e_77_303, e_77_304, e_77_315, e_77_322, e_77_328, e_77_334, e_77_340, e_77_346, e_77_352, e_77_358, e_77_364, e_77_368, e_77_369, e_77_387, lr_v, ↓q0', ↓lg_at_b, ↓lp_at_b, c13, ↓Option.bind_some, ↓jzo_0b, ↓jzo_1b, ↓jzo_bb, Option.toList_some, Option.toList_none, List.cons_append, List.nil_append, ↓reduceIte, jzo_0, jzo_1, jzo_b, jbi_t, jbi_f, i_add, ↓i_ltP, ↓i_ltN, ↓i_eqP, ↓i_eqN, i_lt, i_eq, jbi_0, pt_lt, pf_lt, pt_eq, pf_eq, pt_le, pf_le, Nat.reduceEqDiff, eq_self, true_or, or_true, false_or, or_false, true_and, and_true, false_and, and_false, jE_sw, jE_sw0]
        by_cases c32 : A 1 p = Int32.ofNat 32
        · simp (disch := omega) only [e_77_4, e_77_9, e_77_13, e_77_18, e_77_22, e_77_27, e_77_31, e_77_36, e_77_40, e_77_45, e_77_55, e_77_85, e_77_90, e_77_98, e_77_102, e_77_109, e_77_112, e_77_115, e_77_119, e_77_122, e_77_125, e_77_138, e_77_150, e_77_154, e_77_163, e_77_178, e_77_182, e_77_189, e_77_193, e_77_194, e_77_205, e_77_215, e_77_221, e_77_225, e_77_228, e_77_234, e_77_237, e_77_240, e_77_251, e_77_259, e_77_277, e_77_289, e_77_293, e_77_296, e_77_299, e_77_303, e_77_304, e_77_315, e_77_322, e_77_328, e_77_334, e_77_340, e_77_346, e_77_352, e_77_358, e_77_364, e_77_368, e_77_369, e_77_387, lr_v, ↓q0', ↓lg_at_b, ↓lp_at_b, c32, ↓Option.bind_some, ↓jzo_0b, ↓jzo_1b, ↓jzo_bb, Option.toList_some, Option.toList_none, List.cons_append, List.nil_append, ↓reduceIte, jzo_0, jzo_1, jzo_b, jbi_t, jbi_f, i_add, ↓i_ltP, ↓i_ltN, ↓i_eqP, ↓i_eqN, i_lt, i_eq, jbi_0, pt_lt, pf_lt, pt_eq, pf_eq, pt_le, pf_le, Nat.reduceEqDiff, eq_self, true_or, or_true, false_or, or_false, true_and, and_true, false_and, and_false, jE_sw, jE_sw0]
        · rw [decide_eq_false c9, decide_eq_false c10, decide_eq_false c13, decide_eq_false c32] at cb
          cases cb
    · rw [if_neg c]
      have cb : wblk (toc (A 1) len p) = false := by
        cases e : wblk (toc (A 1) len p)
        · rfl
        · exact absurd (toc_blk.mpr e) c
      unfold wblk at cb
      rw [Bool.or_eq_false_iff, Bool.or_eq_false_iff, Bool.or_eq_false_iff] at cb
      obtain ⟨b9, b10, b13, b32⟩ := cb
      simp (disch := omega) only [e_77_4, e_77_9, e_77_13, e_77_18, e_77_22, e_77_27, e_77_31, e_77_36, e_77_40, e_77_45, e_77_55, e_77_85, e_77_90, e_77_98, e_77_102, e_77_109, e_77_112, e_77_115, e_77_119, e_77_122, e_77_125, e_77_138, e_77_150, e_77_154, e_77_163, e_77_178, e_77_182, e_77_189, e_77_193, e_77_194, e_77_205, e_77_215, e_77_221, e_77_225, e_77_228, e_77_234, e_77_237, e_77_240, e_77_251, e_77_259, e_77_277, e_77_289, e_77_293, e_77_296, e_77_299, e_77_303, e_77_304, e_77_315, e_77_322, e_77_328, e_77_334, e_77_340, e_77_346, e_77_352, e_77_358, e_77_364, e_77_368, e_77_369, e_77_387, lr_v, ↓q0', of_decide_eq_false b9, of_decide_eq_false b10, of_decide_eq_false b13, of_decide_eq_false b32, ↓Option.bind_some, ↓jzo_0b, ↓jzo_1b, ↓jzo_bb, Option.toList_some, Option.toList_none, List.cons_append, List.nil_append, ↓reduceIte, jzo_0, jzo_1, jzo_b, jbi_t, jbi_f, i_add, ↓i_ltP, ↓i_ltN, ↓i_eqP, ↓i_eqN, i_lt, i_eq, jbi_0, pt_lt, pf_lt, pt_eq, pf_eq, pt_le, pf_le, Nat.reduceEqDiff, eq_self, true_or, or_true, false_or, or_false, true_and, and_true, false_and, and_false, jE_sw, jE_sw0]
