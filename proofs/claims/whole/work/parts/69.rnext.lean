/-! THE REFERENCE'S NEXT TOKEN -/
def lal (f : Nat → Int32) (len : Nat) : Nat → Nat → Nat
  | 0, p => p
  | d + 1, p => cond (waln (toc f len p)) (lal f len d (p + 1)) p
theorem lal_le {f : Nat → Int32} {len : Nat} : ∀ d p : Nat, p ≤ len → p ≤ lal f len d p ∧ lal f len d p ≤ len
  | 0, p, h => ⟨Nat.le_refl _, h⟩
  | d + 1, p, h => by
    unfold lal
    cases c : waln (toc f len p)
    · exact ⟨Nat.le_refl _, h⟩
    · have hp : p < len := by
        apply Classical.byContradiction
        intro q
        unfold waln at c
        rw [(toc_out q).2.1, (toc_out q).2.2.1] at c
        cases c
      have := lal_le (f := f) d (p + 1) hp
      exact ⟨by rw [cond_true]; omega, this.2⟩
theorem Q_run {G : jx_Gv} {h : jx_H} {b : Nat} {S : Nat → Int32} {A : Nat → Nat → Int32} {k v x1 x2 : Int32} {l tl len : Nat} {z3 : Option Value} (hs : S 0 = Int32.ofNat len) (hl : len ≤ 2000) : ∀ (d p : Nat), p + d = 2001 → p ≤ len → jE G (77, 105, [some (.ref b), some (.int x1), some (.int x2), z3], [], hL h b S A p l k v tl) = jE G (77, 138, [some (.ref b), some (.int x1), some (.int x2), z3], [], hL h b S A (lal (A 1) len d p) l k v tl)
  | 0, p, hd, hp => by omega
  | d + 1, p, hd, hp => by
    have hp2 : p < 2147483648 := by omega
    have q0 := Q_here (G := G) (h := h) (b := b) (S := S) (A := A) (p := p) (l := l) (k := k) (v := v) (tl := tl) hs hp2 hl
    have q0' := fun {β : Type} {f : jx_R → Option β} => bnd (f := f) q0
    rw [e_77_105, lal]
    unfold waln
    cases c1 : wlet (toc (A 1) len p)
    · cases c2 : wdig (toc (A 1) len p)
      · rw [Bool.or_self, cond_false]
        simp (disch := omega) only [e_77_4, e_77_9, e_77_13, e_77_18, e_77_22, e_77_27, e_77_31, e_77_36, e_77_40, e_77_45, e_77_55, e_77_68, e_77_85, e_77_90, e_77_98, e_77_102, e_77_109, e_77_112, e_77_115, e_77_119, e_77_122, e_77_125, e_77_150, e_77_154, e_77_163, e_77_178, e_77_182, e_77_189, e_77_193, e_77_194, e_77_205, e_77_215, e_77_221, e_77_225, e_77_228, e_77_234, e_77_237, e_77_240, e_77_251, e_77_259, e_77_277, e_77_289, e_77_293, e_77_296, e_77_299, e_77_303, e_77_304, e_77_315, e_77_322, e_77_328, e_77_334, e_77_340, e_77_346, e_77_352, e_77_358, e_77_364, e_77_368, e_77_369, e_77_387, lr_v, ↓q0', ↓N_isLetter_b, ↓N_isDigit_b, c1, c2, ↓Option.bind_some, ↓jzo_0b, ↓jzo_1b, ↓jzo_bb, Option.toList_some, Option.toList_none, List.cons_append, List.nil_append, ↓reduceIte, jzo_0, jzo_1, jzo_b, jbi_t, jbi_f, i_add, ↓i_ltP, ↓i_ltN, ↓i_eqP, ↓i_eqN, i_lt, i_eq, jbi_0, pt_lt, pf_lt, pt_eq, pf_eq, pt_le, pf_le, Nat.reduceEqDiff, eq_self, true_or, or_true, false_or, or_false, true_and, and_true, false_and, and_false, jE_sw, jE_sw0]
      · rw [Bool.or_true, cond_true]
        have hp3 : p < len := by
          apply Classical.byContradiction
          intro q
          rw [(toc_out q).2.1] at c2
          cases c2
        rw [← Q_run (G := G) (h := h) (b := b) (A := A) (k := k) (v := v) (x1 := x1) (x2 := x2) (l := l) (tl := tl) (z3 := z3) hs hl d (p + 1) (by omega) hp3]
        simp (disch := omega) only [e_77_4, e_77_9, e_77_13, e_77_18, e_77_22, e_77_27, e_77_31, e_77_36, e_77_40, e_77_45, e_77_55, e_77_68, e_77_85, e_77_90, e_77_98, e_77_102, e_77_109, e_77_112, e_77_115, e_77_119, e_77_122, e_77_125, e_77_150, e_77_154, e_77_163, e_77_178, e_77_182, e_77_189, e_77_193, e_77_194, e_77_205, e_77_215, e_77_221, e_77_225, e_77_228, e_77_234, e_77_237, e_77_240, e_77_251, e_77_259, e_77_277, e_77_289, e_77_293, e_77_296, e_77_299, e_77_303, e_77_304, e_77_315, e_77_322, e_77_328, e_77_334, e_77_340, e_77_346, e_77_352, e_77_358, e_77_364, e_77_368, e_77_369, e_77_387, lr_v, ↓q0', ↓N_isLetter_b, ↓N_isDigit_b, ↓lg_at_b, ↓lp_at_b, c1, c2, Bool.true_eq_false, ↓Option.bind_some, ↓jzo_0b, ↓jzo_1b, ↓jzo_bb, Option.toList_some, Option.toList_none, List.cons_append, List.nil_append, ↓reduceIte, jzo_0, jzo_1, jzo_b, jbi_t, jbi_f, i_add, ↓i_ltP, ↓i_ltN, ↓i_eqP, ↓i_eqN, i_lt, i_eq, jbi_0, pt_lt, pf_lt, pt_eq, pf_eq, pt_le, pf_le, Nat.reduceEqDiff, eq_self, true_or, or_true, false_or, or_false, true_and, and_true, false_and, and_false, jE_sw, jE_sw0]
    · rw [Bool.true_or, cond_true]
      have hp3 : p < len := by
        apply Classical.byContradiction
        intro q
        rw [(toc_out q).2.2.1] at c1
        cases c1
      rw [← Q_run (G := G) (h := h) (b := b) (A := A) (k := k) (v := v) (x1 := x1) (x2 := x2) (l := l) (tl := tl) (z3 := z3) hs hl d (p + 1) (by omega) hp3]
      simp (disch := omega) only [e_77_4, e_77_9, e_77_13, e_77_18, e_77_22, e_77_27, e_77_31, e_77_36, e_77_40, e_77_45, e_77_55, e_77_68, e_77_85, e_77_90, e_77_98, e_77_102, e_77_109, e_77_112, e_77_115, e_77_119, e_77_122, e_77_125, e_77_150, e_77_154, e_77_163, e_77_178, e_77_182, e_77_189, e_77_193, e_77_194, e_77_205, e_77_215, e_77_221, e_77_225, e_77_228, e_77_234, e_77_237, e_77_240, e_77_251, e_77_259, e_77_277, e_77_289, e_77_293, e_77_296, e_77_299, e_77_303, e_77_304, e_77_315, e_77_322, e_77_328, e_77_334, e_77_340, e_77_346, e_77_352, e_77_358, e_77_364, e_77_368, e_77_369, e_77_387, lr_v, ↓q0', ↓N_isLetter_b, ↓N_isDigit_b, ↓lg_at_b, ↓lp_at_b, c1, Bool.true_eq_false, ↓Option.bind_some, ↓jzo_0b, ↓jzo_1b, ↓jzo_bb, Option.toList_some, Option.toList_none, List.cons_append, List.nil_append, ↓reduceIte, jzo_0, jzo_1, jzo_b, jbi_t, jbi_f, i_add, ↓i_ltP, ↓i_ltN, ↓i_eqP, ↓i_eqN, i_lt, i_eq, jbi_0, pt_lt, pf_lt, pt_eq, pf_eq, pt_le, pf_le, Nat.reduceEqDiff, eq_self, true_or, or_true, false_or, or_false, true_and, and_true, false_and, and_false, jE_sw, jE_sw0]
def lnd (f : Nat → Int32) (len : Nat) : Nat → Nat → Int32 → Int32 × Nat
  | 0, p, v => (v, p)
  | d + 1, p, v => cond (wdig (toc f len p)) (lnd f len d (p + 1) (Int32.ofNat 10 * v + toc f len p - Int32.ofNat 48)) (v, p)
theorem Q_num {G : jx_Gv} {h : jx_H} {b : Nat} {S : Nat → Int32} {A : Nat → Nat → Int32} {k v x2 : Int32} {l tl len fr : Nat} (hs : S 0 = Int32.ofNat len) (hl : len ≤ 2000) : ∀ (d p : Nat) (x : Int32), p + d = fr + 7 → p ≤ len → fr ≤ p → jE G (77, 230, [some (.ref b), some (.int (Int32.ofNat fr)), some (.int x2), some (.int x)], [], hL h b S A p l k v tl) = jE G (77, 277, [some (.ref b), some (.int (Int32.ofNat fr)), some (.int x2), some (.int (lnd (A 1) len d p x).1)], [], hL h b S A (lnd (A 1) len d p x).2 l k v tl)
  | 0, p, x, hd, hp, hf => by
    have hp2 : p < 2147483648 := by omega
    have q0 := Q_here (G := G) (h := h) (b := b) (S := S) (A := A) (p := p) (l := l) (k := k) (v := v) (tl := tl) hs hp2 hl
    have q0' := fun {β : Type} {f : jx_R → Option β} => bnd (f := f) q0
    rw [e_77_230, lnd]
    cases c2 : wdig (toc (A 1) len p) <;> simp (disch := omega) only [e_77_4, e_77_9, e_77_13, e_77_18, e_77_22, e_77_27, e_77_31, e_77_36, e_77_40, e_77_45, e_77_55, e_77_68, e_77_85, e_77_90, e_77_98, e_77_102, e_77_109, e_77_112, e_77_115, e_77_119, e_77_122, e_77_125, e_77_138, e_77_150, e_77_154, e_77_163, e_77_178, e_77_182, e_77_189, e_77_193, e_77_194, e_77_205, e_77_215, e_77_221, e_77_225, e_77_228, e_77_234, e_77_237, e_77_240, e_77_251, e_77_259, e_77_289, e_77_293, e_77_296, e_77_299, e_77_303, e_77_304, e_77_315, e_77_322, e_77_328, e_77_334, e_77_340, e_77_346, e_77_352, e_77_358, e_77_364, e_77_368, e_77_369, e_77_387, lr_v, ↓q0', ↓N_isDigit_b, ↓lg_at_b, i_sub, c2, Bool.true_eq_false, ↓Option.bind_some, ↓jzo_0b, ↓jzo_1b, ↓jzo_bb, Option.toList_some, Option.toList_none, List.cons_append, List.nil_append, ↓reduceIte, jzo_0, jzo_1, jzo_b, jbi_t, jbi_f, i_add, ↓i_ltP, ↓i_ltN, ↓i_eqP, ↓i_eqN, i_lt, i_eq, jbi_0, pt_lt, pf_lt, pt_eq, pf_eq, pt_le, pf_le, Nat.reduceEqDiff, eq_self, true_or, or_true, false_or, or_false, true_and, and_true, false_and, and_false, jE_sw, jE_sw0]
  | d + 1, p, x, hd, hp, hf => by
    have hp2 : p < 2147483648 := by omega
    have q0 := Q_here (G := G) (h := h) (b := b) (S := S) (A := A) (p := p) (l := l) (k := k) (v := v) (tl := tl) hs hp2 hl
    have q0' := fun {β : Type} {f : jx_R → Option β} => bnd (f := f) q0
    rw [e_77_230, lnd]
    cases c2 : wdig (toc (A 1) len p)
    · rw [cond_false]
      simp (disch := omega) only [e_77_4, e_77_9, e_77_13, e_77_18, e_77_22, e_77_27, e_77_31, e_77_36, e_77_40, e_77_45, e_77_55, e_77_68, e_77_85, e_77_90, e_77_98, e_77_102, e_77_109, e_77_112, e_77_115, e_77_119, e_77_122, e_77_125, e_77_138, e_77_150, e_77_154, e_77_163, e_77_178, e_77_182, e_77_189, e_77_193, e_77_194, e_77_205, e_77_215, e_77_221, e_77_225, e_77_228, e_77_234, e_77_237, e_77_240, e_77_251, e_77_259, e_77_289, e_77_293, e_77_296, e_77_299, e_77_303, e_77_304, e_77_315, e_77_322, e_77_328, e_77_334, e_77_340, e_77_346, e_77_352, e_77_358, e_77_364, e_77_368, e_77_369, e_77_387, lr_v, ↓q0', ↓N_isDigit_b, ↓lg_at_b, c2, ↓Option.bind_some, ↓jzo_0b, ↓jzo_1b, ↓jzo_bb, Option.toList_some, Option.toList_none, List.cons_append, List.nil_append, ↓reduceIte, jzo_0, jzo_1, jzo_b, jbi_t, jbi_f, i_add, ↓i_ltP, ↓i_ltN, ↓i_eqP, ↓i_eqN, i_lt, i_eq, jbi_0, pt_lt, pf_lt, pt_eq, pf_eq, pt_le, pf_le, Nat.reduceEqDiff, eq_self, true_or, or_true, false_or, or_false, true_and, and_true, false_and, and_false, jE_sw, jE_sw0]
    · rw [cond_true]
      have hp3 : p < len := by
        apply Classical.byContradiction
        intro q
        rw [(toc_out q).2.1] at c2
        cases c2
      rw [← Q_num (G := G) (h := h) (b := b) (A := A) (k := k) (v := v) (x2 := x2) (l := l) (tl := tl) (fr := fr) hs hl d (p + 1) _ (by omega) hp3 (by omega)]
      simp (disch := omega) only [e_77_4, e_77_9, e_77_13, e_77_18, e_77_22, e_77_27, e_77_31, e_77_36, e_77_40, e_77_45, e_77_55, e_77_68, e_77_85, e_77_90, e_77_98, e_77_102, e_77_109, e_77_112, e_77_115, e_77_119, e_77_122, e_77_125, e_77_138, e_77_150, e_77_154, e_77_163, e_77_178, e_77_182, e_77_189, e_77_193, e_77_194, e_77_205, e_77_215, e_77_221, e_77_225, e_77_228, e_77_234, e_77_237, e_77_240, e_77_251, e_77_259, e_77_289, e_77_293, e_77_296, e_77_299, e_77_303, e_77_304, e_77_315, e_77_322, e_77_328, e_77_334, e_77_340, e_77_346, e_77_352, e_77_358, e_77_364, e_77_368, e_77_369, e_77_387, lr_v, ↓q0', ↓N_isDigit_b, ↓lg_at_b, ↓lp_at_b, i_sub, c2, Bool.true_eq_false, ↓Option.bind_some, ↓jzo_0b, ↓jzo_1b, ↓jzo_bb, Option.toList_some, Option.toList_none, List.cons_append, List.nil_append, ↓reduceIte, jzo_0, jzo_1, jzo_b, jbi_t, jbi_f, i_add, ↓i_ltP, ↓i_ltN, ↓i_eqP, ↓i_eqN, i_lt, i_eq, jbi_0, pt_lt, pf_lt, pt_eq, pf_eq, pt_le, pf_le, Nat.reduceEqDiff, eq_self, true_or, or_true, false_or, or_false, true_and, and_true, false_and, and_false, jE_sw, jE_sw0]
