/-! NAMES AND WORDS AS THE REFERENCE'S NEXT TOKEN -/
theorem lS_8 {S : Nat → Int32} {p l tl : Nat} {k v x : Int32} : upd (lS S p l k v tl) 8 x = lS (upd S 8 x) p l k v tl := by
  funext j
  unfold upd lS
  by_cases e : j = 8
  · subst e
    rfl
  · simp only [if_neg e]
theorem ite_le {p : Prop} [Decidable p] {x y n : Nat} (ha : x ≤ n) (hb : y ≤ n) : (if p then x else y) ≤ n := by
  by_cases c : p
  · rw [if_pos c]; exact ha
  · rw [if_neg c]; exact hb
theorem rwc_le (v : Int64) : rwc v ≤ 16 := ite_le (by decide) (ite_le (by decide) (ite_le (by decide) (ite_le (by decide) (ite_le (by decide) (ite_le (by decide) (ite_le (by decide) (ite_le (by decide) (ite_le (by decide) (ite_le (by decide) (ite_le (by decide) (ite_le (by decide) (ite_le (by decide) (ite_le (by decide) (ite_le (by decide) (by decide)))))))))))))))
theorem rwo_le {f : Nat → Int32} {fr ln : Nat} : rwo f fr ln ≤ 16 := ite_le (ite_le (by decide) (by decide)) (ite_le (by decide) (rwc_le _))
theorem N_nameOf {G : jx_Gv} {h : jx_H} {b : Nat} {S : Nat → Int32} {A : Nat → Nat → Int32} {fr ln N : Nat} (hl : ln ≤ 12) (hf : fr + ln ≤ 2000) (hN : N < 1000) (hS : S 8 = Int32.ofNat N) (hLn : ∀ n : Nat, n ≤ 1000 → ∃ m : Nat, m ≤ 12 ∧ A 2 n = Int32.ofNat m) : jE G (76, 0, [some (.ref b), some (.int (Int32.ofNat fr)), some (.int (Int32.ofNat (fr + ln))), none, none, none], [], hR h b S A) = match nmf A fr ln N 1 with
    | some j => some (some (.int (Int32.ofNat j)), hR h b S A)
    | none => some (some (.int (Int32.ofNat (N + 1))), hR h b (nmAdd S A fr ln N).1 (nmAdd S A fr ln N).2) := by
  simp (disch := omega) only [e_76_0, e_76_10, e_76_22, e_76_26, e_76_27, e_76_43, e_76_48, e_76_72, e_76_76, e_76_77, e_76_85, e_76_90, e_76_92, e_76_98, e_76_127, e_76_155]
  exact N_no_loop hl hf hN hS hLn N 1 none none (by omega) (Nat.le_refl _)
/-- the reference's number of the name that stands between two places; its state then -/
def nmR (S : Nat → Int32) (A : Nat → Nat → Int32) (fr ln N : Nat) : Nat × (Nat → Int32) × (Nat → Nat → Int32) := match nmf A fr ln N 1 with
  | some j => (j, S, A)
  | none => (N + 1, upd S 8 (Int32.ofNat (N + 1)), (nmAdd S A fr ln N).2)
theorem Q_letter {G : jx_Gv} {h : jx_H} {b : Nat} {S : Nat → Int32} {A : Nat → Nat → Int32} {p l : Nat} {k v : Int32} {tl len : Nat} (hs : S 0 = Int32.ofNat len) (hp2 : p < 2147483648) (hl : len ≤ 2000) {z1 z2 z3 : Option Value} {N : Nat} (hp : p ≤ len) (hN : N < 1000) (hS : S 8 = Int32.ofNat N) (hLn : ∀ n : Nat, n ≤ 1000 → ∃ m : Nat, m ≤ 12 ∧ A 2 n = Int32.ofNat m) (c : ¬ toc (A 1) len p < Int32.ofNat 0) (c2 : wlet (toc (A 1) len p) = true) : jE G (77, 68, [some (.ref b), z1, z2, z3], [], hL h b S A p l k v tl) = some (none, if 12 < lal (A 1) len (2001 - p) p - p then hL h b S A (lal (A 1) len (2001 - p) p) l (Int32.ofNat 5) (Int32.ofNat 0) l else if rwo (A 1) p (lal (A 1) len (2001 - p) p - p) = 0 then hL h b (nmR S A p (lal (A 1) len (2001 - p) p - p) N).2.1 (nmR S A p (lal (A 1) len (2001 - p) p - p) N).2.2 (lal (A 1) len (2001 - p) p) l (Int32.ofNat 2) (Int32.ofNat (nmR S A p (lal (A 1) len (2001 - p) p - p) N).1) l else hL h b S A (lal (A 1) len (2001 - p) p) l (Int32.ofNat 1) (Int32.ofNat (rwo (A 1) p (lal (A 1) len (2001 - p) p - p))) l) := by
  have q0 := Q_here (G := G) (h := h) (b := b) (S := S) (A := A) (p := p) (l := l) (k := k) (v := v) (tl := l) hs hp2 hl
  have q0' := fun {β : Type} {f : jx_R → Option β} => bnd (f := f) q0
  have q1 := Q_run (G := G) (h := h) (b := b) (S := S) (A := A) (k := k) (v := v) (x1 := Int32.ofNat p) (x2 := toc (A 1) len p) (l := l) (tl := l) (z3 := z3) hs hl (2001 - p) p (by omega) hp
  have le := lal_le (f := A 1) (len := len) (2001 - p) p hp
  have hge : p + 1 ≤ lal (A 1) len (2001 - p) p := by
    have hp3 : p < len := by
      apply Classical.byContradiction
      intro q
      rw [(toc_out q).2.2.1] at c2
      cases c2
    have e : 2001 - p = (2000 - p) + 1 := by omega
    rw [e, lal]
    unfold waln
    rw [c2, Bool.true_or, cond_true]
    exact (lal_le (f := A 1) (2000 - p) (p + 1) hp3).1
  generalize lal (A 1) len (2001 - p) p = p1 at *
  obtain ⟨ln, rfl⟩ : ∃ ln, p1 = p + ln := ⟨p1 - p, by omega⟩
  rw [Nat.add_sub_cancel_left]
  have e : p + ln - p = ln := by omega
  refine Eq.trans (b := jE G (77, 105, [some (.ref b), some (.int (Int32.ofNat p)), some (.int (toc (A 1) len p)), z3], [], hL h b S A p l k v l)) ?_ (q1.trans ?_)
  · simp (disch := omega) only [e_77_4, e_77_9, e_77_13, e_77_18, e_77_22, e_77_27, e_77_31, e_77_36, e_77_40, e_77_45, e_77_55, e_77_68, e_77_85, e_77_90, e_77_98, e_77_102, e_77_109, e_77_112, e_77_115, e_77_119, e_77_122, e_77_125, e_77_138, e_77_150, e_77_154, e_77_163, e_77_178, e_77_182, e_77_189, e_77_193, e_77_194, e_77_205, e_77_215, e_77_221, e_77_225, e_77_228, e_77_234, e_77_237, e_77_240, e_77_251, e_77_259, e_77_277, e_77_289, e_77_293, e_77_296, e_77_299, e_77_303, e_77_304, e_77_315, e_77_322, e_77_328, e_77_334, e_77_340, e_77_346, e_77_352, e_77_358, e_77_364, e_77_368, e_77_369, e_77_387, lr_v, ↓q0', ↓lg_line_b, ↓lp_tokenLine_b, ↓lg_at_b, ↓N_isLetter_b, c, c2, Bool.true_eq_false, ↓Option.bind_some, ↓jzo_0b, ↓jzo_1b, ↓jzo_bb, Option.toList_some, Option.toList_none, List.cons_append, List.nil_append, ↓reduceIte, jzo_0, jzo_1, jzo_b, jbi_t, jbi_f, i_add, ↓i_ltP, ↓i_ltN, ↓i_eqP, ↓i_eqN, i_lt, i_eq, jbi_0, pt_lt, pf_lt, pt_eq, pf_eq, pt_le, pf_le, Nat.reduceEqDiff, eq_self, true_or, or_true, false_or, or_false, true_and, and_true, false_and, and_false, jE_sw, jE_sw0]
  · by_cases d1 : 12 < ln
    · rw [if_pos d1]
      simp (disch := omega) only [e_77_4, e_77_9, e_77_13, e_77_18, e_77_22, e_77_27, e_77_31, e_77_36, e_77_40, e_77_45, e_77_55, e_77_68, e_77_85, e_77_90, e_77_98, e_77_102, e_77_109, e_77_112, e_77_115, e_77_119, e_77_122, e_77_125, e_77_138, e_77_150, e_77_154, e_77_163, e_77_178, e_77_182, e_77_189, e_77_193, e_77_194, e_77_205, e_77_215, e_77_221, e_77_225, e_77_228, e_77_234, e_77_237, e_77_240, e_77_251, e_77_259, e_77_277, e_77_289, e_77_293, e_77_296, e_77_299, e_77_303, e_77_304, e_77_315, e_77_322, e_77_328, e_77_334, e_77_340, e_77_346, e_77_352, e_77_358, e_77_364, e_77_368, e_77_369, e_77_387, lr_v, ↓lg_at_b, ↓lg_kind_b, ↓lp_kind_b, ↓lp_value_b, i_sub, e, ↓Option.bind_some, ↓jzo_0b, ↓jzo_1b, ↓jzo_bb, Option.toList_some, Option.toList_none, List.cons_append, List.nil_append, ↓reduceIte, jzo_0, jzo_1, jzo_b, jbi_t, jbi_f, i_add, ↓i_ltP, ↓i_ltN, ↓i_eqP, ↓i_eqN, i_lt, i_eq, jbi_0, pt_lt, pf_lt, pt_eq, pf_eq, pt_le, pf_le, Nat.reduceEqDiff, eq_self, true_or, or_true, false_or, or_false, true_and, and_true, false_and, and_false, jE_sw, jE_sw0]
    rw [if_neg d1]
    have w := N_wordOf (G := G) (h := h) (b := b) (S := lS S (p + ln) l k v l) (A := A) (fr := p) (ln := ln) (by omega) (by omega)
    have w' := fun {β : Type} {f : jx_R → Option β} => bnd (f := f) w
    have hwl : rwo (A 1) p ln ≤ 16 := rwo_le
    have ehL : hR h b (lS S (p + ln) l k v l) A = hL h b S A (p + ln) l k v l := rfl
    rw [ehL] at w'
    by_cases d2 : rwo (A 1) p ln = 0
    · rw [if_pos d2]
      rw [d2] at w'
      have nm := N_nameOf (G := G) (h := h) (b := b) (S := lS S (p + ln) l (Int32.ofNat 2) (Int32.ofNat 0) l) (A := A) (fr := p) (ln := ln) (N := N) (by omega) (by omega) hN hS hLn
      have ehL2 : hR h b (lS S (p + ln) l (Int32.ofNat 2) (Int32.ofNat 0) l) A = hL h b S A (p + ln) l (Int32.ofNat 2) (Int32.ofNat 0) l := rfl
      rw [ehL2] at nm
      unfold nmR
      cases en : nmf A p ln N 1 with
      | some j =>
        rw [en] at nm
        have nm' := fun {β : Type} {f : jx_R → Option β} => bnd (f := f) nm
        simp (disch := omega) only [e_77_4, e_77_9, e_77_13, e_77_18, e_77_22, e_77_27, e_77_31, e_77_36, e_77_40, e_77_45, e_77_55, e_77_68, e_77_85, e_77_90, e_77_98, e_77_102, e_77_109, e_77_112, e_77_115, e_77_119, e_77_122, e_77_125, e_77_138, e_77_150, e_77_154, e_77_163, e_77_178, e_77_182, e_77_189, e_77_193, e_77_194, e_77_205, e_77_215, e_77_221, e_77_225, e_77_228, e_77_234, e_77_237, e_77_240, e_77_251, e_77_259, e_77_277, e_77_289, e_77_293, e_77_296, e_77_299, e_77_303, e_77_304, e_77_315, e_77_322, e_77_328, e_77_334, e_77_340, e_77_346, e_77_352, e_77_358, e_77_364, e_77_368, e_77_369, e_77_387, lr_v, ↓w', ↓nm', ↓lg_at_b, ↓lg_kind_b, ↓lg_value_b, ↓lp_kind_b, ↓lp_value_b, i_sub, e, ↓Option.bind_some, ↓jzo_0b, ↓jzo_1b, ↓jzo_bb, Option.toList_some, Option.toList_none, List.cons_append, List.nil_append, ↓reduceIte, jzo_0, jzo_1, jzo_b, jbi_t, jbi_f, i_add, ↓i_ltP, ↓i_ltN, ↓i_eqP, ↓i_eqN, i_lt, i_eq, jbi_0, pt_lt, pf_lt, pt_eq, pf_eq, pt_le, pf_le, Nat.reduceEqDiff, eq_self, true_or, or_true, false_or, or_false, true_and, and_true, false_and, and_false, jE_sw, jE_sw0]
      | none =>
        rw [en] at nm
        have ea : hR h b (nmAdd (lS S (p + ln) l (Int32.ofNat 2) (Int32.ofNat 0) l) A p ln N).1 (nmAdd (lS S (p + ln) l (Int32.ofNat 2) (Int32.ofNat 0) l) A p ln N).2 = hL h b (upd S 8 (Int32.ofNat (N + 1))) (nmAdd S A p ln N).2 (p + ln) l (Int32.ofNat 2) (Int32.ofNat 0) l := by
          show hR h b (upd (lS S (p + ln) l (Int32.ofNat 2) (Int32.ofNat 0) l) 8 (Int32.ofNat (N + 1))) _ = _
          rw [lS_8]
          rfl
        rw [ea] at nm
        have nm' := fun {β : Type} {f : jx_R → Option β} => bnd (f := f) nm
        simp (disch := omega) only [e_77_4, e_77_9, e_77_13, e_77_18, e_77_22, e_77_27, e_77_31, e_77_36, e_77_40, e_77_45, e_77_55, e_77_68, e_77_85, e_77_90, e_77_98, e_77_102, e_77_109, e_77_112, e_77_115, e_77_119, e_77_122, e_77_125, e_77_138, e_77_150, e_77_154, e_77_163, e_77_178, e_77_182, e_77_189, e_77_193, e_77_194, e_77_205, e_77_215, e_77_221, e_77_225, e_77_228, e_77_234, e_77_237, e_77_240, e_77_251, e_77_259, e_77_277, e_77_289, e_77_293, e_77_296, e_77_299, e_77_303, e_77_304, e_77_315, e_77_322, e_77_328, e_77_334, e_77_340, e_77_346, e_77_352, e_77_358, e_77_364, e_77_368, e_77_369, e_77_387, lr_v, ↓w', ↓nm', ↓lg_at_b, ↓lg_kind_b, ↓lg_value_b, ↓lp_kind_b, ↓lp_value_b, i_sub, e, ↓Option.bind_some, ↓jzo_0b, ↓jzo_1b, ↓jzo_bb, Option.toList_some, Option.toList_none, List.cons_append, List.nil_append, ↓reduceIte, jzo_0, jzo_1, jzo_b, jbi_t, jbi_f, i_add, ↓i_ltP, ↓i_ltN, ↓i_eqP, ↓i_eqN, i_lt, i_eq, jbi_0, pt_lt, pf_lt, pt_eq, pf_eq, pt_le, pf_le, Nat.reduceEqDiff, eq_self, true_or, or_true, false_or, or_false, true_and, and_true, false_and, and_false, jE_sw, jE_sw0]
    · rw [if_neg d2]
      simp (disch := omega) only [e_77_4, e_77_9, e_77_13, e_77_18, e_77_22, e_77_27, e_77_31, e_77_36, e_77_40, e_77_45, e_77_55, e_77_68, e_77_85, e_77_90, e_77_98, e_77_102, e_77_109, e_77_112, e_77_115, e_77_119, e_77_122, e_77_125, e_77_138, e_77_150, e_77_154, e_77_163, e_77_178, e_77_182, e_77_189, e_77_193, e_77_194, e_77_205, e_77_215, e_77_221, e_77_225, e_77_228, e_77_234, e_77_237, e_77_240, e_77_251, e_77_259, e_77_277, e_77_289, e_77_293, e_77_296, e_77_299, e_77_303, e_77_304, e_77_315, e_77_322, e_77_328, e_77_334, e_77_340, e_77_346, e_77_352, e_77_358, e_77_364, e_77_368, e_77_369, e_77_387, lr_v, ↓w', ↓lg_at_b, ↓lg_kind_b, ↓lg_value_b, ↓lp_kind_b, ↓lp_value_b, i_sub, e, ↓Option.bind_some, ↓jzo_0b, ↓jzo_1b, ↓jzo_bb, Option.toList_some, Option.toList_none, List.cons_append, List.nil_append, ↓reduceIte, jzo_0, jzo_1, jzo_b, jbi_t, jbi_f, i_add, ↓i_ltP, ↓i_ltN, ↓i_eqP, ↓i_eqN, i_lt, i_eq, jbi_0, pt_lt, pf_lt, pt_eq, pf_eq, pt_le, pf_le, Nat.reduceEqDiff, eq_self, true_or, or_true, false_or, or_false, true_and, and_true, false_and, and_false, jE_sw, jE_sw0]

theorem Q_letter_b {G : jx_Gv} {h : jx_H} {b : Nat} {S : Nat → Int32} {A : Nat → Nat → Int32} {p l : Nat} {k v : Int32} {tl len : Nat} (hs : S 0 = Int32.ofNat len) (hp2 : p < 2147483648) (hl : len ≤ 2000) {z1 z2 z3 : Option Value} {N : Nat} (hp : p ≤ len) (hN : N < 1000) (hS : S 8 = Int32.ofNat N) (hLn : ∀ n : Nat, n ≤ 1000 → ∃ m : Nat, m ≤ 12 ∧ A 2 n = Int32.ofNat m) (c : ¬ toc (A 1) len p < Int32.ofNat 0) (c2 : wlet (toc (A 1) len p) = true) {β_ : Type} {f_ : jx_R → Option β_} : (jE G (77, 68, [some (.ref b), z1, z2, z3], [], hL h b S A p l k v tl)).bind f_ = f_ ((none, if 12 < lal (A 1) len (2001 - p) p - p then hL h b S A (lal (A 1) len (2001 - p) p) l (Int32.ofNat 5) (Int32.ofNat 0) l else if rwo (A 1) p (lal (A 1) len (2001 - p) p - p) = 0 then hL h b (nmR S A p (lal (A 1) len (2001 - p) p - p) N).2.1 (nmR S A p (lal (A 1) len (2001 - p) p - p) N).2.2 (lal (A 1) len (2001 - p) p) l (Int32.ofNat 2) (Int32.ofNat (nmR S A p (lal (A 1) len (2001 - p) p - p) N).1) l else hL h b S A (lal (A 1) len (2001 - p) p) l (Int32.ofNat 1) (Int32.ofNat (rwo (A 1) p (lal (A 1) len (2001 - p) p - p))) l)) := bnd (Q_letter hs hp2 hl hp hN hS hLn c c2)