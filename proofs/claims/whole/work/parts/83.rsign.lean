/-! SIGN OF THE REFERENCE -/
theorem sh_255 (x : BitVec 32) (k : Nat) (hk : k ≤ 24) : (x.sshiftRight k &&& 255#32) = (x >>> k &&& 255#32) := by
  apply BitVec.eq_of_getLsbD_eq
  intro i hi
  rw [BitVec.getLsbD_and, BitVec.getLsbD_and]
  by_cases c : i < 8
  · rw [BitVec.getLsbD_sshiftRight, BitVec.getLsbD_ushiftRight, if_pos (by omega)]
    have : ¬ 32 ≤ i := by omega
    rw [decide_eq_false this, Bool.not_false, Bool.true_and]
  · have e : (255#32).getLsbD i = false := by
      have : ∀ i : Nat, i < 32 → ¬ i < 8 → (255#32).getLsbD i = false := by decide +kernel
      exact this i hi c
    rw [e, Bool.and_false, Bool.and_false]
theorem so_24 (c : Int32) : (c >>> (Int32.ofNat 24 &&& 31)) &&& Int32.ofNat 255 = soct c 24 := by
  apply Int32.toBitVec.inj
  exact sh_255 c.toBitVec 24 (by decide)
theorem so_16 (c : Int32) : (c >>> (Int32.ofNat 16 &&& 31)) &&& Int32.ofNat 255 = soct c 16 := by
  apply Int32.toBitVec.inj
  exact sh_255 c.toBitVec 16 (by decide)
theorem so_8 (c : Int32) : (c >>> (Int32.ofNat 8 &&& 31)) &&& Int32.ofNat 255 = soct c 8 := by
  apply Int32.toBitVec.inj
  exact sh_255 c.toBitVec 8 (by decide)
theorem so_0 (c : Int32) : (c >>> (Int32.ofNat 0 &&& 31)) &&& Int32.ofNat 255 = soct c 0 := by
  apply Int32.toBitVec.inj
  exact sh_255 c.toBitVec 0 (by decide)
def tq (T : jTt) : (Nat → Int32) × Nat := (T.1, T.2.1)
theorem N_sg {G : jx_Gv} {h : jx_H} {b : Nat} {S : Nat → Int32} {A : Nat → Nat → Int32} {c : Int32} {k : Nat} {T : jTt} {z3 : Option Value} (hk : k ≤ 24) (hso : (c >>> (Int32.ofNat k &&& 31)) &&& Int32.ofNat 255 = soct c k) (hl : T.2.1 ≤ 2000) : ∃ z3', jE G (20, 3, [some (.ref b), some (.int c), some (.int (Int32.ofNat k)), z3], [], hX h b S A (tq T)) = jE G (20, 3, [some (.ref b), some (.int c), some (.int (Int32.ofNat k + -(Int32.ofNat 8))), z3'], [], hX h b S A (tq (sign1 T c k))) := by
  have g1 : jx_fI (hX h b S A (tq T)) b 8 0 = some (Int32.ofNat T.2.1) := xg_size
  have g1' := fun {β : Type} {f : Int32 → Option β} => bnd (f := f) g1
  unfold sign1
  by_cases c1 : soct c k = Int32.ofNat 0
  · refine ⟨some (.int (Int32.ofNat 0)), ?_⟩
    rw [if_pos c1, e_20_3]
    simp (disch := omega) only [e_20_0, e_20_7, e_20_19, e_20_29, e_20_49, e_20_55, hso, c1, ↓Option.bind_some, ↓jzo_0b, ↓jzo_1b, ↓jzo_bb, Option.toList_some, Option.toList_none, List.cons_append, List.nil_append, ↓reduceIte, jzo_0, jzo_1, jzo_b, jbi_t, jbi_f, i_add, ↓i_ltP, ↓i_ltN, ↓i_eqP, ↓i_eqN, i_lt, i_eq, jbi_0, pt_lt, pf_lt, pt_eq, pf_eq, pt_le, pf_le, Nat.reduceEqDiff, eq_self, true_or, or_true, false_or, or_false, true_and, and_true, false_and, and_false, jE_sw, jE_sw0]
  · refine ⟨some (.int (soct c k)), ?_⟩
    rw [if_neg c1, e_20_3]
    unfold tput
    by_cases c2 : T.2.1 < 2000
    · rw [if_pos c2]
      have w1 : jx_sI (hX h b S A (tq T)) 0 (b + 1) (Int32.ofNat T.2.1) (soct c k) = some (hX h b S A (upd T.1 T.2.1 (soct c k), T.2.1)) := xs_text2 (q := tq T) c2
      have w1' := fun {β : Type} {f : jx_H → Option β} => bnd (f := f) w1
      simp (disch := omega) only [e_20_0, e_20_7, e_20_19, e_20_29, e_20_49, e_20_55, hso, c1, ↓g1', ↓xa_text_b, ↓w1', ↓xg_size_b, ↓xp_size_b, ↓Option.bind_some, ↓jzo_0b, ↓jzo_1b, ↓jzo_bb, Option.toList_some, Option.toList_none, List.cons_append, List.nil_append, ↓reduceIte, jzo_0, jzo_1, jzo_b, jbi_t, jbi_f, i_add, ↓i_ltP, ↓i_ltN, ↓i_eqP, ↓i_eqN, i_lt, i_eq, jbi_0, pt_lt, pf_lt, pt_eq, pf_eq, pt_le, pf_le, Nat.reduceEqDiff, eq_self, true_or, or_true, false_or, or_false, true_and, and_true, false_and, and_false, jE_sw, jE_sw0]
      rfl
    · rw [if_neg c2]
      simp (disch := omega) only [e_20_0, e_20_7, e_20_19, e_20_29, e_20_49, e_20_55, hso, c1, ↓g1', ↓Option.bind_some, ↓jzo_0b, ↓jzo_1b, ↓jzo_bb, Option.toList_some, Option.toList_none, List.cons_append, List.nil_append, ↓reduceIte, jzo_0, jzo_1, jzo_b, jbi_t, jbi_f, i_add, ↓i_ltP, ↓i_ltN, ↓i_eqP, ↓i_eqN, i_lt, i_eq, jbi_0, pt_lt, pf_lt, pt_eq, pf_eq, pt_le, pf_le, Nat.reduceEqDiff, eq_self, true_or, or_true, false_or, or_false, true_and, and_true, false_and, and_false, jE_sw, jE_sw0]
      rfl
theorem N_sign {G : jx_Gv} {h : jx_H} {b : Nat} {S : Nat → Int32} {A : Nat → Nat → Int32} {c : Int32} {T : jTt} (hl : T.2.1 ≤ 2000) (h0 : S 0 = Int32.ofNat T.2.1) (h1 : A 1 = T.1) : jE G (20, 0, [some (.ref b), some (.int c), none, none], [], hR h b S A) = some (none, hX h b S A (tq (signs T c))) := by
  have ex : hR h b S A = hX h b S A (tq T) := by
    unfold hX tq
    show hR h b S A = hR h b (upd S 0 (Int32.ofNat T.2.1)) (upA A 1 T.1)
    rw [← h0, upd_id, ← h1]
    congr 1
    funext j
    unfold upA
    by_cases e : j = 1
    · rw [if_pos e, e]
    · rw [if_neg e]
  obtain ⟨z1, e1⟩ := N_sg (G := G) (h := h) (b := b) (S := S) (A := A) (c := c) (k := 24) (T := T) (z3 := none) (by omega) (so_24 c) hl
  obtain ⟨z2, e2⟩ := N_sg (G := G) (h := h) (b := b) (S := S) (A := A) (c := c) (k := 16) (T := sign1 T c 24) (z3 := z1) (by omega) (so_16 c) (sign1_le hl)
  obtain ⟨z3, e3⟩ := N_sg (G := G) (h := h) (b := b) (S := S) (A := A) (c := c) (k := 8) (T := sign1 (sign1 T c 24) c 16) (z3 := z2) (by omega) (so_8 c) (sign1_le (sign1_le hl))
  obtain ⟨z4, e4⟩ := N_sg (G := G) (h := h) (b := b) (S := S) (A := A) (c := c) (k := 0) (T := sign1 (sign1 (sign1 T c 24) c 16) c 8) (z3 := z3) (by omega) (so_0 c) (sign1_le (sign1_le (sign1_le hl)))
  rw [ex]
  simp (disch := omega) only [e_20_0, e_20_7, e_20_19, e_20_29, e_20_49, e_20_55]
  rw [e1, show Int32.ofNat 24 + -(Int32.ofNat 8) = Int32.ofNat 16 by decide, e2, show Int32.ofNat 16 + -(Int32.ofNat 8) = Int32.ofNat 8 by decide, e3, show Int32.ofNat 8 + -(Int32.ofNat 8) = Int32.ofNat 0 by decide, e4, e_20_3]
  have q : (Int32.ofNat 0 + -(Int32.ofNat 8) < Int32.ofNat 0) = True := eq_true (by decide)
  simp (disch := omega) only [e_20_0, e_20_7, e_20_19, e_20_29, e_20_49, e_20_55, q, ↓Option.bind_some, ↓jzo_0b, ↓jzo_1b, ↓jzo_bb, Option.toList_some, Option.toList_none, List.cons_append, List.nil_append, ↓reduceIte, jzo_0, jzo_1, jzo_b, jbi_t, jbi_f, i_add, ↓i_ltP, ↓i_ltN, ↓i_eqP, ↓i_eqN, i_lt, i_eq, jbi_0, pt_lt, pf_lt, pt_eq, pf_eq, pt_le, pf_le, Nat.reduceEqDiff, eq_self, true_or, or_true, false_or, or_false, true_and, and_true, false_and, and_false, jE_sw, jE_sw0]
  rfl

theorem N_sign_b {G : jx_Gv} {h : jx_H} {b : Nat} {S : Nat → Int32} {A : Nat → Nat → Int32} {c : Int32} {T : jTt} (hl : T.2.1 ≤ 2000) (h0 : S 0 = Int32.ofNat T.2.1) (h1 : A 1 = T.1) {β_ : Type} {f_ : jx_R → Option β_} : (jE G (20, 0, [some (.ref b), some (.int c), none, none], [], hR h b S A)).bind f_ = f_ ((none, hX h b S A (tq (signs T c)))) := bnd (N_sign hl h0 h1)