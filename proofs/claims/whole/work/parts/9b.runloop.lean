/-! THE ACCESSES OF A RUN, ONE AFTER ANOTHER -/
theorem N_run_exit {G : jx_Gv} {h : jx_H} {b : Nat} {S : Nat → Int32} {A : Nat → Nat → Int32} {x1 x2 : Int32} {v : Int32} {H : jx_H} (h7 : S 7 = Int32.ofNat 0 ∨ S 7 = Int32.ofNat 1) (hx : ¬ (S 7 = Int32.ofNat 1 ∧ S 4 = Int32.ofNat 1 ∧ (S 5 = Int32.ofNat 12 ∨ S 5 = Int32.ofNat 13))) (e : jE G (86, 0, [some (.ref b), some (.int (Int32.ofNat 59))], [], hR h b S A) = some (some (.int v), H)) : jE G (93, 107, [some (.ref b), some (.int x1), some (.int x2)], [], hR h b S A) = some (none, H) := by
  have e' := fun {β : Type} {f : jx_R → Option β} => bnd (f := f) e
  rcases h7 with h7 | h7
  · rw [e_93_107]
    simp (disch := omega) only [e_93_0, e_93_16, e_93_24, e_93_32, e_93_41, e_93_45, e_93_58, e_93_69, e_93_76, e_93_84, e_93_93, e_93_105, e_93_114, e_93_122, e_93_131, e_93_140, e_93_146, e_93_154, e_93_164, e_93_168, e_93_169, e_93_172, e_93_178, e_93_184, rr_v, ↓rg_good_b, h7, ↓e', ↓Option.bind_some, ↓jzo_0b, ↓jzo_1b, ↓jzo_bb, Option.toList_some, Option.toList_none, List.cons_append, List.nil_append, ↓reduceIte, jzo_0, jzo_1, jzo_b, jbi_t, jbi_f, i_add, ↓i_ltP, ↓i_ltN, ↓i_eqP, ↓i_eqN, i_lt, i_eq, jbi_0, pt_lt, pf_lt, pt_eq, pf_eq, pt_le, pf_le, Nat.reduceEqDiff, eq_self, true_or, or_true, false_or, or_false, true_and, and_true, false_and, and_false, jE_sw, jE_sw0]
  · rw [e_93_107]
    by_cases c1 : S 4 = Int32.ofNat 1
    · have c2 : ¬ S 5 = Int32.ofNat 12 := fun z => hx ⟨h7, c1, Or.inl z⟩
      have c3 : ¬ S 5 = Int32.ofNat 13 := fun z => hx ⟨h7, c1, Or.inr z⟩
      simp (disch := omega) only [e_93_0, e_93_16, e_93_24, e_93_32, e_93_41, e_93_45, e_93_58, e_93_69, e_93_76, e_93_84, e_93_93, e_93_105, e_93_114, e_93_122, e_93_131, e_93_140, e_93_146, e_93_154, e_93_164, e_93_168, e_93_169, e_93_172, e_93_178, e_93_184, rr_v, ↓rg_good_b, ↓rg_kind_b, ↓rg_value_b, h7, c1, c2, c3, ↓e', ↓Option.bind_some, ↓jzo_0b, ↓jzo_1b, ↓jzo_bb, Option.toList_some, Option.toList_none, List.cons_append, List.nil_append, ↓reduceIte, jzo_0, jzo_1, jzo_b, jbi_t, jbi_f, i_add, ↓i_ltP, ↓i_ltN, ↓i_eqP, ↓i_eqN, i_lt, i_eq, jbi_0, pt_lt, pf_lt, pt_eq, pf_eq, pt_le, pf_le, Nat.reduceEqDiff, eq_self, true_or, or_true, false_or, or_false, true_and, and_true, false_and, and_false, jE_sw, jE_sw0]
    · simp (disch := omega) only [e_93_0, e_93_16, e_93_24, e_93_32, e_93_41, e_93_45, e_93_58, e_93_69, e_93_76, e_93_84, e_93_93, e_93_105, e_93_114, e_93_122, e_93_131, e_93_140, e_93_146, e_93_154, e_93_164, e_93_168, e_93_169, e_93_172, e_93_178, e_93_184, rr_v, ↓rg_good_b, ↓rg_kind_b, h7, c1, ↓e', ↓Option.bind_some, ↓jzo_0b, ↓jzo_1b, ↓jzo_bb, Option.toList_some, Option.toList_none, List.cons_append, List.nil_append, ↓reduceIte, jzo_0, jzo_1, jzo_b, jbi_t, jbi_f, i_add, ↓i_ltP, ↓i_ltN, ↓i_eqP, ↓i_eqN, i_lt, i_eq, jbi_0, pt_lt, pf_lt, pt_eq, pf_eq, pt_le, pf_le, Nat.reduceEqDiff, eq_self, true_or, or_true, false_or, or_false, true_and, and_true, false_and, and_false, jE_sw, jE_sw0]
theorem N_run_exit_b {G : jx_Gv} {h : jx_H} {b : Nat} {S : Nat → Int32} {A : Nat → Nat → Int32} {x1 x2 : Int32} {v : Int32} {H : jx_H} (h7 : S 7 = Int32.ofNat 0 ∨ S 7 = Int32.ofNat 1) (hx : ¬ (S 7 = Int32.ofNat 1 ∧ S 4 = Int32.ofNat 1 ∧ (S 5 = Int32.ofNat 12 ∨ S 5 = Int32.ofNat 13))) (e : jE G (86, 0, [some (.ref b), some (.int (Int32.ofNat 59))], [], hR h b S A) = some (some (.int v), H)) {β_ : Type} {f_ : jx_R → Option β_} : (jE G (93, 107, [some (.ref b), some (.int x1), some (.int x2)], [], hR h b S A)).bind f_ = f_ ((none, H)) := bnd (N_run_exit h7 hx e)
theorem N_run_go {G : jx_Gv} {h : jx_H} {b : Nat} {S : Nat → Int32} {A : Nat → Nat → Int32} {x1 : Int32} {a8 j : Nat} {H : jx_H} (h7 : S 7 = Int32.ofNat 1) (h4 : S 4 = Int32.ofNat 1) (hj : j = 11 ∨ j = 12) (h5 : S 5 = Int32.ofNat (j + 1)) (h8 : a8 < 8) (e : jE G (92, 0, [some (.ref b), some (.int (Int32.ofNat (j - 10))), none, none], [], hR h b S A) = some (none, H)) : jE G (93, 107, [some (.ref b), some (.int x1), some (.int (Int32.ofNat a8))], [], hR h b S A) = jE G (93, 107, [some (.ref b), some (.int x1), some (.int (Int32.ofNat (a8 + 1)))], [], H) := by
  have e' := fun {β : Type} {f : jx_R → Option β} => bnd (f := f) e
  rw [e_93_107]
  rcases hj with z | z
  · subst z
    simp (disch := omega) only [e_93_0, e_93_16, e_93_24, e_93_32, e_93_41, e_93_45, e_93_58, e_93_69, e_93_76, e_93_84, e_93_93, e_93_105, e_93_114, e_93_122, e_93_131, e_93_140, e_93_146, e_93_154, e_93_164, e_93_168, e_93_169, e_93_172, e_93_178, e_93_184, rr_v, ↓rg_good_b, ↓rg_kind_b, ↓rg_value_b, h7, h4, h5, Nat.reduceAdd, ↓e', ↓Option.bind_some, ↓jzo_0b, ↓jzo_1b, ↓jzo_bb, Option.toList_some, Option.toList_none, List.cons_append, List.nil_append, ↓reduceIte, jzo_0, jzo_1, jzo_b, jbi_t, jbi_f, i_add, ↓i_ltP, ↓i_ltN, ↓i_eqP, ↓i_eqN, i_lt, i_eq, jbi_0, pt_lt, pf_lt, pt_eq, pf_eq, pt_le, pf_le, Nat.reduceEqDiff, eq_self, true_or, or_true, false_or, or_false, true_and, and_true, false_and, and_false, jE_sw, jE_sw0]
  · subst z
    simp (disch := omega) only [e_93_0, e_93_16, e_93_24, e_93_32, e_93_41, e_93_45, e_93_58, e_93_69, e_93_76, e_93_84, e_93_93, e_93_105, e_93_114, e_93_122, e_93_131, e_93_140, e_93_146, e_93_154, e_93_164, e_93_168, e_93_169, e_93_172, e_93_178, e_93_184, rr_v, ↓rg_good_b, ↓rg_kind_b, ↓rg_value_b, h7, h4, h5, Nat.reduceAdd, ↓e', ↓Option.bind_some, ↓jzo_0b, ↓jzo_1b, ↓jzo_bb, Option.toList_some, Option.toList_none, List.cons_append, List.nil_append, ↓reduceIte, jzo_0, jzo_1, jzo_b, jbi_t, jbi_f, i_add, ↓i_ltP, ↓i_ltN, ↓i_eqP, ↓i_eqN, i_lt, i_eq, jbi_0, pt_lt, pf_lt, pt_eq, pf_eq, pt_le, pf_le, Nat.reduceEqDiff, eq_self, true_or, or_true, false_or, or_false, true_and, and_true, false_and, and_false, jE_sw, jE_sw0]
theorem N_run_stop {G : jx_Gv} {h : jx_H} {b : Nat} {S : Nat → Int32} {A : Nat → Nat → Int32} {x1 : Int32} (h7 : S 7 = Int32.ofNat 1) (h4 : S 4 = Int32.ofNat 1) (h5 : S 5 = Int32.ofNat 12 ∨ S 5 = Int32.ofNat 13) : jE G (93, 107, [some (.ref b), some (.int x1), some (.int (Int32.ofNat 8))], [], hR h b S A) = jE G (93, 107, [some (.ref b), some (.int x1), some (.int (Int32.ofNat 9))], [], hR h b (upd S 7 (Int32.ofNat 0)) A) := by
  rw [e_93_107]
  rcases h5 with h5 | h5 <;> simp (disch := omega) only [e_93_0, e_93_16, e_93_24, e_93_32, e_93_41, e_93_45, e_93_58, e_93_69, e_93_76, e_93_84, e_93_93, e_93_105, e_93_114, e_93_122, e_93_131, e_93_140, e_93_146, e_93_154, e_93_164, e_93_168, e_93_169, e_93_172, e_93_178, e_93_184, rr_v, ↓rg_good_b, ↓rg_kind_b, ↓rg_value_b, ↓rp_good_b, h7, h4, h5, Nat.reduceAdd, ↓Option.bind_some, ↓jzo_0b, ↓jzo_1b, ↓jzo_bb, Option.toList_some, Option.toList_none, List.cons_append, List.nil_append, ↓reduceIte, jzo_0, jzo_1, jzo_b, jbi_t, jbi_f, i_add, ↓i_ltP, ↓i_ltN, ↓i_eqP, ↓i_eqN, i_lt, i_eq, jbi_0, pt_lt, pf_lt, pt_eq, pf_eq, pt_le, pf_le, Nat.reduceEqDiff, eq_self, true_or, or_true, false_or, or_false, true_and, and_true, false_and, and_false, jE_sw, jE_sw0]
theorem run_loop {G : jx_Gv} {h : jx_H} {b : Nat} {wn : Nat → Int64} {f : Nat → Int32} {len : Nat} {R : Bool × jS × jR × jX} {S0 : Nat → Int32} {A0 : Nat → Nat → Int32} (hw : wnOk wn) (hO : fOct f len) (hl : len ≤ 2000) {N k bl m T d1 ac0 k0 tr : Nat} : ∀ (i : Nat) {ac fo st a8 am : Nat} {L : List (Int32 × Int32)} {S : Nat → Int32} {A : Nat → Nat → Int32}, i + a8 = 8 → MD wn f len R S0 A0 N k bl m ac T (d1, fo, st, a8, false) L S A → dvT fo st = false → dvT fo (st + 1) = true → (duT fo st = Int32.ofNat 65 ∨ duT fo st = Int32.ofNat 82 ∧ (S 7 = Int32.ofNat 1 → ¬ (S 4 = Int32.ofNat 1 ∧ S 5 = Int32.ofNat 10) ∧ ¬ (S 4 = Int32.ofNat 1 ∧ S 5 = Int32.ofNat 11))) → (S 7 = Int32.ofNat 1 → ac = ac0 + am ∧ rInv L A m ac0 am k0 tr ∧ (tr = 2 → 1 ≤ am)) → ∃ S' A' fo' st' a8' L' ac' am', jE G (93, 107, [some (.ref b), some (.int (Int32.ofNat m)), some (.int (Int32.ofNat a8))], [], hR h b S A) = some (none, hR h b S' A') ∧ MD wn f len R S0 A0 N k bl m ac' T (d1, fo', st', a8', false) (L' ++ [(Int32.ofNat 4, Int32.ofNat 59)]) S' A' ∧ dvT fo' st' = true ∧ S' 31 = S 31 ∧ (S' 7 = Int32.ofNat 1 → S 7 = Int32.ofNat 1 ∧ ac' = ac0 + am' ∧ rInv L' A' m ac0 am' k0 tr ∧ (tr = 2 → 1 ≤ am') ∧ (∃ M, L' = L ++ M) ∧ ∀ k : Nat, 4 ≤ k → k ≤ 14 → A' k = A k) := by
  intro i
  induction i with
  | zero =>
    intro ac fo st a8 am L S A hi q hd hd2 hu hI
    have h8 : a8 = 8 := by omega
    subst h8
    have hl7 := MD_live q
    have q' := q
    by_cases cR : S 7 = Int32.ofNat 1 ∧ S 4 = Int32.ofNat 1 ∧ (S 5 = Int32.ofNat 12 ∨ S 5 = Int32.ofNat 13)
    · have q2 := md_eight q hd (hu.imp id fun z => z.1) (Nat.le_refl _) cR.1 cR.2.1 cR.2.2
      have e0 := N_run_exit (G := G) (h := h) (b := b) (S := upd S 7 (Int32.ofNat 0)) (A := A) (x1 := Int32.ofNat m) (x2 := Int32.ofNat 9) (Or.inl upd_at) (fun z => by rw [upd_at] at z; exact absurd z.1 (by decide)) (N_sign00 upd_at)
      exact ⟨upd S 7 (Int32.ofNat 0), A, fo, st + 1, 8, L, ac, am, (N_run_stop cR.1 cR.2.1 cR.2.2).trans e0, MD_dead q2 upd_at, hd2, upd_of (by decide), fun z => by rw [upd_at] at z; exact absurd z (by decide)⟩
    · obtain ⟨S', A', x, e1, p1, f1⟩ := md_semi (G := G) (h := h) (b := b) hw hO hl q hd hu (fun z1 z2 z3 => absurd ⟨z1, z2, z3⟩ cR)
      refine ⟨S', A', fo, st + 1, 8, L, ac, am, N_run_exit hl7.symm cR e1, p1, hd2, f1.2.2.1, fun z => ?_⟩
      have s7 := f1.2.2.2.1 z
      obtain ⟨y1, y2, y3⟩ := hI s7
      have fa := f1.2.2.2.2
      refine ⟨s7, y1, ?_, y3, ⟨[], (List.append_nil _).symm⟩, fun k k1 k2 => fa k (by omega) (by omega) (by omega)⟩
      unfold rInv
      rw [fa 13 (by decide) (by decide) (by decide), fa 14 (by decide) (by decide) (by decide), fa 15 (by decide) (by decide) (by decide), fa 16 (by decide) (by decide) (by decide), fa 17 (by decide) (by decide) (by decide), fa 18 (by decide) (by decide) (by decide)]
      exact y2
  | succ i ih =>
    intro ac fo st a8 am L S A hi q hd hd2 hu hI
    have hl7 := MD_live q
    by_cases cR : S 7 = Int32.ofNat 1 ∧ S 4 = Int32.ofNat 1 ∧ (S 5 = Int32.ofNat 12 ∨ S 5 = Int32.ofNat 13)
    · obtain ⟨j, hj, h5⟩ : ∃ j : Nat, (j = 11 ∨ j = 12) ∧ S 5 = Int32.ofNat (j + 1) := by
        rcases cR.2.2 with z | z
        · exact ⟨11, Or.inl rfl, z⟩
        · exact ⟨12, Or.inr rfl, z⟩
      have hu2 : duT fo st = Int32.ofNat 65 ∨ duT fo st = Int32.ofNat 82 := hu.imp id fun z => z.1
      obtain ⟨y1, y2, y3⟩ := hI cR.1
      obtain ⟨S1, A1, e1, p1, f1⟩ := md_acc (G := G) (h := h) (b := b) (j := j) hw hO hl q hd (by omega) cR.1 cR.2.1 h5 (D' := (d1, 10, 0, a8 + 1, false)) (fun c X z1 z2 => tSt_use hu2 (by omega) hj z1 z2)
      have cn := MD_cnt q cR.1
      obtain ⟨S2, A2, p, d, ac2, e2, p2, f2, g2⟩ := md_access (G := G) (h := h) (b := b) (am := am) (o := Int32.ofNat (j - 10)) hw hO hl e1 p1 f1 cn.1 (fun _ => y2.2.2.1)
      obtain ⟨S', A', fo', st', a8', L', ac', am', e3, p3, d3, f3, g3⟩ := ih (ac := ac2) (fo := 10) (st := 3) (a8 := a8 + 1) (am := am + 1) (by omega) p2 (by decide +kernel) (by decide +kernel) (Or.inl (by decide +kernel)) (fun z => by
        obtain ⟨z1, z2, z3, z4, z5, z6, z7, z8⟩ := g2 z
        rw [y1] at z4 z5 z6 z7
        refine ⟨by omega, rInv_step y2 (by rw [z8 13 (by decide) (by decide)]) (by rw [z8 14 (by decide) (by decide)]) z3 z4 z5 z6 z7 (Or.inr ⟨fun w => by have := y3 w.2; omega, ?_⟩), fun w => by omega⟩
        rcases hj with w | w
        · subst w; exact Or.inl ⟨rfl, rfl⟩
        · subst w; exact Or.inr ⟨rfl, rfl⟩)
      refine ⟨S', A', fo', st', a8', L', ac', am', (N_run_go cR.1 cR.2.1 hj h5 (by omega) e2).trans e3, p3, d3, f3.trans f2, fun z => ?_⟩
      obtain ⟨w1, w2, w3, w4, ⟨M, w5⟩, w6⟩ := g3 z
      obtain ⟨z1, z2, z3, z4, z5, z6, z7, z8⟩ := g2 w1
      refine ⟨z1, w2, w3, w4, ⟨[(Int32.ofNat 1, Int32.ofNat (2 ^ j))] ++ [(Int32.ofNat 2, p)] ++ [(Int32.ofNat 4, Int32.ofNat 46)] ++ [(Int32.ofNat 2, d)] ++ M, ?_⟩, fun k k1 k2 => (w6 k k1 k2).trans (z8 k k1 k2)⟩
      rw [w5]
      simp only [List.append_assoc]
    · obtain ⟨S', A', x, e1, p1, f1⟩ := md_semi (G := G) (h := h) (b := b) hw hO hl q hd hu (fun z1 z2 z3 => absurd ⟨z1, z2, z3⟩ cR)
      refine ⟨S', A', fo, st + 1, a8, L, ac, am, N_run_exit hl7.symm cR e1, p1, hd2, f1.2.2.1, fun z => ?_⟩
      have s7 := f1.2.2.2.1 z
      obtain ⟨y1, y2, y3⟩ := hI s7
      have fa := f1.2.2.2.2
      refine ⟨s7, y1, ?_, y3, ⟨[], (List.append_nil _).symm⟩, fun k k1 k2 => fa k (by omega) (by omega) (by omega)⟩
      unfold rInv
      rw [fa 13 (by decide) (by decide) (by decide), fa 14 (by decide) (by decide) (by decide), fa 15 (by decide) (by decide) (by decide), fa 16 (by decide) (by decide) (by decide), fa 17 (by decide) (by decide) (by decide), fa 18 (by decide) (by decide) (by decide)]
      exact y2
/-- what the loop leaves is what a run's row must say -/
theorem lRun_of {L : List (Int32 × Int32)} {A : Nat → Nat → Int32} {m ac0 am k0 tr : Nat} (h : rInv L A m ac0 am k0 tr) (ham : am < 2147483648) (hac : ac0 < 2147483648) (htr : tr = 1 ∧ k0 = 4 ∧ lw L 2 = Int32.ofNat 512 ∧ A 11 m = lv L 3 ∨ tr = 2 ∧ k0 = 2 ∧ 1 ≤ am ∨ tr = 0 ∧ k0 = 2) : lRun (L ++ [(Int32.ofNat 4, Int32.ofNat 59)]) (yA 0 A) (m + 1) := by
  obtain ⟨h1, h2, h3, h4, h5⟩ := h
  have eAM : vAM (yA 0 A) (m + 1) = am := by
    show ntf (A 15 (m + 1 - 1)) = am
    rw [Nat.add_sub_cancel, h3, ntf_of ham]
  have eAA : vAA (yA 0 A) (m + 1) = ac0 := by
    show ntf (A 14 (m + 1 - 1)) = ac0
    rw [Nat.add_sub_cancel, h2, ntf_of hac]
  have eTr : vTr (yA 0 A) (m + 1) = Int32.ofNat tr := h4
  unfold lRun
  rw [eAM, eAA, eTr]
  refine ⟨k0, ?_, by rw [List.length_append, h1]; rfl, ?_, fun j hj => ?_⟩
  · rcases htr with ⟨t1, t2, t3, t4⟩ | ⟨t1, t2, t3⟩ | ⟨t1, t2⟩
    · refine Or.inl ⟨by rw [t1], t2, ?_, ?_⟩
      · rw [(lv_app (by omega)).2]; exact t3
      · rw [(lv_app (by omega)).1]; exact t4
    · refine Or.inr (Or.inl ⟨by rw [t1], t2, t3, ?_⟩)
      have z := (h5 0 (by omega)).2.2.2.2.2
      rw [Nat.add_zero] at z
      rcases z with z | z
      · exact z.2.2.2
      · exact absurd ⟨rfl, t1⟩ z.1
    · exact Or.inr (Or.inr ⟨by rw [t1], t2⟩)
  · have z := lv_new (L := L) (M := [(Int32.ofNat 4, Int32.ofNat 59)]) (k := 0)
    rw [Nat.add_zero, h1] at z
    rw [z.2]
    rfl
  · have z := h5 j hj
    have etr : (Int32.ofNat tr = Int32.ofNat 2) = (tr = 2) := by
      rcases htr with t | t | t <;> rw [t.1] <;> decide
    rw [(lv_app (L := L) (k := k0 + 4 * j) (by omega)).2, (lv_app (L := L) (k := k0 + 4 * j + 1) (by omega)).1, (lv_app (L := L) (k := k0 + 4 * j + 1) (by omega)).2, (lv_app (L := L) (k := k0 + 4 * j + 2) (by omega)).2, (lv_app (L := L) (k := k0 + 4 * j + 3) (by omega)).1, (lv_app (L := L) (k := k0 + 4 * j + 3) (by omega)).2, etr]
    exact z
theorem md_run {G : jx_Gv} {h : jx_H} {b : Nat} {wn : Nat → Int64} {f : Nat → Int32} {len : Nat} {R : Bool × jS × jR × jX} {S0 : Nat → Int32} {A0 : Nat → Nat → Int32} (hw : wnOk wn) (hO : fOct f len) (hl : len ≤ 2000) {N bl m ac T d1 : Nat} {S : Nat → Int32} {A : Nat → Nat → Int32} (q : MD wn f len R S0 A0 N 10 bl m ac T (d1, 6, 0, 0, false) [(Int32.ofNat 1, Int32.ofNat 256)] S A) (hF : S 7 = Int32.ofNat 1 → A 13 m = Int32.ofNat 0 ∧ A 14 m = Int32.ofNat ac ∧ A 15 m = Int32.ofNat 0) : ∃ S' A' ac' fo st a8 L', jE G (93, 0, [some (.ref b), none, none], [], hR h b S A) = some (none, hR h b S' A') ∧ MD wn f len R S0 A0 N 10 bl m ac' T (d1, fo, st, a8, false) L' S' A' ∧ dvT fo st = true ∧ S' 31 = S 31 ∧ (S' 7 = Int32.ofNat 1 → S 7 = Int32.ofNat 1 ∧ lRun L' (yA 0 A') (m + 1) ∧ A' 6 m = lv L' 1 ∧ (Int32.ofNat 2, lv L' 1) ∈ L' ∧ lw L' 0 = Int32.ofNat 256 ∧ lw L' 1 = Int32.ofNat 0 ∧ (A' 13 m = Int32.ofNat 1 → lw L' 3 = Int32.ofNat 0) ∧ (∃ am : Nat, A' 14 m = Int32.ofNat ac ∧ A' 15 m = Int32.ofNat am ∧ ac + am = ac') ∧ A' 4 = A 4 ∧ A' 5 = A 5) := by
  have m0 := q.1
  have r0 := q.2.1
  obtain ⟨S1, A1, x, e1, p1, f1⟩ := md_name (G := G) (h := h) (b := b) hw hO hl q (show dvT 6 0 = false by decide +kernel) (show duT 6 0 = Int32.ofNat 78 by decide +kernel)
  have p1' := MD_up (o := 6) (x := x) p1 (by decide) (by decide)
  have e1' := fun {β : Type} {f : jx_R → Option β} => bnd (f := f) e1
  have l7 := MD_live p1
  have fin : ∀ {S2 : Nat → Int32} {A2 : Nat → Nat → Int32} {fo st ac2 am k0 tr : Nat} {L : List (Int32 × Int32)}, jE G (93, 0, [some (.ref b), none, none], [], hR h b S A) = jE G (93, 107, [some (.ref b), some (.int (Int32.ofNat m)), some (.int (Int32.ofNat 0))], [], hR h b S2 A2) → MD wn f len R S0 A0 N 10 bl m ac2 T (d1, fo, st, 0, false) ([(Int32.ofNat 1, Int32.ofNat 256)] ++ [(Int32.ofNat 2, x)] ++ L) S2 A2 → dvT fo st = false → dvT fo (st + 1) = true → (duT fo st = Int32.ofNat 65 ∨ duT fo st = Int32.ofNat 82 ∧ (S2 7 = Int32.ofNat 1 → ¬ (S2 4 = Int32.ofNat 1 ∧ S2 5 = Int32.ofNat 10) ∧ ¬ (S2 4 = Int32.ofNat 1 ∧ S2 5 = Int32.ofNat 11))) → (S2 7 = Int32.ofNat 1 → ac2 = ac + am ∧ rInv ([(Int32.ofNat 1, Int32.ofNat 256)] ++ [(Int32.ofNat 2, x)] ++ L) A2 m ac am k0 tr ∧ (tr = 2 → 1 ≤ am) ∧ (tr = 1 ∧ k0 = 4 ∧ lw ([(Int32.ofNat 1, Int32.ofNat 256)] ++ [(Int32.ofNat 2, x)] ++ L) 2 = Int32.ofNat 512 ∧ A2 11 m = lv ([(Int32.ofNat 1, Int32.ofNat 256)] ++ [(Int32.ofNat 2, x)] ++ L) 3 ∧ lw ([(Int32.ofNat 1, Int32.ofNat 256)] ++ [(Int32.ofNat 2, x)] ++ L) 3 = Int32.ofNat 0 ∧ 2 ≤ L.length ∨ tr = 2 ∧ k0 = 2 ∨ tr = 0 ∧ k0 = 2)) → S2 31 = S 31 → (S2 7 = Int32.ofNat 1 → S 7 = Int32.ofNat 1 ∧ A2 6 m = x ∧ A2 4 = A 4 ∧ A2 5 = A 5) → ∃ S' A' ac' fo st a8 L', jE G (93, 0, [some (.ref b), none, none], [], hR h b S A) = some (none, hR h b S' A') ∧ MD wn f len R S0 A0 N 10 bl m ac' T (d1, fo, st, a8, false) L' S' A' ∧ dvT fo st = true ∧ S' 31 = S 31 ∧ (S' 7 = Int32.ofNat 1 → S 7 = Int32.ofNat 1 ∧ lRun L' (yA 0 A') (m + 1) ∧ A' 6 m = lv L' 1 ∧ (Int32.ofNat 2, lv L' 1) ∈ L' ∧ lw L' 0 = Int32.ofNat 256 ∧ lw L' 1 = Int32.ofNat 0 ∧ (A' 13 m = Int32.ofNat 1 → lw L' 3 = Int32.ofNat 0) ∧ (∃ am : Nat, A' 14 m = Int32.ofNat ac ∧ A' 15 m = Int32.ofNat am ∧ ac + am = ac') ∧ A' 4 = A 4 ∧ A' 5 = A 5) := by
    intro S2 A2 fo st ac2 am k0 tr L ej pj dj dj2 uj Ij sj gj
    obtain ⟨S', A', fo', st', a8', L', ac', am', e3, p3, d3, f3, g3⟩ := run_loop (G := G) (h := h) (b := b) hw hO hl (ac0 := ac) (k0 := k0) (tr := tr) 8 (am := am) rfl pj dj dj2 uj (fun z => ⟨(Ij z).1, (Ij z).2.1, (Ij z).2.2.1⟩)
    refine ⟨S', A', ac', fo', st', a8', _, ej.trans e3, p3, d3, f3.trans sj, fun z => ?_⟩
    have cn := MD_cnt p3 z
    obtain ⟨w1, w2, w3, w4, ⟨M, w5⟩, w6⟩ := g3 z
    obtain ⟨i1, i2, i3, i4⟩ := Ij w1
    obtain ⟨j1, j2, j3, j4⟩ := gj w1
    have w3' := w3
    obtain ⟨r1, r2, r3, r4, r5⟩ := w3
    have hM : ∀ k : Nat, k < ([(Int32.ofNat 1, Int32.ofNat 256)] ++ [(Int32.ofNat 2, x)] ++ L).length → lv (L' ++ [(Int32.ofNat 4, Int32.ofNat 59)]) k = lv ([(Int32.ofNat 1, Int32.ofNat 256)] ++ [(Int32.ofNat 2, x)] ++ L) k ∧ lw (L' ++ [(Int32.ofNat 4, Int32.ofNat 59)]) k = lw ([(Int32.ofNat 1, Int32.ofNat 256)] ++ [(Int32.ofNat 2, x)] ++ L) k := by
      intro k hk
      rw [w5, List.append_assoc _ M]
      exact lv_app hk
    have len2 : ([(Int32.ofNat 1, Int32.ofNat 256)] ++ [(Int32.ofNat 2, x)] ++ L).length = L.length + 2 := by
      rw [List.length_append]
      show 2 + L.length = L.length + 2
      omega
    have b0 := hM 0 (by omega)
    have b1 := hM 1 (by omega)
    have v1 : lv (L' ++ [(Int32.ofNat 4, Int32.ofNat 59)]) 1 = x := b1.1
    refine ⟨j1, lRun_of w3' (by omega) (by omega) ?_, ?_, ?_, b0.2, b1.2, fun t => ?_, ⟨am', r2, r3, by omega⟩, ?_, ?_⟩
    · rcases i4 with ⟨t1, t2, t3, t4, t5, t6⟩ | ⟨t1, t2⟩ | ⟨t1, t2⟩
      · refine Or.inl ⟨t1, t2, ?_, ?_⟩
        · rw [w5, (lv_app (by omega)).2]; exact t3
        · rw [w6 11 (by decide) (by decide), w5, (lv_app (by omega)).1]; exact t4
      · exact Or.inr (Or.inl ⟨t1, t2, w4 t1⟩)
      · exact Or.inr (Or.inr ⟨t1, t2⟩)
    · rw [w6 6 (by decide) (by decide), j2, v1]
    · rw [v1, w5]
      simp only [List.mem_append, List.mem_cons, List.mem_nil_iff, or_true, true_or]
    · rw [r4] at t
      rcases i4 with ⟨t1, t2, t3, t4, t5, t6⟩ | ⟨t1, t2⟩ | ⟨t1, t2⟩
      · rw [(hM 3 (by omega)).2]
        exact t5
      · rw [t1] at t
        exact absurd t (by decide)
      · rw [t1] at t
        exact absurd t (by decide)
    · rw [w6 4 (by decide) (by decide)]; exact j3
    · rw [w6 5 (by decide) (by decide)]; exact j4
  have fa := f1.2.2.2.2
  have F1 : S1 7 = Int32.ofNat 1 → A1 13 m = Int32.ofNat 0 ∧ A1 14 m = Int32.ofNat ac ∧ A1 15 m = Int32.ofNat 0 := fun z => by
    rw [fa 13 (by decide) (by decide) (by decide), fa 14 (by decide) (by decide) (by decide), fa 15 (by decide) (by decide) (by decide)]
    exact hF (f1.2.2.2.1 z)
  by_cases cE : S1 7 = Int32.ofNat 1 ∧ S1 4 = Int32.ofNat 1 ∧ S1 5 = Int32.ofNat 10
  · obtain ⟨S2, A2, e2, p2, f2⟩ := md_acc (G := G) (h := h) (b := b) (j := 9) hw hO hl p1' (show dvT 6 1 = false by decide +kernel) (by decide) cE.1 cE.2.1 cE.2.2 (D' := (d1, 9, 0, 0, false)) (fun c X z1 z2 => tSt_every z1 z2)
    obtain ⟨S3, A3, v, e3, p3, f3, g3⟩ := md_num (G := G) (h := h) (b := b) (hi := 999999) hw hO hl p2 (show dvT 9 0 = false by decide +kernel) (Or.inr ⟨show duT 9 0 = Int32.ofNat 90 by decide +kernel, rfl⟩)
    have p3' := MD_up (o := 13) (x := Int32.ofNat 1) (MD_up (o := 11) (x := v) p3 (by decide) (by decide)) (by decide) (by decide)
    rw [upA_of (show 13 ≠ 11 by decide)] at p3'
    have e2' := fun {β : Type} {f : jx_R → Option β} => bnd (f := f) e2
    have e3' := fun {β : Type} {f : jx_R → Option β} => bnd (f := f) e3
    refine fin (S2 := S3) (A2 := upA (upA A3 11 (upd (A3 11) m v)) 13 (upd (A3 13) m (Int32.ofNat 1))) (fo := 9) (st := 1) (ac2 := ac) (am := 0) (k0 := 4) (tr := 1) (L := [(Int32.ofNat 1, Int32.ofNat (2 ^ 9))] ++ [(Int32.ofNat 3, v)]) ?_ ?_ (by decide +kernel) (by decide +kernel) (Or.inl (by decide +kernel)) (fun z => ?_) ?_ (fun z => ?_)
    · have c7 := cE.1
      have c4 := cE.2.1
      have c5 := cE.2.2
      simp (disch := omega) only [e_93_0, e_93_16, e_93_24, e_93_32, e_93_41, e_93_45, e_93_58, e_93_69, e_93_76, e_93_84, e_93_93, e_93_105, e_93_114, e_93_122, e_93_131, e_93_140, e_93_146, e_93_154, e_93_164, e_93_168, e_93_169, e_93_172, e_93_178, e_93_184, rr_v, ↓rg_rows_b, r0, i_sub, Nat.add_sub_cancel, ↓rg_good_b, ↓rg_kind_b, ↓rg_value_b, ↓ra_given_b, ↓rs_given_b, ↓ra_low_b, ↓rs_low_b, ↓ra_trigger_b, ↓rs_trigger_b, upA_of, c7, c4, c5, ↓e1', ↓e2', ↓e3', ↓Option.bind_some, ↓jzo_0b, ↓jzo_1b, ↓jzo_bb, Option.toList_some, Option.toList_none, List.cons_append, List.nil_append, ↓reduceIte, jzo_0, jzo_1, jzo_b, jbi_t, jbi_f, i_add, ↓i_ltP, ↓i_ltN, ↓i_eqP, ↓i_eqN, i_lt, i_eq, jbi_0, pt_lt, pf_lt, pt_eq, pf_eq, pt_le, pf_le, Nat.reduceEqDiff, eq_self, true_or, or_true, false_or, or_false, true_and, and_true, false_and, and_false, jE_sw, jE_sw0]
    · rw [← List.append_assoc]
      exact p3'
    · have z1 := f2.2.2.2.1 (f3.2.2.2.1 z)
      have F := F1 z1
      refine ⟨rfl, ⟨rfl, ?_, ?_, ?_, fun j hj => absurd hj (Nat.not_lt_zero _)⟩, fun w => absurd w (by decide), Or.inl ⟨rfl, rfl, rfl, ?_, rfl, Nat.le_refl _⟩⟩
      · rw [upA_of (by decide), upA_of (by decide), f3.2.2.2.2 14 (by decide) (by decide) (by decide), f2.2.2.2.2 14 (by decide) (by decide) (by decide), upA_of (by decide)]
        exact F.2.1
      · rw [upA_of (by decide), upA_of (by decide), f3.2.2.2.2 15 (by decide) (by decide) (by decide), f2.2.2.2.2 15 (by decide) (by decide) (by decide), upA_of (by decide)]
        exact F.2.2
      · rw [upA_at, upd_at]
      · rw [upA_of (by decide), upA_at, upd_at]
        rfl
    · rw [f3.2.2.1, f2.2.2.1, f1.2.2.1]
    · refine ⟨f1.2.2.2.1 (f2.2.2.2.1 (f3.2.2.2.1 z)), ?_, ?_, ?_⟩
      · rw [upA_of (by decide), upA_of (by decide), f3.2.2.2.2 6 (by decide) (by decide) (by decide), f2.2.2.2.2 6 (by decide) (by decide) (by decide), upA_at, upd_at]
      · rw [upA_of (by decide), upA_of (by decide), f3.2.2.2.2 4 (by decide) (by decide) (by decide), f2.2.2.2.2 4 (by decide) (by decide) (by decide), upA_of (by decide), fa 4 (by decide) (by decide) (by decide)]
      · rw [upA_of (by decide), upA_of (by decide), f3.2.2.2.2 5 (by decide) (by decide) (by decide), f2.2.2.2.2 5 (by decide) (by decide) (by decide), upA_of (by decide), fa 5 (by decide) (by decide) (by decide)]
  by_cases cO : S1 7 = Int32.ofNat 1 ∧ S1 4 = Int32.ofNat 1 ∧ S1 5 = Int32.ofNat 11
  · have p1'' := MD_up (o := 13) (x := Int32.ofNat 2) p1' (by decide) (by decide)
    rw [upA_of (show 13 ≠ 6 by decide)] at p1''
    have F := F1 cO.1
    obtain ⟨S2, A2, e2, p2, f2⟩ := md_acc (G := G) (h := h) (b := b) (j := 10) hw hO hl p1'' (show dvT 6 1 = false by decide +kernel) (by decide) cO.1 cO.2.1 cO.2.2 (D' := (d1, 10, 0, 0, false)) (fun c X z1 z2 => tSt_on z1 z2)
    have cn := MD_cnt p1'' cO.1
    obtain ⟨S3, A3, p, d, ac3, e3, p3, f3, g3⟩ := md_access (G := G) (h := h) (b := b) (am := 0) (o := Int32.ofNat 0) hw hO hl e2 p2 f2 cn.1 (fun _ => by rw [upA_of (by decide), upA_of (by decide)]; exact F.2.2)
    have e3' := fun {β : Type} {f : jx_R → Option β} => bnd (f := f) e3
    have rI0 : rInv ([(Int32.ofNat 1, Int32.ofNat 256)] ++ [(Int32.ofNat 2, x)]) (upA (upA A1 6 (upd (A1 6) m x)) 13 (upd (A1 13) m (Int32.ofNat 2))) m ac 0 2 2 := by
      refine ⟨rfl, ?_, ?_, ?_, fun j hj => absurd hj (Nat.not_lt_zero _)⟩
      · rw [upA_of (by decide), upA_of (by decide)]; exact F.2.1
      · rw [upA_of (by decide), upA_of (by decide)]; exact F.2.2
      · rw [upA_at, upd_at]
    refine fin (S2 := S3) (A2 := A3) (fo := 10) (st := 3) (ac2 := ac3) (am := 1) (k0 := 2) (tr := 2) (L := [(Int32.ofNat 1, Int32.ofNat (2 ^ 10))] ++ [(Int32.ofNat 2, p)] ++ [(Int32.ofNat 4, Int32.ofNat 46)] ++ [(Int32.ofNat 2, d)]) ?_ ?_ (by decide +kernel) (by decide +kernel) (Or.inl (by decide +kernel)) (fun z => ?_) ?_ (fun z => ?_)
    · have c7 := cO.1
      have c4 := cO.2.1
      have c5 := cO.2.2
      simp (disch := omega) only [e_93_0, e_93_16, e_93_24, e_93_32, e_93_41, e_93_45, e_93_58, e_93_69, e_93_76, e_93_84, e_93_93, e_93_105, e_93_114, e_93_122, e_93_131, e_93_140, e_93_146, e_93_154, e_93_164, e_93_168, e_93_169, e_93_172, e_93_178, e_93_184, rr_v, ↓rg_rows_b, r0, i_sub, Nat.add_sub_cancel, ↓rg_good_b, ↓rg_kind_b, ↓rg_value_b, ↓ra_given_b, ↓rs_given_b, ↓ra_trigger_b, ↓rs_trigger_b, upA_of, c7, c4, c5, ↓e1', ↓e3', ↓Option.bind_some, ↓jzo_0b, ↓jzo_1b, ↓jzo_bb, Option.toList_some, Option.toList_none, List.cons_append, List.nil_append, ↓reduceIte, jzo_0, jzo_1, jzo_b, jbi_t, jbi_f, i_add, ↓i_ltP, ↓i_ltN, ↓i_eqP, ↓i_eqN, i_lt, i_eq, jbi_0, pt_lt, pf_lt, pt_eq, pf_eq, pt_le, pf_le, Nat.reduceEqDiff, eq_self, true_or, or_true, false_or, or_false, true_and, and_true, false_and, and_false, jE_sw, jE_sw0]
    · rw [← List.append_assoc, ← List.append_assoc, ← List.append_assoc]
      exact p3
    · obtain ⟨z1, z2, z3, z4, z5, z6, z7, z8⟩ := g3 z
      have rI := rInv_step (L := [(Int32.ofNat 1, Int32.ofNat 256)] ++ [(Int32.ofNat 2, x)]) (A' := A3) (w := Int32.ofNat (2 ^ 10)) (o := Int32.ofNat 0) (p := p) (d := d) rI0 (by rw [z8 13 (by decide) (by decide)]) (by rw [z8 14 (by decide) (by decide)]) z3 z4 z5 z6 z7 (Or.inl ⟨rfl, rfl, rfl, rfl⟩)
      refine ⟨z2, ?_, fun _ => Nat.le_refl _, Or.inr (Or.inl ⟨rfl, rfl⟩)⟩
      rw [← List.append_assoc, ← List.append_assoc, ← List.append_assoc]
      exact rI
    · rw [f3, f1.2.2.1]
    · obtain ⟨z1, z2, z3, z4, z5, z6, z7, z8⟩ := g3 z
      refine ⟨f1.2.2.2.1 z1, ?_, ?_, ?_⟩
      · rw [z8 6 (by decide) (by decide), upA_of (by decide), upA_at, upd_at]
      · rw [z8 4 (by decide) (by decide), upA_of (by decide), upA_of (by decide), fa 4 (by decide) (by decide) (by decide)]
      · rw [z8 5 (by decide) (by decide), upA_of (by decide), upA_of (by decide), fa 5 (by decide) (by decide) (by decide)]
  · refine fin (S2 := S1) (A2 := upA A1 6 (upd (A1 6) m x)) (fo := 6) (st := 1) (ac2 := ac) (am := 0) (k0 := 2) (tr := 0) (L := []) ?_ p1' (by decide +kernel) (by decide +kernel) (Or.inr ⟨by decide +kernel, fun z => ⟨fun w => cE ⟨z, w⟩, fun w => cO ⟨z, w⟩⟩⟩) (fun z => ?_) f1.2.2.1 (fun z => ?_)
    · rcases l7 with l7 | l7
      · by_cases c4 : S1 4 = Int32.ofNat 1
        · have c5 : ¬ S1 5 = Int32.ofNat 10 := fun w => cE ⟨l7, c4, w⟩
          have c6 : ¬ S1 5 = Int32.ofNat 11 := fun w => cO ⟨l7, c4, w⟩
          simp (disch := omega) only [e_93_0, e_93_16, e_93_24, e_93_32, e_93_41, e_93_45, e_93_58, e_93_69, e_93_76, e_93_84, e_93_93, e_93_105, e_93_114, e_93_122, e_93_131, e_93_140, e_93_146, e_93_154, e_93_164, e_93_168, e_93_169, e_93_172, e_93_178, e_93_184, rr_v, ↓rg_rows_b, r0, i_sub, Nat.add_sub_cancel, ↓rg_good_b, ↓rg_kind_b, ↓rg_value_b, ↓ra_given_b, ↓rs_given_b, l7, c4, c5, c6, ↓e1', ↓Option.bind_some, ↓jzo_0b, ↓jzo_1b, ↓jzo_bb, Option.toList_some, Option.toList_none, List.cons_append, List.nil_append, ↓reduceIte, jzo_0, jzo_1, jzo_b, jbi_t, jbi_f, i_add, ↓i_ltP, ↓i_ltN, ↓i_eqP, ↓i_eqN, i_lt, i_eq, jbi_0, pt_lt, pf_lt, pt_eq, pf_eq, pt_le, pf_le, Nat.reduceEqDiff, eq_self, true_or, or_true, false_or, or_false, true_and, and_true, false_and, and_false, jE_sw, jE_sw0]
        · simp (disch := omega) only [e_93_0, e_93_16, e_93_24, e_93_32, e_93_41, e_93_45, e_93_58, e_93_69, e_93_76, e_93_84, e_93_93, e_93_105, e_93_114, e_93_122, e_93_131, e_93_140, e_93_146, e_93_154, e_93_164, e_93_168, e_93_169, e_93_172, e_93_178, e_93_184, rr_v, ↓rg_rows_b, r0, i_sub, Nat.add_sub_cancel, ↓rg_good_b, ↓rg_kind_b, ↓rg_value_b, ↓ra_given_b, ↓rs_given_b, l7, c4, ↓e1', ↓Option.bind_some, ↓jzo_0b, ↓jzo_1b, ↓jzo_bb, Option.toList_some, Option.toList_none, List.cons_append, List.nil_append, ↓reduceIte, jzo_0, jzo_1, jzo_b, jbi_t, jbi_f, i_add, ↓i_ltP, ↓i_ltN, ↓i_eqP, ↓i_eqN, i_lt, i_eq, jbi_0, pt_lt, pf_lt, pt_eq, pf_eq, pt_le, pf_le, Nat.reduceEqDiff, eq_self, true_or, or_true, false_or, or_false, true_and, and_true, false_and, and_false, jE_sw, jE_sw0]
      · simp (disch := omega) only [e_93_0, e_93_16, e_93_24, e_93_32, e_93_41, e_93_45, e_93_58, e_93_69, e_93_76, e_93_84, e_93_93, e_93_105, e_93_114, e_93_122, e_93_131, e_93_140, e_93_146, e_93_154, e_93_164, e_93_168, e_93_169, e_93_172, e_93_178, e_93_184, rr_v, ↓rg_rows_b, r0, i_sub, Nat.add_sub_cancel, ↓rg_good_b, ↓ra_given_b, ↓rs_given_b, l7, ↓e1', ↓Option.bind_some, ↓jzo_0b, ↓jzo_1b, ↓jzo_bb, Option.toList_some, Option.toList_none, List.cons_append, List.nil_append, ↓reduceIte, jzo_0, jzo_1, jzo_b, jbi_t, jbi_f, i_add, ↓i_ltP, ↓i_ltN, ↓i_eqP, ↓i_eqN, i_lt, i_eq, jbi_0, pt_lt, pf_lt, pt_eq, pf_eq, pt_le, pf_le, Nat.reduceEqDiff, eq_self, true_or, or_true, false_or, or_false, true_and, and_true, false_and, and_false, jE_sw, jE_sw0]
    · have F := F1 z
      refine ⟨rfl, ⟨rfl, ?_, ?_, ?_, fun j hj => absurd hj (Nat.not_lt_zero _)⟩, fun w => absurd w (by decide), Or.inr (Or.inr ⟨rfl, rfl⟩)⟩
      · rw [upA_of (by decide)]; exact F.2.1
      · rw [upA_of (by decide)]; exact F.2.2
      · rw [upA_of (by decide)]; exact F.1
    · exact ⟨f1.2.2.2.1 z, by rw [upA_at, upd_at], by rw [upA_of (by decide), fa 4 (by decide) (by decide) (by decide)], by rw [upA_of (by decide), fa 5 (by decide) (by decide) (by decide)]⟩
