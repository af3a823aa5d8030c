/-! A VALUE WITH OR WITHOUT A MINUS -/
theorem Tk_S {f : Nat → Int32} {p : Nat} {q : jS} {X : jX} {S S' : Nat → Int32} {A A' : Nat → Nat → Int32} (h : Tk f p q X S A) (h2 : S' 2 = S 2) (h3 : S' 3 = S 3) (h4 : S' 4 = S 4) (h5 : S' 5 = S 5) (h6 : S' 6 = S 6) (h8 : S' 8 = S 8) (a2 : A' 2 = A 2) (a3 : A' 3 = A 3) : Tk f p q X S' A' := by
  unfold Tk nTab
  rw [h2, h3, h4, h5, h6, h8, a2, a3]
  exact h
theorem lv_undo {wn : Nat → Int64} {f : Nat → Int32} {len : Nat} {R : Bool × jS × jR × jX} {S0 : Nat → Int32} {A0 : Nat → Nat → Int32} {S : Nat → Int32} {A : Nat → Nat → Int32} {n : Nat} {c : jS} {D : jR} {X : jX} {ws : Nat → Nat} {ex : List Int32} {m ac : Nat} (q : Lv wn f len R S0 A0 S A n c D X ws ex m ac) : Lv wn f len R S0 A0 (upd S 28 (Int32.ofNat (ws (xRc X)))) A n c D X ws [] m ac := by
  have u : ∀ j : Nat, j ≠ 28 → upd S 28 (Int32.ofNat (ws (xRc X))) j = S j := fun j hj => upd_of hj
  refine ⟨Lv_fl q, Lv_fu q, Lv_fi q, (u 0 (by decide)).trans (Lv_s0 q), Lv_a1 q, Lv_ln q, Lv_pl q, Tk_S (Lv_tk q) (u 2 (by decide)) (u 3 (by decide)) (u 4 (by decide)) (u 5 (by decide)) (u 6 (by decide)) (u 8 (by decide)) rfl rfl, (u 7 (by decide)).trans (Lv_go q), (u 11 (by decide)).trans (Lv_ro q), Lv_w0 q, ⟨upd_at, ?_⟩, Lv_wa q, Lv_tx q, fun i hi => absurd hi (Nat.not_lt_zero _), ⟨(u 24 (by decide)).trans (Lv_ac q).1, (Lv_ac q).2⟩, Fr_S (Lv_fr q) (u 32 (by decide)) (u 33 (by decide)) (u 51 (by decide)) (fun _ _ => rfl), Lv_ta q, Lv_tl q, Lv_bk q, Lv_rw q, Lv_mm q⟩
  have := (Lv_wr q).2
  show ws (xRc X) + 0 ≤ 2 * c.1
  omega
theorem N_signed_p {G : jx_Gv} {h : jx_H} {b : Nat} {S : Nat → Int32} {A : Nat → Nat → Int32} {v : Int32} {H : jx_H} (hn : ¬ (S 7 = Int32.ofNat 1 ∧ S 4 = Int32.ofNat 4 ∧ S 5 = Int32.ofNat 45)) (h7 : S 7 = Int32.ofNat 0 ∨ S 7 = Int32.ofNat 1) (e : jE G (87, 0, [some (.ref b), some (.int (Int32.ofNat 0)), some (.int (Int32.ofNat 999999)), none], [], hR h b S A) = some (some (.int v), H)) : jE G (89, 0, [some (.ref b), none, none, none, none], [], hR h b S A) = some (some (.int v), H) := by
  have e' := fun {β : Type} {f : jx_R → Option β} => bnd (f := f) e
  rcases h7 with h7 | h7
  · by_cases c3 : S 4 = Int32.ofNat 3
    · by_cases c4 : S 5 = Int32.ofNat 0 <;> simp (disch := omega) only [e_89_0, e_89_7, e_89_15, e_89_24, e_89_28, e_89_29, e_89_39, e_89_45, e_89_46, e_89_54, e_89_61, e_89_65, e_89_66, e_89_71, e_89_75, e_89_80, e_89_87, e_89_93, e_89_99, e_89_101, rr_v, ↓rg_good_b, ↓rg_kind_b, ↓rg_value_b, ↓rg_written_b, ↓e', h7, c3, c4, ↓Option.bind_some, ↓jzo_0b, ↓jzo_1b, ↓jzo_bb, Option.toList_some, Option.toList_none, List.cons_append, List.nil_append, ↓reduceIte, jzo_0, jzo_1, jzo_b, jbi_t, jbi_f, i_add, ↓i_ltP, ↓i_ltN, ↓i_eqP, ↓i_eqN, i_lt, i_eq, jbi_0, pt_lt, pf_lt, pt_eq, pf_eq, pt_le, pf_le, Nat.reduceEqDiff, eq_self, true_or, or_true, false_or, or_false, true_and, and_true, false_and, and_false, jE_sw, jE_sw0]
    · simp (disch := omega) only [e_89_0, e_89_7, e_89_15, e_89_24, e_89_28, e_89_29, e_89_39, e_89_45, e_89_46, e_89_54, e_89_61, e_89_65, e_89_66, e_89_71, e_89_75, e_89_80, e_89_87, e_89_93, e_89_99, e_89_101, rr_v, ↓rg_good_b, ↓rg_kind_b, ↓rg_value_b, ↓rg_written_b, ↓e', h7, c3, ↓Option.bind_some, ↓jzo_0b, ↓jzo_1b, ↓jzo_bb, Option.toList_some, Option.toList_none, List.cons_append, List.nil_append, ↓reduceIte, jzo_0, jzo_1, jzo_b, jbi_t, jbi_f, i_add, ↓i_ltP, ↓i_ltN, ↓i_eqP, ↓i_eqN, i_lt, i_eq, jbi_0, pt_lt, pf_lt, pt_eq, pf_eq, pt_le, pf_le, Nat.reduceEqDiff, eq_self, true_or, or_true, false_or, or_false, true_and, and_true, false_and, and_false, jE_sw, jE_sw0]
  · by_cases c1 : S 4 = Int32.ofNat 4
    · have c2 : ¬ S 5 = Int32.ofNat 45 := fun z => hn ⟨h7, c1, z⟩
      simp (disch := omega) only [e_89_0, e_89_7, e_89_15, e_89_24, e_89_28, e_89_29, e_89_39, e_89_45, e_89_46, e_89_54, e_89_61, e_89_65, e_89_66, e_89_71, e_89_75, e_89_80, e_89_87, e_89_93, e_89_99, e_89_101, rr_v, ↓rg_good_b, ↓rg_kind_b, ↓rg_value_b, ↓rg_written_b, ↓e', h7, c1, c2, ↓Option.bind_some, ↓jzo_0b, ↓jzo_1b, ↓jzo_bb, Option.toList_some, Option.toList_none, List.cons_append, List.nil_append, ↓reduceIte, jzo_0, jzo_1, jzo_b, jbi_t, jbi_f, i_add, ↓i_ltP, ↓i_ltN, ↓i_eqP, ↓i_eqN, i_lt, i_eq, jbi_0, pt_lt, pf_lt, pt_eq, pf_eq, pt_le, pf_le, Nat.reduceEqDiff, eq_self, true_or, or_true, false_or, or_false, true_and, and_true, false_and, and_false, jE_sw, jE_sw0]
    · by_cases c3 : S 4 = Int32.ofNat 3
      · by_cases c4 : S 5 = Int32.ofNat 0 <;> simp (disch := omega) only [e_89_0, e_89_7, e_89_15, e_89_24, e_89_28, e_89_29, e_89_39, e_89_45, e_89_46, e_89_54, e_89_61, e_89_65, e_89_66, e_89_71, e_89_75, e_89_80, e_89_87, e_89_93, e_89_99, e_89_101, rr_v, ↓rg_good_b, ↓rg_kind_b, ↓rg_value_b, ↓rg_written_b, ↓e', h7, c3, c4, ↓Option.bind_some, ↓jzo_0b, ↓jzo_1b, ↓jzo_bb, Option.toList_some, Option.toList_none, List.cons_append, List.nil_append, ↓reduceIte, jzo_0, jzo_1, jzo_b, jbi_t, jbi_f, i_add, ↓i_ltP, ↓i_ltN, ↓i_eqP, ↓i_eqN, i_lt, i_eq, jbi_0, pt_lt, pf_lt, pt_eq, pf_eq, pt_le, pf_le, Nat.reduceEqDiff, eq_self, true_or, or_true, false_or, or_false, true_and, and_true, false_and, and_false, jE_sw, jE_sw0]
      · simp (disch := omega) only [e_89_0, e_89_7, e_89_15, e_89_24, e_89_28, e_89_29, e_89_39, e_89_45, e_89_46, e_89_54, e_89_61, e_89_65, e_89_66, e_89_71, e_89_75, e_89_80, e_89_87, e_89_93, e_89_99, e_89_101, rr_v, ↓rg_good_b, ↓rg_kind_b, ↓rg_value_b, ↓rg_written_b, ↓e', h7, c1, c3, ↓Option.bind_some, ↓jzo_0b, ↓jzo_1b, ↓jzo_bb, Option.toList_some, Option.toList_none, List.cons_append, List.nil_append, ↓reduceIte, jzo_0, jzo_1, jzo_b, jbi_t, jbi_f, i_add, ↓i_ltP, ↓i_ltN, ↓i_eqP, ↓i_eqN, i_lt, i_eq, jbi_0, pt_lt, pf_lt, pt_eq, pf_eq, pt_le, pf_le, Nat.reduceEqDiff, eq_self, true_or, or_true, false_or, or_false, true_and, and_true, false_and, and_false, jE_sw, jE_sw0]
theorem N_signed_p_b {G : jx_Gv} {h : jx_H} {b : Nat} {S : Nat → Int32} {A : Nat → Nat → Int32} {v : Int32} {H : jx_H} (hn : ¬ (S 7 = Int32.ofNat 1 ∧ S 4 = Int32.ofNat 4 ∧ S 5 = Int32.ofNat 45)) (h7 : S 7 = Int32.ofNat 0 ∨ S 7 = Int32.ofNat 1) (e : jE G (87, 0, [some (.ref b), some (.int (Int32.ofNat 0)), some (.int (Int32.ofNat 999999)), none], [], hR h b S A) = some (some (.int v), H)) {β_ : Type} {f_ : jx_R → Option β_} : (jE G (89, 0, [some (.ref b), none, none, none, none], [], hR h b S A)).bind f_ = f_ ((some (.int v), H)) := bnd (N_signed_p hn h7 e)
theorem N_signed_z {G : jx_Gv} {h : jx_H} {b : Nat} {S : Nat → Int32} {A : Nat → Nat → Int32} {S1 : Nat → Int32} {A1 : Nat → Nat → Int32} {v x : Int32} {H : jx_H} (h7 : S 7 = Int32.ofNat 1) (h4 : S 4 = Int32.ofNat 4) (h5 : S 5 = Int32.ofNat 45) (e0 : jE G (86, 0, [some (.ref b), some (.int (Int32.ofNat 45))], [], hR h b S A) = some (some (.int x), hR h b S1 A1)) (z3 : S1 4 = Int32.ofNat 3) (z0 : S1 5 = Int32.ofNat 0) (e : jE G (87, 0, [some (.ref b), some (.int (Int32.ofNat 0)), some (.int (Int32.ofNat 999999)), none], [], hR h b (upd S1 28 (S 28)) A1) = some (some (.int v), H)) : jE G (89, 0, [some (.ref b), none, none, none, none], [], hR h b S A) = some (some (.int (-v)), H) := by
  have e' := fun {β : Type} {f : jx_R → Option β} => bnd (f := f) e
  have e0' := fun {β : Type} {f : jx_R → Option β} => bnd (f := f) e0
  simp (disch := omega) only [e_89_0, e_89_7, e_89_15, e_89_24, e_89_28, e_89_29, e_89_39, e_89_45, e_89_46, e_89_54, e_89_61, e_89_65, e_89_66, e_89_71, e_89_75, e_89_80, e_89_87, e_89_93, e_89_99, e_89_101, rr_v, ↓rg_good_b, ↓rg_kind_b, ↓rg_value_b, ↓rg_written_b, ↓rp_written_b, ↓e', ↓e0', h7, h4, h5, z3, z0, ↓Option.bind_some, ↓jzo_0b, ↓jzo_1b, ↓jzo_bb, Option.toList_some, Option.toList_none, List.cons_append, List.nil_append, ↓reduceIte, jzo_0, jzo_1, jzo_b, jbi_t, jbi_f, i_add, ↓i_ltP, ↓i_ltN, ↓i_eqP, ↓i_eqN, i_lt, i_eq, jbi_0, pt_lt, pf_lt, pt_eq, pf_eq, pt_le, pf_le, Nat.reduceEqDiff, eq_self, true_or, or_true, false_or, or_false, true_and, and_true, false_and, and_false, jE_sw, jE_sw0]
theorem N_signed_z_b {G : jx_Gv} {h : jx_H} {b : Nat} {S : Nat → Int32} {A : Nat → Nat → Int32} {S1 : Nat → Int32} {A1 : Nat → Nat → Int32} {v x : Int32} {H : jx_H} (h7 : S 7 = Int32.ofNat 1) (h4 : S 4 = Int32.ofNat 4) (h5 : S 5 = Int32.ofNat 45) (e0 : jE G (86, 0, [some (.ref b), some (.int (Int32.ofNat 45))], [], hR h b S A) = some (some (.int x), hR h b S1 A1)) (z3 : S1 4 = Int32.ofNat 3) (z0 : S1 5 = Int32.ofNat 0) (e : jE G (87, 0, [some (.ref b), some (.int (Int32.ofNat 0)), some (.int (Int32.ofNat 999999)), none], [], hR h b (upd S1 28 (S 28)) A1) = some (some (.int v), H)) {β_ : Type} {f_ : jx_R → Option β_} : (jE G (89, 0, [some (.ref b), none, none, none, none], [], hR h b S A)).bind f_ = f_ ((some (.int (-v)), H)) := bnd (N_signed_z h7 h4 h5 e0 z3 z0 e)
theorem N_signed_m {G : jx_Gv} {h : jx_H} {b : Nat} {S : Nat → Int32} {A : Nat → Nat → Int32} {S1 : Nat → Int32} {A1 : Nat → Nat → Int32} {v x : Int32} {H : jx_H} (h7 : S 7 = Int32.ofNat 1) (h4 : S 4 = Int32.ofNat 4) (h5 : S 5 = Int32.ofNat 45) (e0 : jE G (86, 0, [some (.ref b), some (.int (Int32.ofNat 45))], [], hR h b S A) = some (some (.int x), hR h b S1 A1)) (z : ¬ (S1 4 = Int32.ofNat 3 ∧ S1 5 = Int32.ofNat 0)) (e : jE G (87, 0, [some (.ref b), some (.int (Int32.ofNat 0)), some (.int (Int32.ofNat 999999)), none], [], hR h b S1 A1) = some (some (.int v), H)) : jE G (89, 0, [some (.ref b), none, none, none, none], [], hR h b S A) = some (some (.int (-v)), H) := by
  have e' := fun {β : Type} {f : jx_R → Option β} => bnd (f := f) e
  have e0' := fun {β : Type} {f : jx_R → Option β} => bnd (f := f) e0
  by_cases z3 : S1 4 = Int32.ofNat 3
  · have z0 : ¬ S1 5 = Int32.ofNat 0 := fun y => z ⟨z3, y⟩
    simp (disch := omega) only [e_89_0, e_89_7, e_89_15, e_89_24, e_89_28, e_89_29, e_89_39, e_89_45, e_89_46, e_89_54, e_89_61, e_89_65, e_89_66, e_89_71, e_89_75, e_89_80, e_89_87, e_89_93, e_89_99, e_89_101, rr_v, ↓rg_good_b, ↓rg_kind_b, ↓rg_value_b, ↓rg_written_b, ↓e', ↓e0', h7, h4, h5, z3, z0, ↓Option.bind_some, ↓jzo_0b, ↓jzo_1b, ↓jzo_bb, Option.toList_some, Option.toList_none, List.cons_append, List.nil_append, ↓reduceIte, jzo_0, jzo_1, jzo_b, jbi_t, jbi_f, i_add, ↓i_ltP, ↓i_ltN, ↓i_eqP, ↓i_eqN, i_lt, i_eq, jbi_0, pt_lt, pf_lt, pt_eq, pf_eq, pt_le, pf_le, Nat.reduceEqDiff, eq_self, true_or, or_true, false_or, or_false, true_and, and_true, false_and, and_false, jE_sw, jE_sw0]
  · simp (disch := omega) only [e_89_0, e_89_7, e_89_15, e_89_24, e_89_28, e_89_29, e_89_39, e_89_45, e_89_46, e_89_54, e_89_61, e_89_65, e_89_66, e_89_71, e_89_75, e_89_80, e_89_87, e_89_93, e_89_99, e_89_101, rr_v, ↓rg_good_b, ↓rg_kind_b, ↓rg_value_b, ↓rg_written_b, ↓e', ↓e0', h7, h4, h5, z3, ↓Option.bind_some, ↓jzo_0b, ↓jzo_1b, ↓jzo_bb, Option.toList_some, Option.toList_none, List.cons_append, List.nil_append, ↓reduceIte, jzo_0, jzo_1, jzo_b, jbi_t, jbi_f, i_add, ↓i_ltP, ↓i_ltN, ↓i_eqP, ↓i_eqN, i_lt, i_eq, jbi_0, pt_lt, pf_lt, pt_eq, pf_eq, pt_le, pf_le, Nat.reduceEqDiff, eq_self, true_or, or_true, false_or, or_false, true_and, and_true, false_and, and_false, jE_sw, jE_sw0]
theorem N_signed_m_b {G : jx_Gv} {h : jx_H} {b : Nat} {S : Nat → Int32} {A : Nat → Nat → Int32} {S1 : Nat → Int32} {A1 : Nat → Nat → Int32} {v x : Int32} {H : jx_H} (h7 : S 7 = Int32.ofNat 1) (h4 : S 4 = Int32.ofNat 4) (h5 : S 5 = Int32.ofNat 45) (e0 : jE G (86, 0, [some (.ref b), some (.int (Int32.ofNat 45))], [], hR h b S A) = some (some (.int x), hR h b S1 A1)) (z : ¬ (S1 4 = Int32.ofNat 3 ∧ S1 5 = Int32.ofNat 0)) (e : jE G (87, 0, [some (.ref b), some (.int (Int32.ofNat 0)), some (.int (Int32.ofNat 999999)), none], [], hR h b S1 A1) = some (some (.int v), H)) {β_ : Type} {f_ : jx_R → Option β_} : (jE G (89, 0, [some (.ref b), none, none, none, none], [], hR h b S A)).bind f_ = f_ ((some (.int (-v)), H)) := bnd (N_signed_m h7 h4 h5 e0 z e)
theorem i_negp {m : Nat} (h1 : 1 ≤ m) (h2 : m < 1000000) : (-(Int32.ofNat m) < Int32.ofNat 0) ∧ -(-(Int32.ofNat m)) = Int32.ofNat m := ⟨by rw [i_nl h1 (by omega)]; trivial, Int32.neg_neg⟩
theorem ktf : ¬ true = false := by decide
theorem md_signed {G : jx_Gv} {h : jx_H} {b : Nat} {wn : Nat → Int64} {f : Nat → Int32} {len : Nat} {R : Bool × jS × jR × jX} {S0 : Nat → Int32} {A0 : Nat → Nat → Int32} (hw : wnOk wn) (hO : fOct f len) (hl : len ≤ 2000) {N k bl m ac T d1 fo st a8 : Nat} {L : List (Int32 × Int32)} {S : Nat → Int32} {A : Nat → Nat → Int32} (q : MD wn f len R S0 A0 N k bl m ac T (d1, fo, st, a8, false) L S A) (hd : dOv (d1, fo, st, a8, false) = false) (hdue : tDue (d1, fo, st, a8, false) = Int32.ofNat 86) (hdue2 : tDue (d1, fo, st, a8, true) = Int32.ofNat 86) : ∃ S' A' x, jE G (89, 0, [some (.ref b), none, none, none, none], [], hR h b S A) = some (some (.int x), hR h b S' A') ∧ MD wn f len R S0 A0 N k bl m ac T (d1, fo, st + 1, a8, false) (L ++ [(Int32.ofNat 3, x)]) S' A' ∧ Frm S A S' A' := by
  obtain ⟨m1, m2, q⟩ := q
  rcases q with ⟨n, c, X, ws, q1, q2, q3, q4, q5, q6, q7⟩ | q
  · have tk := Lv_tk q2
    by_cases cm : S 4 = Int32.ofNat 4 ∧ S 5 = Int32.ofNat 45
    · have z1 : (adv wn f len c).2.2.1 = Int32.ofNat 4 := rk_eq (by decide) (by decide) (tk.2.1.symm.trans cm.1)
      have z2 : (adv wn f len c).2.2.2.1 = Int32.ofNat 45 := (tk.2.2.2.2.2.2.1 z1).symm.trans cm.2
      have sg : sSg (adv wn f len c) (Int32.ofNat 45) = true := by
        unfold sSg
        rw [decide_eq_true z1, decide_eq_true z2]
        rfl
      have nx : nxX (adv wn f len c) X = X := if_neg (by rw [z1]; decide)
      have est : tSt (adv wn f len c) (d1, fo, st, a8, false) X = (true, (d1, fo, st, a8, true), X) := by
        rw [tSt_eq, hdue]
        show tVa (adv wn f len c) (d1, fo, st + 1, a8, false) X = _
        unfold tVa
        rw [if_pos ⟨rfl, sg⟩]
        rfl
      have tt := tk_text (v := Int32.ofNat 45) hw tk (by rw [nx]; exact (Lv_fi q2).2.1.2.2.1) (Or.inr (Or.inr (Or.inr ⟨z1, z2.symm⟩)))
      have tx := Lv_tx q2 (m + 1) (by omega) (by omega)
      rw [Nat.add_sub_cancel] at tx
      obtain ⟨S1, A1, ws1, g1, g2, g3, g4, g5⟩ := lv_gen (G := G) (h := h) (b := b) hw hO hl q2 q3 hd (by rw [z1]; decide) (by rw [z1]; decide) (ex' := [Int32.ofNat 32, Int32.ofNat 45]) est (by rw [nx]) (by rw [nx]) rfl (Nat.le_refl _) (fun _ _ _ => rfl) rfl rfl rfl (by rw [tt.1, z1]; rfl) (Lv_tl q2 (m + 1) (by omega) (by omega)) (by have := tx.1; omega)
      have s1 := N_sign0Y (G := G) (h := h) (b := b) (Lv_go q2) cm.1 cm.2 g1
      have hd2 : dOv (d1, fo, st, a8, true) = false := hd
      have tk1 := Lv_tk g2
      have go1 := Lv_go g2
      have e28 : S 28 = Int32.ofNat (ws (m + 1)) := by
        have := (Lv_wr q2).1
        rw [q3] at this
        exact this
      have w28 : ws1 (xRc X) = ws (m + 1) := by
        have y := Lv_tx g2 (m + 1) (by omega) (by omega)
        have y0 := Lv_wa g2 m (by omega)
        have y1 := Lv_wa q2 m (by omega)
        rw [g4.2.2.2.2 20 (by decide) (by decide) (by decide), y1] at y0
        have b1 := (Lv_wr q2).2
        have b2 := (Lv_wr g2).2
        have b3 := (Lv_fi q2).1
        have b4 := (Lv_fi g2).1
        rw [Nat.add_sub_cancel] at y
        rw [q3] at b1 b2
        have y2 : ws m = ws1 m := by
          rw [i_eq (by omega) (by omega)] at y0
          exact y0
        rw [q3, y.2.1, tx.2.1, y2]
      by_cases cz : S1 4 = Int32.ofNat 3 ∧ S1 5 = Int32.ofNat 0
      · have y1 : (adv wn f len (adv wn f len c)).2.2.1 = Int32.ofNat 3 := rk_eq (by decide) (by decide) (tk1.2.1.symm.trans cz.1)
        have y2 : (adv wn f len (adv wn f len c)).2.2.2.1 = Int32.ofNat 0 := (tk1.2.2.2.2.2.1 y1).1.symm.trans cz.2
        have ud := lv_undo g2
        rw [w28, ← e28] at ud
        have tk2 := Lv_tk ud
        have nx2 : nxX (adv wn f len (adv wn f len c)) X = X := if_neg (by rw [y1]; decide)
        have est2 : tSt (adv wn f len (adv wn f len c)) (d1, fo, st, a8, true) X = (true, (d1, fo, st + 1, a8, false), xaddTok X (adv wn f len (adv wn f len c)).2.2.1 (Int32.ofNat 0)) := by
          rw [tSt_eq, hdue2]
          show tVa (adv wn f len (adv wn f len c)) (d1, fo, st + 1, a8, true) X = _
          unfold tVa
          rw [if_neg (fun z => absurd z.1 ktf), if_pos y1, y2]
          rfl
        have tt2 := tk_text (v := Int32.ofNat 0) hw tk2 (by rw [nx2]; exact (Lv_fi ud).2.1.2.2.1) (Or.inr (Or.inr (Or.inl ⟨y1, y2.symm⟩)))
        obtain ⟨S2, A2, X2, ws2, k1, k2, k3, k4, k5, k6, k7, k8, k9⟩ := lv_take (G := G) (h := h) (b := b) hw hO hl ud q3 hd2 (by rw [y1]; decide) (by rw [y1]; decide) (v := Int32.ofNat 0) (by rw [nx2]; exact est2) (by rw [tt2.1]; rfl) (tt2.2 (fun z => by rw [y1] at z; exact absurd z (by decide)))
        have nb := N_numberY (G := G) (h := h) (b := b) (lo := Int32.ofNat 0) (hi := Int32.ofNat 999999) (Lv_go ud) (by rw [tk2.2.1]; exact rk_of (by decide) y1) (by rw [(tk2.2.2.2.2.2.1 y1).1, y2]; decide) (by rw [(tk2.2.2.2.2.2.1 y1).1, y2]; decide) k1
        rw [(tk2.2.2.2.2.2.1 y1).1, y2] at nb
        have sg2 := N_signed_z (Lv_go q2) cm.1 cm.2 s1 cz.1 cz.2 nb
        have fr2 : Frm S A S2 A2 := Frm_trans (Frm_trans g4 (⟨upd_of (by decide), upd_of (by decide), upd_of (by decide), fun z => by rw [upd_of (by decide)] at z; exact z, fun _ _ _ _ => rfl⟩ : Frm S1 A1 (upd S1 28 (S 28)) A1)) k4
        refine ⟨S2, A2, _, sg2, ⟨m1, by rw [fr2.1]; exact m2, Or.inl ⟨n - 1 - 1, _, X2, ws2, by omega, k2, k5, by rw [k6]; exact q4, by rw [k7]; exact q5, ?_, by rw [k9]; exact q7⟩⟩, fr2⟩
        rw [k8, q6, y1]
        rfl
      · by_cases y1 : (adv wn f len (adv wn f len c)).2.2.1 = Int32.ofNat 3
        · obtain ⟨y0, mm, y2, y3, y4⟩ := tk1.2.2.2.2.2.1 y1
          have ym : 1 ≤ mm := by
            apply Classical.byContradiction
            intro z
            have e0 : mm = 0 := by omega
            exact cz ⟨by rw [tk1.2.1]; exact rk_of (by decide) y1, by rw [y0, y3, e0]⟩
          have nx2 : nxX (adv wn f len (adv wn f len c)) X = X := if_neg (by rw [y1]; decide)
          have ng := i_negp ym y2
          have est2 : tSt (adv wn f len (adv wn f len c)) (d1, fo, st, a8, true) X = (true, (d1, fo, st + 1, a8, false), xaddTok X (adv wn f len (adv wn f len c)).2.2.1 (-(Int32.ofNat mm))) := by
            rw [tSt_eq, hdue2]
            show tVa (adv wn f len (adv wn f len c)) (d1, fo, st + 1, a8, true) X = _
            unfold tVa
            rw [if_neg (fun z => absurd z.1 ktf), if_pos y1, y3]
            rfl
          have tt2 := tk_text (v := (adv wn f len (adv wn f len c)).2.2.2.1) hw tk1 (by rw [nx2]; exact (Lv_fi g2).2.1.2.2.1) (Or.inr (Or.inr (Or.inl ⟨y1, rfl⟩)))
          have nO : tkt wn X (Int32.ofNat 3, -(Int32.ofNat mm)) = Int32.ofNat 45 :: Int32.ofNat 32 :: tkt wn X (Int32.ofNat 3, Int32.ofNat mm) := by
            show numO (-(Int32.ofNat mm)) = Int32.ofNat 45 :: Int32.ofNat 32 :: numO (Int32.ofNat mm)
            unfold numO
            rw [if_pos ng.1, ng.2, if_neg (show ¬ Int32.ofNat mm < Int32.ofNat 0 by rw [i_lt (by omega) (by decide)]; omega)]
          obtain ⟨S2, A2, X2, ws2, k1, k2, k3, k4, k5, k6, k7, k8, k9⟩ := lv_take (G := G) (h := h) (b := b) hw hO hl g2 q3 hd2 (by rw [y1]; decide) (by rw [y1]; decide) (v := -(Int32.ofNat mm)) (by rw [nx2]; exact est2) (by rw [tt2.1, nx2, y1, y3, nO]; rfl) (by
            rw [y1]
            intro t ht
            rw [List.mem_singleton.mp ht]
            exact ⟨fun z => absurd z kn32, fun _ => ⟨mm, y2, Or.inr ⟨ym, rfl⟩⟩, fun z => absurd z kn31, fun z => absurd z kn34, Or.inr (Or.inr (Or.inl rfl))⟩)
          have nb := N_numberY (G := G) (h := h) (b := b) (lo := Int32.ofNat 0) (hi := Int32.ofNat 999999) (Lv_go g2) (by rw [tk1.2.1]; exact rk_of (by decide) y1) (by rw [y0, y3, i_lt (by omega) (by decide)]; omega) (by rw [y0, y3, i_lt (by decide) (by omega)]; omega) k1
          rw [y0, y3] at nb
          have sg2 := N_signed_m (Lv_go q2) cm.1 cm.2 s1 cz nb
          have fr2 : Frm S A S2 A2 := Frm_trans g4 k4
          refine ⟨S2, A2, _, sg2, ⟨m1, by rw [fr2.1]; exact m2, Or.inl ⟨n - 1 - 1, _, X2, ws2, by omega, k2, k5, by rw [k6]; exact q4, by rw [k7]; exact q5, ?_, by rw [k9]; exact q7⟩⟩, fr2⟩
          rw [k8, q6, y1]
        · have est2 : (tSt (adv wn f len (adv wn f len c)) (d1, fo, st, a8, true) X).1 = false := by
            rw [tSt_eq, hdue2]
            show (tVa (adv wn f len (adv wn f len c)) (d1, fo, st + 1, a8, true) X).1 = false
            unfold tVa
            rw [if_neg (fun z => absurd z.1 ktf), if_neg y1]
          have nb := N_numberN (G := G) (h := h) (b := b) (A := A1) (lo := Int32.ofNat 0) (hi := Int32.ofNat 999999) go1 (fun z => y1 (rk_eq (by decide) (by decide) (tk1.2.1.symm.trans z.1)))
          have sg2 := N_signed_m (Lv_go q2) cm.1 cm.2 s1 cz nb
          refine ⟨_, _, _, sg2, ⟨m1, ?_, Or.inr (Dd_of g2 (fun _ => by rw [hd2, cond_false, est2]) (fun _ => dOv_row hd2))⟩, Frm_trans g4 Frm_7⟩
          rw [upd_of (by decide), g4.1]
          exact m2
    · have sgn : ¬ sSg (adv wn f len c) (Int32.ofNat 45) = true := by
        intro z
        unfold sSg at z
        rw [Bool.and_eq_true] at z
        have z1 := of_decide_eq_true z.1
        have z2 := of_decide_eq_true z.2
        exact cm ⟨by rw [tk.2.1]; exact rk_of (by decide) z1, by rw [tk.2.2.2.2.2.2.1 z1]; exact z2⟩
      have hnm : ¬ (S 7 = Int32.ofNat 1 ∧ S 4 = Int32.ofNat 4 ∧ S 5 = Int32.ofNat 45) := fun z => cm z.2
      by_cases y1 : (adv wn f len c).2.2.1 = Int32.ofNat 3
      · obtain ⟨y0, mm, y2, y3, y4⟩ := tk.2.2.2.2.2.1 y1
        have nx2 : nxX (adv wn f len c) X = X := if_neg (by rw [y1]; decide)
        have est2 : tSt (adv wn f len c) (d1, fo, st, a8, false) X = (true, (d1, fo, st + 1, a8, false), xaddTok X (adv wn f len c).2.2.1 (adv wn f len c).2.2.2.1) := by
          rw [tSt_eq, hdue]
          show tVa (adv wn f len c) (d1, fo, st + 1, a8, false) X = _
          unfold tVa
          rw [if_neg (fun z => sgn z.2), if_pos y1]
          rfl
        have tt2 := tk_text (v := (adv wn f len c).2.2.2.1) hw tk (by rw [nx2]; exact (Lv_fi q2).2.1.2.2.1) (Or.inr (Or.inr (Or.inl ⟨y1, rfl⟩)))
        obtain ⟨S2, A2, X2, ws2, k1, k2, k3, k4, k5, k6, k7, k8, k9⟩ := lv_take (G := G) (h := h) (b := b) hw hO hl q2 q3 hd (by rw [y1]; decide) (by rw [y1]; decide) (v := (adv wn f len c).2.2.2.1) (by rw [nx2]; exact est2) (by rw [tt2.1]; rfl) (tt2.2 (fun z => by rw [y1] at z; exact absurd z (by decide)))
        have nb := N_numberY (G := G) (h := h) (b := b) (lo := Int32.ofNat 0) (hi := Int32.ofNat 999999) (Lv_go q2) (by rw [tk.2.1]; exact rk_of (by decide) y1) (by rw [y0, y3, i_lt (by omega) (by decide)]; omega) (by rw [y0, y3, i_lt (by decide) (by omega)]; omega) k1
        refine ⟨S2, A2, _, N_signed_p hnm (Or.inr (Lv_go q2)) nb, ⟨m1, by rw [k4.1]; exact m2, Or.inl ⟨n - 1, _, X2, ws2, by omega, k2, k5, by rw [k6]; exact q4, by rw [k7]; exact q5, ?_, by rw [k9]; exact q7⟩⟩, k4⟩
        rw [k8, q6, y1, y0]
      · have est2 : (tSt (adv wn f len c) (d1, fo, st, a8, false) X).1 = false := by
          rw [tSt_eq, hdue]
          show (tVa (adv wn f len c) (d1, fo, st + 1, a8, false) X).1 = false
          unfold tVa
          rw [if_neg (fun z => sgn z.2), if_neg y1]
        have nb := N_numberN (G := G) (h := h) (b := b) (A := A) (lo := Int32.ofNat 0) (hi := Int32.ofNat 999999) (Lv_go q2) (fun z => y1 (rk_eq (by decide) (by decide) (tk.2.1.symm.trans z.1)))
        refine ⟨_, _, _, N_signed_p hnm (Or.inr (Lv_go q2)) nb, ⟨m1, by rw [upd_of (by decide)]; exact m2, Or.inr (Dd_of q2 (fun _ => by rw [hd, cond_false, est2]) (fun _ => dOv_row hd))⟩, Frm_7⟩
  · exact ⟨S, A, _, N_signed_p (fun z => by rw [q.1] at z; exact absurd z.1 (by decide)) (Or.inl q.1) (N_number0 q.1), ⟨m1, m2, Or.inr q⟩, Frm_refl⟩
