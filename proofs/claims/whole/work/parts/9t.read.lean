/-! BOTH READ A TEXT -/
theorem fl_acc {wn : Nat → Int64} {f : Nat → Int32} {len : Nat} (hO : fOct f len) (hl : len ≤ 2000) : ∀ (n : Nat) (c : jS) (D : jR) (X : jX), fI len c D X → (fl wn f len n c D X).2.2.1.2.2.2.1 ≤ 8
  | 0, c, D, X, h => h.2.2.2.2.2.1
  | n + 1, c, D, X, h => by
    have st := fun h6 hq => fI_step (wn := wn) hO hl h h6 hq
    obtain ⟨a1, a2, a3, a4, a5, a6, a7, a8⟩ := h
    obtain ⟨b1, b2, b3⟩ := adv_ok (wn := wn) hO a1
    unfold fl
    by_cases c6 : (adv wn f len c).2.2.1 = Int32.ofNat 6
    · rw [if_pos c6]
      exact a6
    rw [if_neg c6]
    have b4 := b3 c6
    by_cases cq : (cond (dOv D) (tBe (adv wn f len c) D X) (tSt (adv wn f len c) D X)).1 = true
    · rw [if_pos cq]
      exact fl_acc hO hl n _ _ _ (st c6 cq)
    · rw [if_neg cq]
      show (cond (dOv D) (tBe (adv wn f len c) D X) (tSt (adv wn f len c) D X)).2.1.2.2.2.1 ≤ 8
      cases e : dOv D
      · have hst : D.2.2.1 < jlen.getD D.2.1 0 := by
          have := of_decide_eq_false e
          omega
        have hjl := jlen_le D.2.1 a4
        exact (tSt_ok (c := adv wn f len c) (D := D) a2 (a8 e) (by omega) a4 (by omega) a6).2.2.2.1
      · exact (tBe_ok (c := adv wn f len c) (D := D) a2 (by omega) a3 a4 a5 a6).2.2.2.1
theorem D_faultLine {G : jx_Gv} {h : jx_H} {r t w a : Nat} (hra : r + 1 < a) {c : jS} {d : jR} {X : jX} : jE G (63, 0, [some (.ref r)], [], hF h r t w a c d X) = some (some (.int (Int32.ofNat c.2.1)), hF h r t w a c d X) := by
  simp (disch := omega) only [e_63_0, e_63_7, ↓fr_s_b, fs_rv, ↓S_line_b hra, ↓Option.bind_some, ↓jzo_0b, ↓jzo_1b, ↓jzo_bb, Option.toList_some, Option.toList_none, List.cons_append, List.nil_append, ↓reduceIte, jzo_0, jzo_1, jzo_b, jbi_t, jbi_f, i_add, ↓i_ltP, ↓i_ltN, ↓i_eqP, ↓i_eqN, i_lt, i_eq, jbi_0, pt_lt, pf_lt, pt_eq, pf_eq, pt_le, pf_le, Nat.reduceEqDiff, eq_self, true_or, or_true, false_or, or_false, true_and, and_true, false_and, and_false, jE_sw, jE_sw0]
theorem D_faultLine_b {G : jx_Gv} {h : jx_H} {r t w a : Nat} (hra : r + 1 < a) {c : jS} {d : jR} {X : jX} {β_ : Type} {f_ : jx_R → Option β_} : (jE G (63, 0, [some (.ref r)], [], hF h r t w a c d X)).bind f_ = f_ ((some (.int (Int32.ofNat c.2.1)), hF h r t w a c d X)) := bnd (D_faultLine hra)
/-- the class reads: up to the fault, or to the count -/
theorem P_read {G : jx_Gv} {o : Nat} {H : jx_H} {kp : Nat} {hand : Int32} {T : jTt} {c : jS} {D : jR} {f0 : Nat → Int32} {al : Nat → Bool} {ed : Nat → Nat} {xs : Nat → jX} {S : Nat → Int32} {A : Nat → Nat → Int32} (hG : jLt G) (iv : Iv G o H kp hand T c D f0 al ed xs S A) (hk : kp ≤ 8) (hO : fOct T.1 T.2.1) : ∃ a X, (fl0 wn0 T.1 T.2.1 c D X).2.2.1.2.2.2.1 ≤ 8 ∧ ((fl0 wn0 T.1 T.2.1 c D X).1 = false → ∃ H1, jE G (70, 0, [some (.ref o), none, none, none], [], H) = some (some (.int (-(Int32.ofNat (fl0 wn0 T.1 T.2.1 c D X).2.1.2.1))), H1) ∧ Iv G o H1 kp hand (T.1, 0, false) (fl0 wn0 T.1 T.2.1 c D X).2.1 (fl0 wn0 T.1 T.2.1 c D X).2.2.1 f0 (upB al (fsl kp hand)) (upN ed (fsl kp hand) a) (upX (upX xs (fsl kp hand) X) (fsl kp hand) (fl0 wn0 T.1 T.2.1 c D X).2.2.2) S A) ∧ ((fl0 wn0 T.1 T.2.1 c D X).1 = true → xWF (fl0 wn0 T.1 T.2.1 c D X).2.2.2 → xWF (xResolve (fl0 wn0 T.1 T.2.1 c D X).2.2.2) → ∃ H1, jE G (70, 0, [some (.ref o), none, none, none], [], H) = some (some (.int (Int32.ofNat (jcnt (xfit (xResolve (fl0 wn0 T.1 T.2.1 c D X).2.2.2) (Int32.ofNat 8208) (Int32.ofNat 0)) (xRc (xResolve (fl0 wn0 T.1 T.2.1 c D X).2.2.2))))), H1) ∧ Iv G o H1 (if kp < 8 then kp + 1 else kp) (Int32.ofNat (fsl kp hand)) (T.1, 0, false) (fl0 wn0 T.1 T.2.1 c D X).2.1 (fl0 wn0 T.1 T.2.1 c D X).2.2.1 f0 (upB al (fsl kp hand)) (upN ed (fsl kp hand) a) (upX (upX (upX xs (fsl kp hand) X) (fsl kp hand) (fl0 wn0 T.1 T.2.1 c D X).2.2.2) (fsl kp hand) (xResolve (fl0 wn0 T.1 T.2.1 c D X).2.2.2)) S A) := by
  have fs := P_freeSlot (G := G) (Iv_pt iv) hk
  have hsl : fsl kp hand < 10 := by
    unfold fsl
    repeat' split
    all_goals omega
  generalize fsl kp hand = sl at *
  obtain ⟨H1, a, X, e1, iv1⟩ := ed_ready iv hsl
  have a1 : upB al sl sl = true := upB_at
  have ie := Iv_ed iv1 sl hsl a1
  rw [upN_at, upX_at] at ie
  have id1 := Iv_hF iv1 hsl a1
  rw [upN_at, upX_at] at id1
  have tx1 := Iv_tx iv1
  have hD8 : (fl0 wn0 T.1 T.2.1 c D X).2.2.1.2.2.2.1 ≤ 8 := fl_acc hO tx1.2.2 2001 _ _ _ (fI_0 (Iv_dn iv))
  have fi := D_fill (G := G) (h := H1) (r := o + 5) (t := o + 3) (w := o + 1) (a := a) tx1 (by omega) (by omega) hG (Iv_wd iv1) (by omega) hO (c := c) (D := D) (X := X) (Iv_dn iv)
  rw [id1] at fi
  refine ⟨a, X, hD8, ?_⟩
  generalize hR : fl0 wn0 T.1 T.2.1 c D X = R at *
  have iv2 := Iv_fill iv1 hsl a1 (c' := R.2.1) (D' := R.2.2.1) (X' := R.2.2.2) hD8
  rw [upN_at] at iv2
  have cl := T_clear (G := G) (h := hF H1 (o + 5) (o + 3) (o + 1) a R.2.1 (dG G R.2.2.1) R.2.2.2) (t := o + 3) (T := T) tx1.2.2
  rw [show hT (hF H1 (o + 5) (o + 3) (o + 1) a R.2.1 (dG G R.2.2.1) R.2.2.2) (o + 3) T = hF H1 (o + 5) (o + 3) (o + 1) a R.2.1 (dG G R.2.2.1) R.2.2.2 from hT_id (Iv_tx iv2)] at cl
  have iv3 := Iv_text (T' := (T.1, 0, false)) iv2 (Nat.zero_le _)
  have id3 := Iv_hF iv3 hsl a1
  rw [upN_at, upX_at] at id3
  generalize hH2 : hF H1 (o + 5) (o + 3) (o + 1) a R.2.1 (dG G R.2.2.1) R.2.2.2 = H2 at *
  generalize hH3 : hT H2 (o + 3) (T.1, 0, false) = H3 at *
  have fs' := fun {β : Type} {f : jx_R → Option β} => bnd (f := f) fs
  have e1' := fun {β : Type} {f : jx_R → Option β} => bnd (f := f) e1
  have cl' := fun {β : Type} {f : jx_R → Option β} => bnd (f := f) cl
  have rv1 : ∀ l : List Value, jx_recv H1 (.ref (o + 5) :: l) (some 4) = true := fun l => c_rv (Iv_rd iv1)
  have rv3 : ∀ l : List Value, jx_recv H3 (.ref (o + 5) :: l) (some 4) = true := fun l => c_rv (Iv_rd iv3)
  constructor
  · intro hf
    rw [hf] at fi
    have fi' := fun {β : Type} {f : jx_R → Option β} => bnd (f := f) fi
    have fl := D_faultLine (G := G) (h := H3) (r := o + 5) (t := o + 3) (w := o + 1) (a := a) (c := R.2.1) (d := dG G R.2.2.1) (X := R.2.2.2) (by omega)
    rw [id3] at fl
    have fl' := fun {β : Type} {f : jx_R → Option β} => bnd (f := f) fl
    refine ⟨H3, ?_, iv3⟩
    simp (disch := omega) only [e_70_0, e_70_4, e_70_10r, e_70_10n, e_70_15r, e_70_15n, e_70_18r, e_70_18n, e_70_26r, e_70_26n, e_70_34r, e_70_34n, e_70_38r, e_70_38n, e_70_45r, e_70_45n, e_70_47r, e_70_47n, e_70_51r, e_70_51n, e_70_65r, e_70_65n, e_70_75r, e_70_75n, e_70_83r, e_70_83n, pt_rv (Iv_pt iv), ↓fs', ↓e1', ↓pt_f1_b (Iv_pt iv1), rv1, ↓fi', ↓pt_f0_b (Iv_pt iv2), tx_rv (Iv_tx iv2), ↓cl', ↓pt_f1_b (Iv_pt iv3), rv3, ↓fl', ↓Option.bind_some, ↓jzo_0b, ↓jzo_1b, ↓jzo_bb, Option.toList_some, Option.toList_none, List.cons_append, List.nil_append, ↓reduceIte, jzo_0, jzo_1, jzo_b, jbi_t, jbi_f, i_add, ↓i_ltP, ↓i_ltN, ↓i_eqP, ↓i_eqN, i_lt, i_eq, jbi_0, pt_lt, pf_lt, pt_eq, pf_eq, pt_le, pf_le, Nat.reduceEqDiff, eq_self, true_or, or_true, false_or, or_false, true_and, and_true, false_and, and_false, jE_sw, jE_sw0]
  · intro ht hW hW2
    rw [ht] at fi
    have fi' := fun {β : Type} {f : jx_R → Option β} => bnd (f := f) fi
    have rs := E_resolve (G := G) (h := H3) (r := o + 5) (t := o + 3) (w := o + 1) (a := a) (c := R.2.1) (d := dG G R.2.2.1) (X := R.2.2.2) (by omega) hW
    rw [id3] at rs
    have rs' := fun {β : Type} {f : jx_R → Option β} => bnd (f := f) rs
    have iv4 := Iv_fill iv3 hsl a1 (c' := R.2.1) (D' := R.2.2.1) (X' := xResolve R.2.2.2) hD8
    rw [upN_at] at iv4
    generalize hH4 : hF H3 (o + 5) (o + 3) (o + 1) a R.2.1 (dG G R.2.2.1) (xResolve R.2.2.2) = H4 at *
    have p6 := Iv_p6 iv4 (x := Int32.ofNat sl)
    have p6' := fun {β : Type} {f : jx_H → Option β} => bnd (f := f) p6
    have iv5 := Iv_obj iv4 (kp' := kp) (hand' := Int32.ofNat sl)
    generalize hH5 : hs H4 o (.inl (0, [.ref (o + 3), .ref (o + 5), .ref (o + 7), .ref (o + 8), .ref (o + 10), .int (Int32.ofNat kp), .int (Int32.ofNat sl)])) = H5 at *
    have ie3 := (Iv_ed iv3 sl hsl a1).1
    rw [upN_at] at ie3
    by_cases c8 : kp < 8
    · rw [if_pos c8]
      have p5 := Iv_p5 iv5 (n := kp + 1)
      have p5' := fun {β : Type} {f : jx_H → Option β} => bnd (f := f) p5
      have iv6 := Iv_obj iv5 (kp' := kp + 1) (hand' := Int32.ofNat sl)
      generalize hH6 : hs H5 o (.inl (0, [.ref (o + 3), .ref (o + 5), .ref (o + 7), .ref (o + 8), .ref (o + 10), .int (Int32.ofNat (kp + 1)), .int (Int32.ofNat sl)])) = H6 at *
      have ie6 := (Iv_ed iv6 sl hsl a1).1
      rw [upN_at, upX_at] at ie6
      refine ⟨H6, ?_, iv6⟩
      simp (disch := omega) only [e_70_0, e_70_4, e_70_10r, e_70_10n, e_70_15r, e_70_15n, e_70_18r, e_70_18n, e_70_26r, e_70_26n, e_70_34r, e_70_34n, e_70_38r, e_70_38n, e_70_45r, e_70_45n, e_70_47r, e_70_47n, e_70_51r, e_70_51n, e_70_65r, e_70_65n, e_70_75r, e_70_75n, e_70_83r, e_70_83n, pt_rv (Iv_pt iv), ↓fs', ↓e1', ↓pt_f1_b (Iv_pt iv1), rv1, ↓fi', ↓pt_f0_b (Iv_pt iv2), tx_rv (Iv_tx iv2), ↓cl', ed_rv ie3, ↓rs', ↓p6', ↓pt_f5_b (Iv_pt iv5), ↓p5', ed_rv ie6, ↓E_count_b ie6 hW2, ↓Option.bind_some, ↓jzo_0b, ↓jzo_1b, ↓jzo_bb, Option.toList_some, Option.toList_none, List.cons_append, List.nil_append, ↓reduceIte, jzo_0, jzo_1, jzo_b, jbi_t, jbi_f, i_add, ↓i_ltP, ↓i_ltN, ↓i_eqP, ↓i_eqN, i_lt, i_eq, jbi_0, pt_lt, pf_lt, pt_eq, pf_eq, pt_le, pf_le, Nat.reduceEqDiff, eq_self, true_or, or_true, false_or, or_false, true_and, and_true, false_and, and_false, jE_sw, jE_sw0]
    · rw [if_neg c8]
      have ie5 := (Iv_ed iv5 sl hsl a1).1
      rw [upN_at, upX_at] at ie5
      refine ⟨H5, ?_, iv5⟩
      simp (disch := omega) only [e_70_0, e_70_4, e_70_10r, e_70_10n, e_70_15r, e_70_15n, e_70_18r, e_70_18n, e_70_26r, e_70_26n, e_70_34r, e_70_34n, e_70_38r, e_70_38n, e_70_45r, e_70_45n, e_70_47r, e_70_47n, e_70_51r, e_70_51n, e_70_65r, e_70_65n, e_70_75r, e_70_75n, e_70_83r, e_70_83n, pt_rv (Iv_pt iv), ↓fs', ↓e1', ↓pt_f1_b (Iv_pt iv1), rv1, ↓fi', ↓pt_f0_b (Iv_pt iv2), tx_rv (Iv_tx iv2), ↓cl', ed_rv ie3, ↓rs', ↓p6', ↓pt_f5_b (Iv_pt iv5), ed_rv ie5, ↓E_count_b ie5 hW2, ↓Option.bind_some, ↓jzo_0b, ↓jzo_1b, ↓jzo_bb, Option.toList_some, Option.toList_none, List.cons_append, List.nil_append, ↓reduceIte, jzo_0, jzo_1, jzo_b, jbi_t, jbi_f, i_add, ↓i_ltP, ↓i_ltN, ↓i_eqP, ↓i_eqN, i_lt, i_eq, jbi_0, pt_lt, pf_lt, pt_eq, pf_eq, pt_le, pf_le, Nat.reduceEqDiff, eq_self, true_or, or_true, false_or, or_false, true_and, and_true, false_and, and_false, jE_sw, jE_sw0]
