/-! BETWEEN ROWS; ROWS OF ONE FORM -/
def dvT (fo st : Nat) : Bool := decide (jlen.getD fo 0 ≤ st)
def duT (fo st : Nat) : Int32 := if st < jlen.getD fo 0 then (jbyt.getD fo []).getD st 0 else Int32.ofNat 59
theorem MD_A {wn : Nat → Int64} {f : Nat → Int32} {len : Nat} {R : Bool × jS × jR × jX} {S0 : Nat → Int32} {A0 : Nat → Nat → Int32} {N k bl m ac T : Nat} {D : jR} {L : List (Int32 × Int32)} {S : Nat → Int32} {A A' : Nat → Nat → Int32} (q : MD wn f len R S0 A0 N k bl m ac T D L S A) (h1 : ∀ j : Nat, j < 4 ∨ 18 < j → A' j = A j) (h2 : ∀ j : Nat, 4 ≤ j → j ≤ 15 → ∀ i : Nat, i < m → A' j i = A j i) (h3 : ∀ j : Nat, 16 ≤ j → j ≤ 18 → ∀ i : Nat, i < ac → A' j i = A j i) : MD wn f len R S0 A0 N k bl m ac T D L S A' := by
  obtain ⟨m1, m2, q⟩ := q
  refine ⟨m1, m2, ?_⟩
  rcases q with ⟨n, c, X, ws, q1, q2, q3, q4, q5, q6, q7⟩ | q
  · refine Or.inl ⟨n, c, X, ws, q1, ?_, q3, q4, q5, q6, q7⟩
    have hac : ac ≤ 600 := by
      have z1 := (Lv_ac q2).2
      have z2 := (Lv_fi q2).2.1.2.1
      omega
    refine ⟨Lv_fl q2, Lv_fu q2, Lv_fi q2, Lv_s0 q2, (h1 1 (by omega)).trans (Lv_a1 q2), fun i hi => by rw [h1 2 (by omega)]; exact Lv_ln q2 i hi, Lv_pl q2, Tk_S (Lv_tk q2) rfl rfl rfl rfl rfl rfl (h1 2 (by omega)) (h1 3 (by omega)), Lv_go q2, Lv_ro q2, Lv_w0 q2, Lv_wr q2, fun i hi => by rw [h1 20 (by omega)]; exact Lv_wa q2 i hi, fun r z1 z2 => by rw [h1 19 (by omega)]; exact Lv_tx q2 r z1 z2, by rw [h1 19 (by omega)]; exact Lv_xe q2, Lv_ac q2, Fr_S (Lv_fr q2) rfl rfl rfl (fun k hk => h1 k (by omega)), Lv_ta q2, Lv_tl q2, Lv_bk q2, fun r z1 z2 => ?_, Lv_mm q2⟩
    exact RowOk_mono (A := A) (X := X) (fun k k1 k2 => h2 k k1 k2 (r - 1) (by omega)) (fun k k1 k2 j hj => h3 k k1 k2 j hj) (Nat.le_refl _) hac rfl rfl rfl (fun _ => rfl) (Lv_rw q2 r z1 z2)
  · exact Or.inr ⟨q.1, q.2.1, q.2.2.1, Fr_S q.2.2.2.1 rfl rfl rfl (fun k hk => h1 k (by omega)), fun i hi => by rw [h1 2 (by omega)]; exact q.2.2.2.2 i hi⟩
theorem MD_up {wn : Nat → Int64} {f : Nat → Int32} {len : Nat} {R : Bool × jS × jR × jX} {S0 : Nat → Int32} {A0 : Nat → Nat → Int32} {N k bl m ac T : Nat} {D : jR} {L : List (Int32 × Int32)} {S : Nat → Int32} {A : Nat → Nat → Int32} {o : Nat} {x : Int32} (q : MD wn f len R S0 A0 N k bl m ac T D L S A) (ho : 4 ≤ o) (ho2 : o ≤ 15) : MD wn f len R S0 A0 N k bl m ac T D L S (upA A o (upd (A o) m x)) := by
  refine MD_A q (fun j hj => upA_of (by omega)) (fun j j1 j2 i hi => ?_) (fun j j1 j2 i hi => by rw [upA_of (by omega)])
  by_cases c : j = o
  · rw [c, upA_at, upd_of (by omega)]
  · rw [upA_of c]
/-- between two rows -/
def Bt (wn : Nat → Int64) (f : Nat → Int32) (len : Nat) (R : Bool × jS × jR × jX) (S0 : Nat → Int32) (A0 : Nat → Nat → Int32) (N bl m ac : Nat) (S : Nat → Int32) (A : Nat → Nat → Int32) : Prop := ∃ n c X ws D, n ≤ N ∧ Lv wn f len R S0 A0 S A n c D X ws [] m ac ∧ xRc X = m ∧ dOv D = true ∧ D.1 = bl ∧ D.2.2.2.2 = false
/-- what a row's numbers must be when it ends -/
theorem fin_ok {wn : Nat → Int64} {f : Nat → Int32} {len : Nat} {R : Bool × jS × jR × jX} {S0 : Nat → Int32} {A0 : Nat → Nat → Int32} {N k bl m ac T d1 fo st a8 : Nat} {L : List (Int32 × Int32)} {S : Nat → Int32} {A : Nat → Nat → Int32} (q : MD wn f len R S0 A0 (N + 1) k bl m ac T (d1, fo, st, a8, false) L S A) (hd : dvT fo st = true) (hr : S 7 = Int32.ofNat 1 → ∀ X : jX, tks X (m + 1) = L → xKi X (m + 1) = Int32.ofNat (kb k) → xBl X (m + 1) = bl → (d1 ≠ 0 → xBl X d1 = 0) → bl ≤ m → tkL 1000 L → RowOk A X ac (m + 1)) : Bt wn f len R S0 A0 N d1 (m + 1) ac S A ∨ Dd R S0 A0 S A := by
  obtain ⟨m1, m2, q⟩ := q
  rcases q with ⟨n, c, X, ws, q1, q2, q3, q4, q5, q6, q7⟩ | q
  · refine Or.inl ⟨n, c, X, ws, (d1, fo, st, a8, false), by omega, ?_, q3, hd, rfl, rfl⟩
    have ro := hr (Lv_go q2) X q6 q4 q5 (fun z => (Lv_bk q2 z).1) (by
      have z := ((Lv_fi q2).2.1.2.2.2.1 (m + 1) (by omega) (by omega)).2.1
      omega) (by
      have z := Lv_tl q2 (m + 1) (by omega) (by omega)
      rw [q6] at z
      exact tkL_mono z (Lv_fi q2).2.1.2.2.1)
    refine ⟨Lv_fl q2, Lv_fu q2, Lv_fi q2, Lv_s0 q2, Lv_a1 q2, Lv_ln q2, Lv_pl q2, Lv_tk q2, Lv_go q2, Lv_ro q2, Lv_w0 q2, Lv_wr q2, Lv_wa q2, Lv_tx q2, Lv_xe q2, Lv_ac q2, Lv_fr q2, Lv_ta q2, Lv_tl q2, Lv_bk q2, fun r z1 z2 => ?_, by omega⟩
    by_cases c1 : r = m + 1
    · rw [c1]; exact ro
    · exact Lv_rw q2 r z1 (by omega)
  · exact Or.inr q
theorem row_ok {A : Nat → Nat → Int32} {X : jX} {ac m k bl aa am : Nat} {L : List (Int32 × Int32)} (hk1 : 1 ≤ k) (hk2 : k < 14) (eK : xKi X (m + 1) = Int32.ofNat (kb k)) (eB : xBl X (m + 1) = bl) (eT : tks X (m + 1) = L) (hbl : bl ≤ m) (hbk : bl ≠ 0 → xBl X bl = 0) (hkb : k ≤ 5 ↔ bl = 0) (a4 : A 4 m = Int32.ofNat k) (a5 : A 5 m = jm bl) (a14 : A 14 m = Int32.ofNat aa) (a15 : A 15 m = Int32.ofNat am) (hac : aa + am ≤ ac) (hrow : lRow L (yA 0 A) (m + 1) k) (h10 : k = 10 → lw L 0 = Int32.ofNat 256 ∧ lw L 1 = Int32.ofNat 0 ∧ (A 13 m = Int32.ofNat 1 → lw L 3 = Int32.ofNat 0)) (h1 : k = 1 → ∃ a b : Nat, 1 ≤ a ∧ a ≤ 9999 ∧ 1 ≤ b ∧ b ≤ 9999 ∧ lv L 3 = Int32.ofNat a ∧ lv L 5 = Int32.ofNat b) (hkt : kt L = Int32.ofNat (kb k)) : RowOk A X ac (m + 1) := by
  unfold RowOk
  rw [Nat.add_sub_cancel, eB, eT]
  exact ⟨k, hk1, hk2, eK, a4, a5, by omega, hkb, hbk, ⟨aa, am, a14, a15, hac⟩, hrow, h10, h1, hkt⟩
theorem nm_ne {L : List (Int32 × Int32)} {x : Int32} (h : tkL 1000 L) (hx : (Int32.ofNat 2, x) ∈ L) : x ≠ Int32.ofNat 0 := by
  obtain ⟨i, i1, i2, i3⟩ := (h _ hx).1 rfl
  have i3' : x = Int32.ofNat i := i3
  rw [i3']
  intro e
  rw [i_eq (by omega) (by decide)] at e
  omega
/-- the fields that a row has when it is begun, and what else a row's methods leave -/
def bgF (A : Nat → Nat → Int32) (m k bl ac : Nat) : Prop := A 4 m = Int32.ofNat k ∧ A 5 m = jm bl ∧ A 6 m = Int32.ofNat 0 ∧ A 7 m = Int32.ofNat 0 ∧ A 13 m = Int32.ofNat 0 ∧ A 14 m = Int32.ofNat ac ∧ A 15 m = Int32.ofNat 0
theorem md_pair {G : jx_Gv} {h : jx_H} {b : Nat} {wn : Nat → Int64} {f : Nat → Int32} {len : Nat} {R : Bool × jS × jR × jX} {S0 : Nat → Int32} {A0 : Nat → Nat → Int32} (hw : wnOk wn) (hO : fOct f len) (hl : len ≤ 2000) {N k bl m ac T d1 : Nat} {L : List (Int32 × Int32)} {S : Nat → Int32} {A : Nat → Nat → Int32} (q : MD wn f len R S0 A0 N k bl m ac T (d1, 8, 0, 0, false) L S A) : ∃ S' A' x y, jE G (91, 0, [some (.ref b), none], [], hR h b S A) = some (none, hR h b S' A') ∧ MD wn f len R S0 A0 N k bl m ac T (d1, 8, 4, 0, false) (L ++ [(Int32.ofNat 2, x)] ++ [(Int32.ofNat 4, Int32.ofNat 58)] ++ [(Int32.ofNat 2, y)] ++ [(Int32.ofNat 4, Int32.ofNat 59)]) S' A' ∧ A' 6 m = x ∧ A' 7 m = y ∧ (∀ k : Nat, k ≠ 2 → k ≠ 3 → k ≠ 19 → k ≠ 6 → k ≠ 7 → A' k = A k) ∧ S' 24 = S 24 ∧ S' 31 = S 31 ∧ (S' 7 = Int32.ofNat 1 → S 7 = Int32.ofNat 1) := by
  have m0 := q.1
  have r0 := q.2.1
  obtain ⟨S1, A1, x, e1, p1, f1⟩ := md_name (G := G) (h := h) (b := b) hw hO hl q (show dvT 8 0 = false by decide +kernel) (show duT 8 0 = Int32.ofNat 78 by decide +kernel)
  obtain ⟨S2, A2, z2, e2, p2, f2⟩ := md_sign (G := G) (h := h) (b := b) (u := 58) hw hO hl (MD_up (o := 6) (x := x) p1 (by decide) (by decide)) (show dvT 8 1 = false by decide +kernel) (by decide) (show duT 8 1 = Int32.ofNat 58 by decide +kernel)
  obtain ⟨S3, A3, y, e3, p3, f3⟩ := md_name (G := G) (h := h) (b := b) hw hO hl p2 (show dvT 8 2 = false by decide +kernel) (show duT 8 2 = Int32.ofNat 78 by decide +kernel)
  obtain ⟨S4, A4, z4, e4, p4, f4⟩ := md_sign (G := G) (h := h) (b := b) (u := 59) hw hO hl (MD_up (o := 7) (x := y) p3 (by decide) (by decide)) (show dvT 8 3 = false by decide +kernel) (by decide) (show duT 8 3 = Int32.ofNat 59 by decide +kernel)
  refine ⟨S4, A4, x, y, ?_, p4, ?_, ?_, fun k k2 k3 k19 k6 k7 => ?_, ?_, ?_, fun z => f1.2.2.2.1 (f2.2.2.2.1 (f3.2.2.2.1 (f4.2.2.2.1 z)))⟩
  · have e1' := fun {β : Type} {f : jx_R → Option β} => bnd (f := f) e1
    have e2' := fun {β : Type} {f : jx_R → Option β} => bnd (f := f) e2
    have e3' := fun {β : Type} {f : jx_R → Option β} => bnd (f := f) e3
    have e4' := fun {β : Type} {f : jx_R → Option β} => bnd (f := f) e4
    simp (disch := omega) only [e_91_0, e_91_16, e_91_23, e_91_33, e_91_40, rr_v, ↓rg_rows_b, r0, i_sub, Nat.add_sub_cancel, ↓ra_given_b, ↓ra_second_b, ↓rs_given_b, ↓rs_second_b, ↓e1', ↓e2', ↓e3', ↓e4', ↓Option.bind_some, ↓jzo_0b, ↓jzo_1b, ↓jzo_bb, Option.toList_some, Option.toList_none, List.cons_append, List.nil_append, ↓reduceIte, jzo_0, jzo_1, jzo_b, jbi_t, jbi_f, i_add, ↓i_ltP, ↓i_ltN, ↓i_eqP, ↓i_eqN, i_lt, i_eq, jbi_0, pt_lt, pf_lt, pt_eq, pf_eq, pt_le, pf_le, Nat.reduceEqDiff, eq_self, true_or, or_true, false_or, or_false, true_and, and_true, false_and, and_false, jE_sw, jE_sw0]
  · rw [f4.2.2.2.2 6 (by decide) (by decide) (by decide), upA_of (by decide), f3.2.2.2.2 6 (by decide) (by decide) (by decide), f2.2.2.2.2 6 (by decide) (by decide) (by decide), upA_at, upd_at]
  · rw [f4.2.2.2.2 7 (by decide) (by decide) (by decide), upA_at, upd_at]
  · rw [f4.2.2.2.2 k k2 k3 k19, upA_of k7, f3.2.2.2.2 k k2 k3 k19, f2.2.2.2.2 k k2 k3 k19, upA_of k6, f1.2.2.2.2 k k2 k3 k19]
  · rw [f4.2.1, f3.2.1, f2.2.1, f1.2.1]
  · rw [f4.2.2.1, f3.2.2.1, f2.2.2.1, f1.2.2.1]
theorem md_connect {G : jx_Gv} {h : jx_H} {b : Nat} {wn : Nat → Int64} {f : Nat → Int32} {len : Nat} {R : Bool × jS × jR × jX} {S0 : Nat → Int32} {A0 : Nat → Nat → Int32} (hw : wnOk wn) (hO : fOct f len) (hl : len ≤ 2000) {N k bl m ac T d1 : Nat} {L : List (Int32 × Int32)} {S : Nat → Int32} {A : Nat → Nat → Int32} (q : MD wn f len R S0 A0 N k bl m ac T (d1, 7, 0, 0, false) L S A) : ∃ S' A' x y z w, jE G (94, 0, [some (.ref b), none], [], hR h b S A) = some (none, hR h b S' A') ∧ MD wn f len R S0 A0 N k bl m ac T (d1, 7, 8, 0, false) (L ++ [(Int32.ofNat 2, x)] ++ [(Int32.ofNat 4, Int32.ofNat 46)] ++ [(Int32.ofNat 2, y)] ++ [(Int32.ofNat 1, Int32.ofNat 32768)] ++ [(Int32.ofNat 2, z)] ++ [(Int32.ofNat 4, Int32.ofNat 46)] ++ [(Int32.ofNat 2, w)] ++ [(Int32.ofNat 4, Int32.ofNat 59)]) S' A' ∧ A' 7 m = x ∧ A' 8 m = y ∧ A' 9 m = z ∧ A' 10 m = w ∧ (∀ k : Nat, k ≠ 2 → k ≠ 3 → k ≠ 19 → k ≠ 7 → k ≠ 8 → k ≠ 9 → k ≠ 10 → A' k = A k) ∧ S' 24 = S 24 ∧ S' 31 = S 31 ∧ (S' 7 = Int32.ofNat 1 → S 7 = Int32.ofNat 1) := by
  have m0 := q.1
  have r0 := q.2.1
  obtain ⟨S1, A1, x, e1, p1, f1⟩ := md_name (G := G) (h := h) (b := b) hw hO hl q (show dvT 7 0 = false by decide +kernel) (show duT 7 0 = Int32.ofNat 78 by decide +kernel)
  obtain ⟨S2, A2, z2, e2, p2, f2⟩ := md_sign (G := G) (h := h) (b := b) (u := 46) hw hO hl (MD_up (o := 7) (x := x) p1 (by decide) (by decide)) (show dvT 7 1 = false by decide +kernel) (by decide) (show duT 7 1 = Int32.ofNat 46 by decide +kernel)
  obtain ⟨S3, A3, y, e3, p3, f3⟩ := md_name (G := G) (h := h) (b := b) hw hO hl p2 (show dvT 7 2 = false by decide +kernel) (show duT 7 2 = Int32.ofNat 78 by decide +kernel)
  obtain ⟨S4, A4, z4, e4, p4, f4⟩ := md_to (G := G) (h := h) (b := b) hw hO hl (MD_up (o := 8) (x := y) p3 (by decide) (by decide)) (show dvT 7 3 = false by decide +kernel) (show duT 7 3 = Int32.ofNat 84 by decide +kernel)
  obtain ⟨S5, A5, z, e5, p5, f5⟩ := md_name (G := G) (h := h) (b := b) hw hO hl p4 (show dvT 7 4 = false by decide +kernel) (show duT 7 4 = Int32.ofNat 78 by decide +kernel)
  obtain ⟨S6, A6, z6, e6, p6, f6⟩ := md_sign (G := G) (h := h) (b := b) (u := 46) hw hO hl (MD_up (o := 9) (x := z) p5 (by decide) (by decide)) (show dvT 7 5 = false by decide +kernel) (by decide) (show duT 7 5 = Int32.ofNat 46 by decide +kernel)
  obtain ⟨S7, A7, w, e7, p7, f7⟩ := md_name (G := G) (h := h) (b := b) hw hO hl p6 (show dvT 7 6 = false by decide +kernel) (show duT 7 6 = Int32.ofNat 78 by decide +kernel)
  obtain ⟨S8, A8, z8, e8, p8, f8⟩ := md_sign (G := G) (h := h) (b := b) (u := 59) hw hO hl (MD_up (o := 10) (x := w) p7 (by decide) (by decide)) (show dvT 7 7 = false by decide +kernel) (by decide) (show duT 7 7 = Int32.ofNat 59 by decide +kernel)
  refine ⟨S8, A8, x, y, z, w, ?_, p8, ?_, ?_, ?_, ?_, fun k k2 k3 k19 k7 k8 k9 k10 => ?_, ?_, ?_, fun z => f1.2.2.2.1 (f2.2.2.2.1 (f3.2.2.2.1 (f4.2.2.2.1 (f5.2.2.2.1 (f6.2.2.2.1 (f7.2.2.2.1 (f8.2.2.2.1 z)))))))⟩
  · have e1' := fun {β : Type} {f : jx_R → Option β} => bnd (f := f) e1
    have e2' := fun {β : Type} {f : jx_R → Option β} => bnd (f := f) e2
    have e3' := fun {β : Type} {f : jx_R → Option β} => bnd (f := f) e3
    have e4' := fun {β : Type} {f : jx_R → Option β} => bnd (f := f) e4
    have e5' := fun {β : Type} {f : jx_R → Option β} => bnd (f := f) e5
    have e6' := fun {β : Type} {f : jx_R → Option β} => bnd (f := f) e6
    have e7' := fun {β : Type} {f : jx_R → Option β} => bnd (f := f) e7
    have e8' := fun {β : Type} {f : jx_R → Option β} => bnd (f := f) e8
    simp (disch := omega) only [e_94_0, e_94_16, e_94_23, e_94_33, e_94_40, e_94_50, e_94_57, e_94_67, e_94_74, rr_v, ↓rg_rows_b, r0, i_sub, Nat.add_sub_cancel, ↓ra_second_b, ↓ra_third_b, ↓ra_fourth_b, ↓ra_fifth_b, ↓rs_second_b, ↓rs_third_b, ↓rs_fourth_b, ↓rs_fifth_b, ↓e1', ↓e2', ↓e3', ↓e4', ↓e5', ↓e6', ↓e7', ↓e8', ↓Option.bind_some, ↓jzo_0b, ↓jzo_1b, ↓jzo_bb, Option.toList_some, Option.toList_none, List.cons_append, List.nil_append, ↓reduceIte, jzo_0, jzo_1, jzo_b, jbi_t, jbi_f, i_add, ↓i_ltP, ↓i_ltN, ↓i_eqP, ↓i_eqN, i_lt, i_eq, jbi_0, pt_lt, pf_lt, pt_eq, pf_eq, pt_le, pf_le, Nat.reduceEqDiff, eq_self, true_or, or_true, false_or, or_false, true_and, and_true, false_and, and_false, jE_sw, jE_sw0]
  · rw [f8.2.2.2.2 7 (by decide) (by decide) (by decide), upA_of (by decide), f7.2.2.2.2 7 (by decide) (by decide) (by decide), f6.2.2.2.2 7 (by decide) (by decide) (by decide), upA_of (by decide), f5.2.2.2.2 7 (by decide) (by decide) (by decide), f4.2.2.2.2 7 (by decide) (by decide) (by decide), upA_of (by decide), f3.2.2.2.2 7 (by decide) (by decide) (by decide), f2.2.2.2.2 7 (by decide) (by decide) (by decide), upA_at, upd_at]
  · rw [f8.2.2.2.2 8 (by decide) (by decide) (by decide), upA_of (by decide), f7.2.2.2.2 8 (by decide) (by decide) (by decide), f6.2.2.2.2 8 (by decide) (by decide) (by decide), upA_of (by decide), f5.2.2.2.2 8 (by decide) (by decide) (by decide), f4.2.2.2.2 8 (by decide) (by decide) (by decide), upA_at, upd_at]
  · rw [f8.2.2.2.2 9 (by decide) (by decide) (by decide), upA_of (by decide), f7.2.2.2.2 9 (by decide) (by decide) (by decide), f6.2.2.2.2 9 (by decide) (by decide) (by decide), upA_at, upd_at]
  · rw [f8.2.2.2.2 10 (by decide) (by decide) (by decide), upA_at, upd_at]
  · rw [f8.2.2.2.2 k k2 k3 k19, upA_of k10, f7.2.2.2.2 k k2 k3 k19, f6.2.2.2.2 k k2 k3 k19, upA_of k9, f5.2.2.2.2 k k2 k3 k19, f4.2.2.2.2 k k2 k3 k19, upA_of k8, f3.2.2.2.2 k k2 k3 k19, f2.2.2.2.2 k k2 k3 k19, upA_of k7, f1.2.2.2.2 k k2 k3 k19]
  · rw [f8.2.1, f7.2.1, f6.2.1, f5.2.1, f4.2.1, f3.2.1, f2.2.1, f1.2.1]
  · rw [f8.2.2.1, f7.2.2.1, f6.2.2.1, f5.2.2.1, f4.2.2.1, f3.2.2.1, f2.2.2.1, f1.2.2.1]
