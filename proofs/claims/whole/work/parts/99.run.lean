/-! WHAT A RUN'S ROW HOLDS -/
theorem MD_live {wn : Nat → Int64} {f : Nat → Int32} {len : Nat} {R : Bool × jS × jR × jX} {S0 : Nat → Int32} {A0 : Nat → Nat → Int32} {N k bl m ac T : Nat} {D : jR} {L : List (Int32 × Int32)} {S : Nat → Int32} {A : Nat → Nat → Int32} (q : MD wn f len R S0 A0 N k bl m ac T D L S A) : S 7 = Int32.ofNat 1 ∨ S 7 = Int32.ofNat 0 := by
  rcases q.2.2 with ⟨n, c, X, ws, q1, q2, -⟩ | q
  · exact Or.inl (Lv_go q2)
  · exact Or.inr q.1
theorem MD_cnt {wn : Nat → Int64} {f : Nat → Int32} {len : Nat} {R : Bool × jS × jR × jX} {S0 : Nat → Int32} {A0 : Nat → Nat → Int32} {N k bl m ac T : Nat} {D : jR} {L : List (Int32 × Int32)} {S : Nat → Int32} {A : Nat → Nat → Int32} (q : MD wn f len R S0 A0 N k bl m ac T D L S A) (h7 : S 7 = Int32.ofNat 1) : 4 * ac ≤ T + L.length ∧ T + L.length ≤ 2000 ∧ S 24 = Int32.ofNat ac := by
  rcases q.2.2 with ⟨n, c, X, ws, q1, q2, q3, q4, q5, q6, q7⟩ | q
  · have z1 := Lv_ac q2
    have z2 := (Lv_fi q2).2.1
    have z3 := z2.2.2.2.2 (by omega)
    rw [q3, q7] at z3
    have z4 : L.length = xLe X (m + 1) := by rw [← q6, tks_len]
    have z5 := z2.2.1
    exact ⟨by omega, by omega, z1.1⟩
  · rw [q.1] at h7
    exact absurd h7 (by decide)
theorem md_acc {G : jx_Gv} {h : jx_H} {b : Nat} {wn : Nat → Int64} {f : Nat → Int32} {len : Nat} {R : Bool × jS × jR × jX} {S0 : Nat → Int32} {A0 : Nat → Nat → Int32} (hw : wnOk wn) (hO : fOct f len) (hl : len ≤ 2000) {N k bl m ac T : Nat} {D : jR} {L : List (Int32 × Int32)} {S : Nat → Int32} {A : Nat → Nat → Int32} (q : MD wn f len R S0 A0 N k bl m ac T D L S A) (hd : dOv D = false) {j : Nat} (hj : j < 16) (h7 : S 7 = Int32.ofNat 1) (h4 : S 4 = Int32.ofNat 1) (h5 : S 5 = Int32.ofNat (j + 1)) {D' : jR} (hst : ∀ (c : jS) (X : jX), c.2.2.1 = Int32.ofNat 1 → c.2.2.2.1 = Int32.ofNat (2 ^ j) → tSt c D X = (true, D', xaddTok X c.2.2.1 (Int32.ofNat (2 ^ j)))) : ∃ S' A', jE G (82, 0, [some (.ref b)], [], hR h b S A) = some (some (.int (Int32.ofNat 1)), hR h b S' A') ∧ MD wn f len R S0 A0 N k bl m ac T D' (L ++ [(Int32.ofNat 1, Int32.ofNat (2 ^ j))]) S' A' ∧ Frm S A S' A' := by
  obtain ⟨m1, m2, q⟩ := q
  rcases q with ⟨n, c, X, ws, q1, q2, q3, q4, q5, q6, q7⟩ | q
  · have tk := Lv_tk q2
    have z1 := rk_eq (by decide) (by decide) (tk.2.1.symm.trans h4)
    obtain ⟨i, i1, i2, i3, i4⟩ := tk.2.2.2.1 z1
    have ij : i = j := by
      rw [i3, i_eq (by omega) (by omega)] at h5
      omega
    subst ij
    have nx : nxX (adv wn f len c) X = X := if_neg (by rw [z1]; decide)
    have tt := tk_text (v := Int32.ofNat (2 ^ i)) hw tk (by rw [nx]; exact (Lv_fi q2).2.1.2.2.1) (Or.inl ⟨z1, i2.symm⟩)
    obtain ⟨S', A', X', ws', g1, g2, g3, g4, g5, g6, g7, g8, g9⟩ := lv_take (G := G) (h := h) (b := b) hw hO hl q2 q3 hd (by rw [z1]; decide) (by rw [z1]; decide) (v := Int32.ofNat (2 ^ i)) (by rw [nx]; exact hst _ X z1 i2) (by rw [tt.1]; rfl) (tt.2 (fun z => by rw [z1] at z; exact absurd z (by decide)))
    exact ⟨S', A', g1, ⟨m1, by rw [g4.1]; exact m2, Or.inl ⟨n - 1, _, X', ws', by omega, g2, g5, by rw [g6]; exact q4, by rw [g7]; exact q5, by rw [g8, q6, z1], by rw [g9]; exact q7⟩⟩, g4⟩
  · rw [q.1] at h7
    exact absurd h7 (by decide)
theorem k_use : ∀ j : Nat, j < 16 → ((Int32.ofNat (2 ^ j) &&& Int32.ofNat 6144 = Int32.ofNat 0) ↔ ¬ (j = 11 ∨ j = 12)) ∧ ((Int32.ofNat (2 ^ j) &&& Int32.ofNat 512 = Int32.ofNat 0) ↔ j ≠ 9) ∧ ((Int32.ofNat (2 ^ j) &&& Int32.ofNat 1024 = Int32.ofNat 0) ↔ j ≠ 10) := by decide +kernel
/-- the sign at a run's end, where an access might stand too -/
theorem md_semi {G : jx_Gv} {h : jx_H} {b : Nat} {wn : Nat → Int64} {f : Nat → Int32} {len : Nat} {R : Bool × jS × jR × jX} {S0 : Nat → Int32} {A0 : Nat → Nat → Int32} (hw : wnOk wn) (hO : fOct f len) (hl : len ≤ 2000) {N k bl m ac T d1 fo st a8 : Nat} {L : List (Int32 × Int32)} {S : Nat → Int32} {A : Nat → Nat → Int32} (q : MD wn f len R S0 A0 N k bl m ac T (d1, fo, st, a8, false) L S A) (hd : dvT fo st = false) (hu : duT fo st = Int32.ofNat 65 ∨ duT fo st = Int32.ofNat 82 ∧ (S 7 = Int32.ofNat 1 → ¬ (S 4 = Int32.ofNat 1 ∧ S 5 = Int32.ofNat 10) ∧ ¬ (S 4 = Int32.ofNat 1 ∧ S 5 = Int32.ofNat 11))) (hx2 : S 7 = Int32.ofNat 1 → S 4 = Int32.ofNat 1 → (S 5 = Int32.ofNat 12 ∨ S 5 = Int32.ofNat 13) → 8 ≤ a8) : ∃ S' A' x, jE G (86, 0, [some (.ref b), some (.int (Int32.ofNat 59))], [], hR h b S A) = some (some (.int x), hR h b S' A') ∧ MD wn f len R S0 A0 N k bl m ac T (d1, fo, st + 1, a8, false) (L ++ [(Int32.ofNat 4, Int32.ofNat 59)]) S' A' ∧ Frm S A S' A' := by
  obtain ⟨m1, m2, q⟩ := q
  rcases q with ⟨n, c, X, ws, q1, q2, q3, q4, q5, q6, q7⟩ | q
  · have tk := Lv_tk q2
    have go := Lv_go q2
    have est0 : tSt (adv wn f len c) (d1, fo, st, a8, false) X = tAc (adv wn f len c) (d1, fo, st + 1, a8, false) X := by
      rw [tSt_eq]
      show tSw (duT fo st) (adv wn f len c) (d1, fo, st + 1, a8, false) X = _
      rcases hu with e | ⟨e, en⟩
      · rw [e]; rfl
      · rw [e]
        show tTr (adv wn f len c) (d1, fo, st + 1, a8, false) X = _
        obtain ⟨e1, e2⟩ := en go
        unfold tTr
        rw [if_neg, if_neg]
        · intro z
          unfold sWd at z
          rw [Bool.and_eq_true, Bool.not_eq_true'] at z
          have z1 := of_decide_eq_true z.1
          have z2 := of_decide_eq_false z.2
          obtain ⟨i, i1, i2, i3, i4⟩ := tk.2.2.2.1 z1
          rw [i2, (k_use i i1).2.2] at z2
          have ei : i = 10 := Classical.byContradiction z2
          exact e2 ⟨by rw [tk.2.1]; exact rk_of (by decide) z1, by rw [i3, ei]⟩
        · intro z
          unfold sWd at z
          rw [Bool.and_eq_true, Bool.not_eq_true'] at z
          have z1 := of_decide_eq_true z.1
          have z2 := of_decide_eq_false z.2
          obtain ⟨i, i1, i2, i3, i4⟩ := tk.2.2.2.1 z1
          rw [i2, (k_use i i1).2.1] at z2
          have ei : i = 9 := Classical.byContradiction z2
          exact e1 ⟨by rw [tk.2.1]; exact rk_of (by decide) z1, by rw [i3, ei]⟩
    have est : tSt (adv wn f len c) (d1, fo, st, a8, false) X = cond (sSg (adv wn f len c) (Int32.ofNat 59)) (true, (d1, fo, st + 1, a8, false), xaddTok X (adv wn f len c).2.2.1 (Int32.ofNat 59)) (false, (d1, fo, st + 1, a8, false), X) := by
      rw [est0]
      unfold tAc
      rw [if_neg]
      · cases sSg (adv wn f len c) (Int32.ofNat 59) <;> rfl
      · rintro ⟨y1, y2⟩
        unfold sWd at y2
        rw [Bool.and_eq_true, Bool.not_eq_true'] at y2
        have z1 := of_decide_eq_true y2.1
        have z2 := of_decide_eq_false y2.2
        obtain ⟨i, i1, i2, i3, i4⟩ := tk.2.2.2.1 z1
        rw [i2, (k_use i i1).1] at z2
        have ei : i = 11 ∨ i = 12 := Classical.byContradiction z2
        have := hx2 go (by rw [tk.2.1]; exact rk_of (by decide) z1) (by rcases ei with e | e <;> rw [i3, e] <;> decide)
        have y1' : a8 < 8 := y1
        omega
    cases c1 : sSg (adv wn f len c) (Int32.ofNat 59)
    · rw [c1, cond_false] at est
      have hn : ¬ (S 4 = Int32.ofNat 4 ∧ S 5 = Int32.ofNat 59) := by
        rintro ⟨z1, z2⟩
        have z3 := rk_eq (by decide) (by decide) (tk.2.1.symm.trans z1)
        rw [tk.2.2.2.2.2.2.1 z3] at z2
        unfold sSg at c1
        rw [decide_eq_true z3, decide_eq_true z2] at c1
        cases c1
      have hd' : dOv (d1, fo, st, a8, false) = false := hd
      refine ⟨_, _, _, N_sign0N go hn, ⟨m1, by rw [upd_of (by decide)]; exact m2, Or.inr (Dd_of q2 (fun _ => by rw [hd', cond_false, est]) (fun _ => dOv_row hd'))⟩, Frm_7⟩
    · rw [c1, cond_true] at est
      unfold sSg at c1
      rw [Bool.and_eq_true] at c1
      have z1 := of_decide_eq_true c1.1
      have z2 := of_decide_eq_true c1.2
      have nx : nxX (adv wn f len c) X = X := if_neg (by rw [z1]; decide)
      have tt := tk_text (v := Int32.ofNat 59) hw tk (by rw [nx]; exact (Lv_fi q2).2.1.2.2.1) (Or.inr (Or.inr (Or.inr ⟨z1, z2.symm⟩)))
      obtain ⟨S', A', X', ws', g1, g2, g3, g4, g5, g6, g7, g8, g9⟩ := lv_take (G := G) (h := h) (b := b) hw hO hl q2 q3 hd (by rw [z1]; decide) (by rw [z1]; decide) (v := Int32.ofNat 59) (by rw [nx]; exact est) (by rw [tt.1]; rfl) (tt.2 (fun _ => by decide))
      refine ⟨S', A', _, N_sign0Y go (by rw [tk.2.1]; exact rk_of (by decide) z1) (by rw [tk.2.2.2.2.2.2.1 z1]; exact z2) g1, ⟨m1, by rw [g4.1]; exact m2, Or.inl ⟨n - 1, _, X', ws', by omega, g2, g5, by rw [g6]; exact q4, by rw [g7]; exact q5, by rw [g8, q6, z1], by rw [g9]; exact q7⟩⟩, g4⟩
  · exact ⟨S, A, _, N_sign00 q.1, ⟨m1, m2, Or.inr q⟩, Frm_refl⟩
/-- the arrays when an access is entered -/
def acA (A : Nat → Nat → Int32) (m ac am : Nat) (o p d : Int32) : Nat → Nat → Int32 := upA (upA (upA (upA A 16 (upd (A 16) ac o)) 17 (upd (A 17) ac p)) 18 (upd (A 18) ac d)) 15 (upd (A 15) m (Int32.ofNat (am + 1)))
section ACA
variable {A : Nat → Nat → Int32} {m ac am : Nat} {o p d : Int32}
theorem acA_16 : acA A m ac am o p d 16 = upd (A 16) ac o := by
  unfold acA
  simp (disch := decide) only [upA_of, upA_at]
theorem acA_17 : acA A m ac am o p d 17 = upd (A 17) ac p := by
  unfold acA
  simp (disch := decide) only [upA_of, upA_at]
theorem acA_18 : acA A m ac am o p d 18 = upd (A 18) ac d := by
  unfold acA
  simp (disch := decide) only [upA_of, upA_at]
theorem acA_15 : acA A m ac am o p d 15 = upd (A 15) m (Int32.ofNat (am + 1)) := by
  unfold acA
  simp (disch := decide) only [upA_of, upA_at]
theorem acA_of {j : Nat} (h1 : j ≠ 15) (h2 : j ≠ 16) (h3 : j ≠ 17) (h4 : j ≠ 18) : acA A m ac am o p d j = A j := by
  unfold acA
  simp (disch := omega) only [upA_of]
end ACA
theorem MD_acA {wn : Nat → Int64} {f : Nat → Int32} {len : Nat} {R : Bool × jS × jR × jX} {S0 : Nat → Int32} {A0 : Nat → Nat → Int32} {N k bl m ac T am : Nat} {D : jR} {L : List (Int32 × Int32)} {S : Nat → Int32} {A : Nat → Nat → Int32} {o p d : Int32} (q : MD wn f len R S0 A0 N k bl m ac T D L S A) (h7 : S 7 = Int32.ofNat 1) (hT : 4 * (ac + 1) ≤ T + L.length) : MD wn f len R S0 A0 N k bl m (ac + 1) T D L (upd S 24 (Int32.ofNat (ac + 1))) (acA A m ac am o p d) := by
  have q' : MD wn f len R S0 A0 N k bl m ac T D L S (acA A m ac am o p d) := by
    refine MD_A q (fun j hj => acA_of (by omega) (by omega) (by omega) (by omega)) (fun j j1 j2 i hi => ?_) (fun j j1 j2 i hi => ?_)
    · by_cases c : j = 15
      · rw [c, acA_15, upd_of (by omega)]
      · rw [acA_of c (by omega) (by omega) (by omega)]
    · have hj : j = 16 ∨ j = 17 ∨ j = 18 := by omega
      rcases hj with e | e | e <;> rw [e]
      · rw [acA_16, upd_of (by omega)]
      · rw [acA_17, upd_of (by omega)]
      · rw [acA_18, upd_of (by omega)]
  obtain ⟨m1, m2, q'⟩ := q'
  refine ⟨m1, by rw [upd_of (by decide)]; exact m2, ?_⟩
  rcases q' with ⟨n, c, X, ws, q1, q2, q3, q4, q5, q6, q7⟩ | q'
  · refine Or.inl ⟨n, c, X, ws, q1, ?_, q3, q4, q5, q6, q7⟩
    have u : ∀ j : Nat, j ≠ 24 → upd S 24 (Int32.ofNat (ac + 1)) j = S j := fun j hj => upd_of hj
    have hac : ac ≤ 600 := by
      have z1 := (Lv_ac q2).2
      have z2 := (Lv_fi q2).2.1.2.1
      omega
    refine ⟨Lv_fl q2, Lv_fu q2, Lv_fi q2, (u 0 (by decide)).trans (Lv_s0 q2), Lv_a1 q2, Lv_ln q2, Lv_pl q2, Tk_S (Lv_tk q2) (u 2 (by decide)) (u 3 (by decide)) (u 4 (by decide)) (u 5 (by decide)) (u 6 (by decide)) (u 8 (by decide)) rfl rfl, (u 7 (by decide)).trans (Lv_go q2), (u 11 (by decide)).trans (Lv_ro q2), Lv_w0 q2, ⟨(u 28 (by decide)).trans (Lv_wr q2).1, (Lv_wr q2).2⟩, Lv_wa q2, Lv_tx q2, Lv_xe q2, ⟨upd_at, ?_⟩, Fr_S (Lv_fr q2) (u 32 (by decide)) (u 33 (by decide)) (u 51 (by decide)) (fun _ _ => rfl), Lv_ta q2, Lv_tl q2, Lv_bk q2, fun r z1 z2 => RowOk_mono (fun _ _ _ => rfl) (fun _ _ _ _ _ => rfl) (Nat.le_succ _) hac rfl rfl rfl (fun _ => rfl) (Lv_rw q2 r z1 z2), Lv_mm q2⟩
    have z2 := (Lv_fi q2).2.1
    have z3 := z2.2.2.2.2 (by omega)
    rw [q3, q7] at z3
    have z4 : L.length = xLe X (m + 1) := by rw [← q6, tks_len]
    omega
  · rw [q'.1] at h7
    exact absurd h7 (by decide)
theorem N_accessD {G : jx_Gv} {h : jx_H} {b : Nat} {S : Nat → Int32} {A : Nat → Nat → Int32} {o p d x2 : Int32} {S1 S2 S3 S4 : Nat → Int32} {A1 A2 A3 A4 : Nat → Nat → Int32} (e1 : jE G (82, 0, [some (.ref b)], [], hR h b S A) = some (some (.int (Int32.ofNat 1)), hR h b S1 A1)) (e2 : jE G (85, 0, [some (.ref b), none], [], hR h b S1 A1) = some (some (.int p), hR h b S2 A2)) (e3 : jE G (86, 0, [some (.ref b), some (.int (Int32.ofNat 46))], [], hR h b S2 A2) = some (some (.int x2), hR h b S3 A3)) (e4 : jE G (85, 0, [some (.ref b), none], [], hR h b S3 A3) = some (some (.int d), hR h b S4 A4)) (h7 : S4 7 = Int32.ofNat 0) : jE G (92, 0, [some (.ref b), some (.int o), none, none], [], hR h b S A) = some (none, hR h b S4 A4) := by
  have e1' := fun {β : Type} {f : jx_R → Option β} => bnd (f := f) e1
  have e2' := fun {β : Type} {f : jx_R → Option β} => bnd (f := f) e2
  have e3' := fun {β : Type} {f : jx_R → Option β} => bnd (f := f) e3
  have e4' := fun {β : Type} {f : jx_R → Option β} => bnd (f := f) e4
  simp (disch := omega) only [e_92_0, e_92_4, e_92_9, e_92_16, e_92_21, e_92_29, e_92_30, e_92_70, rr_v, ↓rg_good_b, h7, ↓e1', ↓e2', ↓e3', ↓e4', ↓Option.bind_some, ↓jzo_0b, ↓jzo_1b, ↓jzo_bb, Option.toList_some, Option.toList_none, List.cons_append, List.nil_append, ↓reduceIte, jzo_0, jzo_1, jzo_b, jbi_t, jbi_f, i_add, ↓i_ltP, ↓i_ltN, ↓i_eqP, ↓i_eqN, i_lt, i_eq, jbi_0, pt_lt, pf_lt, pt_eq, pf_eq, pt_le, pf_le, Nat.reduceEqDiff, eq_self, true_or, or_true, false_or, or_false, true_and, and_true, false_and, and_false, jE_sw, jE_sw0]
theorem N_accessD_b {G : jx_Gv} {h : jx_H} {b : Nat} {S : Nat → Int32} {A : Nat → Nat → Int32} {o p d x2 : Int32} {S1 S2 S3 S4 : Nat → Int32} {A1 A2 A3 A4 : Nat → Nat → Int32} (e1 : jE G (82, 0, [some (.ref b)], [], hR h b S A) = some (some (.int (Int32.ofNat 1)), hR h b S1 A1)) (e2 : jE G (85, 0, [some (.ref b), none], [], hR h b S1 A1) = some (some (.int p), hR h b S2 A2)) (e3 : jE G (86, 0, [some (.ref b), some (.int (Int32.ofNat 46))], [], hR h b S2 A2) = some (some (.int x2), hR h b S3 A3)) (e4 : jE G (85, 0, [some (.ref b), none], [], hR h b S3 A3) = some (some (.int d), hR h b S4 A4)) (h7 : S4 7 = Int32.ofNat 0) {β_ : Type} {f_ : jx_R → Option β_} : (jE G (92, 0, [some (.ref b), some (.int o), none, none], [], hR h b S A)).bind f_ = f_ ((none, hR h b S4 A4)) := bnd (N_accessD e1 e2 e3 e4 h7)
theorem N_accessY {G : jx_Gv} {h : jx_H} {b : Nat} {S : Nat → Int32} {A : Nat → Nat → Int32} {o p d x2 : Int32} {m ac am : Nat} {S1 S2 S3 S4 : Nat → Int32} {A1 A2 A3 A4 : Nat → Nat → Int32} (e1 : jE G (82, 0, [some (.ref b)], [], hR h b S A) = some (some (.int (Int32.ofNat 1)), hR h b S1 A1)) (e2 : jE G (85, 0, [some (.ref b), none], [], hR h b S1 A1) = some (some (.int p), hR h b S2 A2)) (e3 : jE G (86, 0, [some (.ref b), some (.int (Int32.ofNat 46))], [], hR h b S2 A2) = some (some (.int x2), hR h b S3 A3)) (e4 : jE G (85, 0, [some (.ref b), none], [], hR h b S3 A3) = some (some (.int d), hR h b S4 A4)) (h7 : S4 7 = Int32.ofNat 1) (h11 : S4 11 = Int32.ofNat (m + 1)) (hm : m < 120) (h24 : S4 24 = Int32.ofNat ac) (hac : ac < 600) (h15 : A4 15 m = Int32.ofNat am) : jE G (92, 0, [some (.ref b), some (.int o), none, none], [], hR h b S A) = some (none, hR h b (upd S4 24 (Int32.ofNat (ac + 1))) (acA A4 m ac am o p d)) := by
  have e1' := fun {β : Type} {f : jx_R → Option β} => bnd (f := f) e1
  have e2' := fun {β : Type} {f : jx_R → Option β} => bnd (f := f) e2
  have e3' := fun {β : Type} {f : jx_R → Option β} => bnd (f := f) e3
  have e4' := fun {β : Type} {f : jx_R → Option β} => bnd (f := f) e4
  unfold acA
  simp (disch := omega) only [e_92_0, e_92_4, e_92_9, e_92_16, e_92_21, e_92_29, e_92_30, e_92_70, rr_v, ↓rg_good_b, ↓rg_accesses_b, ↓rg_rows_b, ↓ra_accessKind_b, ↓ra_accessPort_b, ↓ra_accessDatum_b, ↓ra_accessMany_b, ↓rs_accessKind_b, ↓rs_accessPort_b, ↓rs_accessDatum_b, ↓rs_accessMany_b, ↓rl_accessMany_b, ↓rp_accesses_b, upd_of, upA_of, h7, h11, h24, h15, i_sub, Nat.add_sub_cancel, ↓e1', ↓e2', ↓e3', ↓e4', ↓Option.bind_some, ↓jzo_0b, ↓jzo_1b, ↓jzo_bb, Option.toList_some, Option.toList_none, List.cons_append, List.nil_append, ↓reduceIte, jzo_0, jzo_1, jzo_b, jbi_t, jbi_f, i_add, ↓i_ltP, ↓i_ltN, ↓i_eqP, ↓i_eqN, i_lt, i_eq, jbi_0, pt_lt, pf_lt, pt_eq, pf_eq, pt_le, pf_le, Nat.reduceEqDiff, eq_self, true_or, or_true, false_or, or_false, true_and, and_true, false_and, and_false, jE_sw, jE_sw0]

theorem N_accessY_b {G : jx_Gv} {h : jx_H} {b : Nat} {S : Nat → Int32} {A : Nat → Nat → Int32} {o p d x2 : Int32} {m ac am : Nat} {S1 S2 S3 S4 : Nat → Int32} {A1 A2 A3 A4 : Nat → Nat → Int32} (e1 : jE G (82, 0, [some (.ref b)], [], hR h b S A) = some (some (.int (Int32.ofNat 1)), hR h b S1 A1)) (e2 : jE G (85, 0, [some (.ref b), none], [], hR h b S1 A1) = some (some (.int p), hR h b S2 A2)) (e3 : jE G (86, 0, [some (.ref b), some (.int (Int32.ofNat 46))], [], hR h b S2 A2) = some (some (.int x2), hR h b S3 A3)) (e4 : jE G (85, 0, [some (.ref b), none], [], hR h b S3 A3) = some (some (.int d), hR h b S4 A4)) (h7 : S4 7 = Int32.ofNat 1) (h11 : S4 11 = Int32.ofNat (m + 1)) (hm : m < 120) (h24 : S4 24 = Int32.ofNat ac) (hac : ac < 600) (h15 : A4 15 m = Int32.ofNat am) {β_ : Type} {f_ : jx_R → Option β_} : (jE G (92, 0, [some (.ref b), some (.int o), none, none], [], hR h b S A)).bind f_ = f_ ((none, hR h b (upd S4 24 (Int32.ofNat (ac + 1))) (acA A4 m ac am o p d))) := bnd (N_accessY e1 e2 e3 e4 h7 h11 hm h24 hac h15)