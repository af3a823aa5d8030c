/-! SIGNS, NAMES, NUMBERS, WORDS OF A ROW: both go on or both stop -/
theorem tSw_sign {u : Nat} {c : jS} {D : jR} {X : jX} (hu : u = 58 ∨ u = 59 ∨ u = 46 ∨ u = 61 ∨ u = 47 ∨ u = 123) : tSw (Int32.ofNat u) c D X = cond (sSg c (Int32.ofNat u)) (true, D, xaddTok X c.2.2.1 (Int32.ofNat u)) (false, D, X) := by
  rcases hu with e | e | e | e | e | e <;> subst e <;> rfl
theorem md_sign {G : jx_Gv} {h : jx_H} {b : Nat} {wn : Nat → Int64} {f : Nat → Int32} {len : Nat} {R : Bool × jS × jR × jX} {S0 : Nat → Int32} {A0 : Nat → Nat → Int32} (hw : wnOk wn) (hO : fOct f len) (hl : len ≤ 2000) {N k bl m ac T : Nat} {D : jR} {L : List (Int32 × Int32)} {S : Nat → Int32} {A : Nat → Nat → Int32} (q : MD wn f len R S0 A0 N k bl m ac T D L S A) (hd : dOv D = false) {u : Nat} (hu : u = 58 ∨ u = 59 ∨ u = 46 ∨ u = 61 ∨ u = 47 ∨ u = 123) (hdue : tDue D = Int32.ofNat u) : ∃ S' A' x, jE G (86, 0, [some (.ref b), some (.int (Int32.ofNat u))], [], hR h b S A) = some (some (.int x), hR h b S' A') ∧ MD wn f len R S0 A0 N k bl m ac T (dUp D) (L ++ [(Int32.ofNat 4, Int32.ofNat u)]) S' A' ∧ Frm S A S' A' := by
  obtain ⟨m1, m2, q⟩ := q
  rcases q with ⟨n, c, X, ws, q1, q2, q3, q4, q5, q6, q7⟩ | q
  · have tk := Lv_tk q2
    have est : tSt (adv wn f len c) D X = cond (sSg (adv wn f len c) (Int32.ofNat u)) (true, dUp D, xaddTok X (adv wn f len c).2.2.1 (Int32.ofNat u)) (false, dUp D, X) := by rw [tSt_eq, hdue, tSw_sign hu]
    cases c1 : sSg (adv wn f len c) (Int32.ofNat u)
    · rw [c1, cond_false] at est
      have hn : ¬ (S 4 = Int32.ofNat 4 ∧ S 5 = Int32.ofNat u) := by
        rintro ⟨z1, z2⟩
        rw [tk.2.1] at z1
        have z3 := rk_eq (by decide) (by decide) z1
        rw [tk.2.2.2.2.2.2.1 z3] at z2
        unfold sSg at c1
        rw [decide_eq_true z3, decide_eq_true z2] at c1
        cases c1
      refine ⟨_, _, _, N_sign0N (Lv_go q2) hn, ⟨m1, by rw [upd_of (by decide)]; exact m2, Or.inr (Dd_of q2 (fun _ => by rw [hd, cond_false, est]) (fun _ => dOv_row hd))⟩, Frm_7⟩
    · rw [c1, cond_true] at est
      unfold sSg at c1
      rw [Bool.and_eq_true] at c1
      have z1 := of_decide_eq_true c1.1
      have z2 := of_decide_eq_true c1.2
      have nx : nxX (adv wn f len c) X = X := if_neg (by rw [z1]; decide)
      have tt := tk_text (v := Int32.ofNat u) hw tk (by rw [nx]; exact (Lv_fi q2).2.1.2.2.1) (Or.inr (Or.inr (Or.inr ⟨z1, z2.symm⟩)))
      obtain ⟨S', A', X', ws', g1, g2, g3, g4, g5, g6, g7, g8, g9⟩ := lv_take (G := G) (h := h) (b := b) hw hO hl q2 q3 hd (by rw [z1]; decide) (by rw [z1]; decide) (v := Int32.ofNat u) (by rw [nx]; exact est) (by rw [tt.1]; rfl) (tt.2 (fun _ => by rcases hu with e | e | e | e | e | e <;> rw [e] <;> decide))
      refine ⟨S', A', _, N_sign0Y (Lv_go q2) (by rw [tk.2.1]; exact rk_of (by decide) z1) (by rw [tk.2.2.2.2.2.2.1 z1]; exact z2) g1, ⟨m1, by rw [g4.1]; exact m2, Or.inl ⟨n - 1, _, X', ws', by omega, g2, g5, by rw [g6]; exact q4, by rw [g7]; exact q5, by rw [g8, q6, z1], by rw [g9]; exact q7⟩⟩, g4⟩
  · exact ⟨S, A, _, N_sign00 q.1, ⟨m1, m2, Or.inr q⟩, Frm_refl⟩
theorem md_name {G : jx_Gv} {h : jx_H} {b : Nat} {wn : Nat → Int64} {f : Nat → Int32} {len : Nat} {R : Bool × jS × jR × jX} {S0 : Nat → Int32} {A0 : Nat → Nat → Int32} (hw : wnOk wn) (hO : fOct f len) (hl : len ≤ 2000) {N k bl m ac T : Nat} {D : jR} {L : List (Int32 × Int32)} {S : Nat → Int32} {A : Nat → Nat → Int32} (q : MD wn f len R S0 A0 N k bl m ac T D L S A) (hd : dOv D = false) (hdue : tDue D = Int32.ofNat 78) : ∃ S' A' x, jE G (85, 0, [some (.ref b), none], [], hR h b S A) = some (some (.int x), hR h b S' A') ∧ MD wn f len R S0 A0 N k bl m ac T (dUp D) (L ++ [(Int32.ofNat 2, x)]) S' A' ∧ Frm S A S' A' := by
  obtain ⟨m1, m2, q⟩ := q
  rcases q with ⟨n, c, X, ws, q1, q2, q3, q4, q5, q6, q7⟩ | q
  · have tk := Lv_tk q2
    have est : tSt (adv wn f len c) D X = if (adv wn f len c).2.2.1 = Int32.ofNat 2 then (true, dUp D, xaddTok (xnn X (adv wn f len c).2.2.2.2).2 (adv wn f len c).2.2.1 (Int32.ofNat (xnn X (adv wn f len c).2.2.2.2).1)) else (false, dUp D, X) := by
      rw [tSt_eq, hdue]
      rfl
    by_cases z1 : (adv wn f len c).2.2.1 = Int32.ofNat 2
    · rw [if_pos z1] at est
      have nx : nxX (adv wn f len c) X = (xnn X (adv wn f len c).2.2.2.2).2 := if_pos z1
      have tt := tk_text (v := Int32.ofNat (xnn X (adv wn f len c).2.2.2.2).1) hw tk (xI_nx (Lv_fi q2).2.1).2.2.1 (Or.inr (Or.inl ⟨z1, rfl⟩))
      obtain ⟨S', A', X', ws', g1, g2, g3, g4, g5, g6, g7, g8, g9⟩ := lv_take (G := G) (h := h) (b := b) hw hO hl q2 q3 hd (by rw [z1]; decide) (by rw [z1]; decide) (v := Int32.ofNat (xnn X (adv wn f len c).2.2.2.2).1) (by rw [nx]; exact est) (by rw [tt.1]; rfl) (tt.2 (fun z => by rw [z1] at z; exact absurd z (by decide)))
      refine ⟨S', A', _, N_nameY (Lv_go q2) (by rw [tk.2.1]; exact rk_of (by decide) z1) g1, ⟨m1, by rw [g4.1]; exact m2, Or.inl ⟨n - 1, _, X', ws', by omega, g2, g5, by rw [g6]; exact q4, by rw [g7]; exact q5, by rw [g8, q6, z1, (tk.2.2.2.2.1 z1).2.1], by rw [g9]; exact q7⟩⟩, g4⟩
    · rw [if_neg z1] at est
      have hn : ¬ S 4 = Int32.ofNat 2 := by
        intro z
        rw [tk.2.1] at z
        exact z1 (rk_eq (by decide) (by decide) z)
      refine ⟨_, _, _, N_nameN (Lv_go q2) hn, ⟨m1, by rw [upd_of (by decide)]; exact m2, Or.inr (Dd_of q2 (fun _ => by rw [hd, cond_false, est]) (fun _ => dOv_row hd))⟩, Frm_7⟩
  · exact ⟨S, A, _, N_name0 q.1, ⟨m1, m2, Or.inr q⟩, Frm_refl⟩
theorem md_num {G : jx_Gv} {h : jx_H} {b : Nat} {wn : Nat → Int64} {f : Nat → Int32} {len : Nat} {R : Bool × jS × jR × jX} {S0 : Nat → Int32} {A0 : Nat → Nat → Int32} (hw : wnOk wn) (hO : fOct f len) (hl : len ≤ 2000) {N k bl m ac T : Nat} {D : jR} {L : List (Int32 × Int32)} {S : Nat → Int32} {A : Nat → Nat → Int32} (q : MD wn f len R S0 A0 N k bl m ac T D L S A) (hd : dOv D = false) {hi : Nat} (hh : tDue D = Int32.ofNat 81 ∧ hi = 9999 ∨ tDue D = Int32.ofNat 90 ∧ hi = 999999) : ∃ S' A' x, jE G (87, 0, [some (.ref b), some (.int (Int32.ofNat 1)), some (.int (Int32.ofNat hi)), none], [], hR h b S A) = some (some (.int x), hR h b S' A') ∧ MD wn f len R S0 A0 N k bl m ac T (dUp D) (L ++ [(Int32.ofNat 3, x)]) S' A' ∧ Frm S A S' A' ∧ (S' 7 = Int32.ofNat 1 → ∃ z : Nat, 1 ≤ z ∧ z ≤ hi ∧ x = Int32.ofNat z) := by
  obtain ⟨m1, m2, q⟩ := q
  have hhi : hi < 2147483648 := by rcases hh with ⟨-, e⟩ | ⟨-, e⟩ <;> omega
  rcases q with ⟨n, c, X, ws, q1, q2, q3, q4, q5, q6, q7⟩ | q
  · have tk := Lv_tk q2
    have est : tSt (adv wn f len c) D X = cond (sNu (adv wn f len c) (Int32.ofNat 1) (Int32.ofNat hi)) (true, dUp D, xaddTok X (adv wn f len c).2.2.1 (adv wn f len c).2.2.2.1) (false, dUp D, X) := by
      rw [tSt_eq]
      rcases hh with ⟨e1, e2⟩ | ⟨e1, e2⟩
      · rw [e1, e2]; rfl
      · rw [e1, e2]; rfl
    cases c1 : sNu (adv wn f len c) (Int32.ofNat 1) (Int32.ofNat hi)
    · rw [c1, cond_false] at est
      have hn : ¬ (S 4 = Int32.ofNat 3 ∧ ¬ S 5 < Int32.ofNat 1 ∧ ¬ Int32.ofNat hi < S 5) := by
        rintro ⟨z1, z2, z4⟩
        rw [tk.2.1] at z1
        have z3 := rk_eq (by decide) (by decide) z1
        rw [(tk.2.2.2.2.2.1 z3).1] at z2 z4
        unfold sNu at c1
        rw [decide_eq_true z3, decide_eq_false z2, decide_eq_false z4] at c1
        cases c1
      refine ⟨_, _, _, N_numberN (Lv_go q2) hn, ⟨m1, by rw [upd_of (by decide)]; exact m2, Or.inr (Dd_of q2 (fun _ => by rw [hd, cond_false, est]) (fun _ => dOv_row hd))⟩, Frm_7, fun z => by rw [upd_at] at z; exact absurd z (by decide)⟩
    · rw [c1, cond_true] at est
      unfold sNu at c1
      rw [Bool.and_eq_true, Bool.and_eq_true, Bool.not_eq_true', Bool.not_eq_true'] at c1
      have z1 := of_decide_eq_true c1.1
      have z2 := of_decide_eq_false c1.2.1
      have z3 := of_decide_eq_false c1.2.2
      have nx : nxX (adv wn f len c) X = X := if_neg (by rw [z1]; decide)
      have e5 := (tk.2.2.2.2.2.1 z1).1
      have tt := tk_text (v := (adv wn f len c).2.2.2.1) hw tk (by rw [nx]; exact (Lv_fi q2).2.1.2.2.1) (Or.inr (Or.inr (Or.inl ⟨z1, rfl⟩)))
      obtain ⟨S', A', X', ws', g1, g2, g3, g4, g5, g6, g7, g8, g9⟩ := lv_take (G := G) (h := h) (b := b) hw hO hl q2 q3 hd (by rw [z1]; decide) (by rw [z1]; decide) (v := (adv wn f len c).2.2.2.1) (by rw [nx]; exact est) (by rw [tt.1]; rfl) (tt.2 (fun z => by rw [z1] at z; exact absurd z (by decide)))
      refine ⟨S', A', _, N_numberY (Lv_go q2) (by rw [tk.2.1]; exact rk_of (by decide) z1) (by rw [e5]; exact z2) (by rw [e5]; exact z3) g1, ⟨m1, by rw [g4.1]; exact m2, Or.inl ⟨n - 1, _, X', ws', by omega, g2, g5, by rw [g6]; exact q4, by rw [g7]; exact q5, by rw [g8, q6, z1, e5], by rw [g9]; exact q7⟩⟩, g4, fun _ => ?_⟩
      obtain ⟨-, z, y1, y2, -⟩ := tk.2.2.2.2.2.1 z1
      rw [y2, i_lt (by omega) (by decide)] at z2
      rw [y2, i_lt hhi (by omega)] at z3
      exact ⟨z, by omega, by omega, by rw [e5, y2]⟩
  · exact ⟨S, A, _, N_number0 q.1, ⟨m1, m2, Or.inr q⟩, Frm_refl, fun z => by rw [q.1] at z; exact absurd z (by decide)⟩
theorem k_to : ∀ j : Nat, j < 16 → ((Int32.ofNat (2 ^ j) &&& Int32.ofNat 32768 = Int32.ofNat 0) ↔ j ≠ 15) := by decide +kernel
theorem md_to {G : jx_Gv} {h : jx_H} {b : Nat} {wn : Nat → Int64} {f : Nat → Int32} {len : Nat} {R : Bool × jS × jR × jX} {S0 : Nat → Int32} {A0 : Nat → Nat → Int32} (hw : wnOk wn) (hO : fOct f len) (hl : len ≤ 2000) {N k bl m ac T : Nat} {D : jR} {L : List (Int32 × Int32)} {S : Nat → Int32} {A : Nat → Nat → Int32} (q : MD wn f len R S0 A0 N k bl m ac T D L S A) (hd : dOv D = false) (hdue : tDue D = Int32.ofNat 84) : ∃ S' A' x, jE G (90, 0, [some (.ref b), some (.int (Int32.ofNat 16))], [], hR h b S A) = some (some (.int x), hR h b S' A') ∧ MD wn f len R S0 A0 N k bl m ac T (dUp D) (L ++ [(Int32.ofNat 1, Int32.ofNat 32768)]) S' A' ∧ Frm S A S' A' := by
  obtain ⟨m1, m2, q⟩ := q
  rcases q with ⟨n, c, X, ws, q1, q2, q3, q4, q5, q6, q7⟩ | q
  · have tk := Lv_tk q2
    have est : tSt (adv wn f len c) D X = cond (sWd (adv wn f len c) (Int32.ofNat 32768)) (true, dUp D, xaddTok X (adv wn f len c).2.2.1 (Int32.ofNat 32768)) (false, dUp D, X) := by
      rw [tSt_eq, hdue]
      rfl
    cases c1 : sWd (adv wn f len c) (Int32.ofNat 32768)
    · rw [c1, cond_false] at est
      have hn : ¬ (S 4 = Int32.ofNat 1 ∧ S 5 = Int32.ofNat 16) := by
        rintro ⟨z1, z2⟩
        rw [tk.2.1] at z1
        have z3 := rk_eq (by decide) (by decide) z1
        obtain ⟨j, j1, j2, j3, j4⟩ := tk.2.2.2.1 z3
        rw [j3, i_eq (by omega) (by decide)] at z2
        have e15 : j = 15 := by omega
        unfold sWd at c1
        rw [decide_eq_true z3, j2, decide_eq_false (fun z => (k_to j j1).mp z e15)] at c1
        cases c1
      refine ⟨_, _, _, N_wordN (Lv_go q2) hn, ⟨m1, by rw [upd_of (by decide)]; exact m2, Or.inr (Dd_of q2 (fun _ => by rw [hd, cond_false, est]) (fun _ => dOv_row hd))⟩, Frm_7⟩
    · rw [c1, cond_true] at est
      unfold sWd at c1
      rw [Bool.and_eq_true, Bool.not_eq_true'] at c1
      have z1 := of_decide_eq_true c1.1
      have z2 := of_decide_eq_false c1.2
      obtain ⟨j, j1, j2, j3, j4⟩ := tk.2.2.2.1 z1
      rw [j2, k_to j j1] at z2
      have e15 : j = 15 := Classical.byContradiction z2
      subst e15
      have nx : nxX (adv wn f len c) X = X := if_neg (by rw [z1]; decide)
      have tt := tk_text (v := Int32.ofNat 32768) hw tk (by rw [nx]; exact (Lv_fi q2).2.1.2.2.1) (Or.inl ⟨z1, j2.symm⟩)
      obtain ⟨S', A', X', ws', g1, g2, g3, g4, g5, g6, g7, g8, g9⟩ := lv_take (G := G) (h := h) (b := b) hw hO hl q2 q3 hd (by rw [z1]; decide) (by rw [z1]; decide) (v := Int32.ofNat 32768) (by rw [nx]; exact est) (by rw [tt.1]; rfl) (tt.2 (fun z => by rw [z1] at z; exact absurd z (by decide)))
      refine ⟨S', A', _, N_wordY (Lv_go q2) (by rw [tk.2.1]; exact rk_of (by decide) z1) j3 g1, ⟨m1, by rw [g4.1]; exact m2, Or.inl ⟨n - 1, _, X', ws', by omega, g2, g5, by rw [g6]; exact q4, by rw [g7]; exact q5, by rw [g8, q6, z1], by rw [g9]; exact q7⟩⟩, g4⟩
  · exact ⟨S, A, _, N_word0 q.1, ⟨m1, m2, Or.inr q⟩, Frm_refl⟩
