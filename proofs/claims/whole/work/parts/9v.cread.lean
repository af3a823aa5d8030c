/-! READ IS THE SAME IN BOTH -/
theorem fsl_ne {kp E : Nat} {hand : Int32} {T : jTt} {al : Nat → Bool} {xs : Nat → jX} {S : Nat → Int32} {A : Nat → Nat → Int32} (rl : Rl kp hand T al xs S A E) : fsl kp hand < 10 ∧ (∀ e : Nat, e < kp → e ≠ fsl kp hand) ∧ (∀ i : Nat, i < 10 → hand = Int32.ofNat i → (kp < 8 → i < kp) → i ≠ fsl kp hand) ∧ (kp < 8 → fsl kp hand = kp) := by
  have hk := Rl_kp rl
  unfold fsl
  by_cases c1 : kp < 8
  · rw [if_pos c1]
    exact ⟨by omega, fun e he => by omega, fun i h1 h2 h3 => by have := h3 c1; omega, fun _ => rfl⟩
  · rw [if_neg c1]
    by_cases c2 : hand = Int32.ofNat 8
    · rw [if_pos c2]
      refine ⟨by decide, fun e he => by omega, fun i h1 h2 h3 => ?_, fun z => absurd z c1⟩
      rw [c2, i_eq (by decide) (by omega)] at h2
      omega
    · rw [if_neg c2]
      refine ⟨by decide, fun e he => by omega, fun i h1 h2 h3 z => ?_, fun z => absurd z c1⟩
      rw [z] at h2
      exact c2 h2
theorem c_read {G : jx_Gv} {o E : Nat} {H : jx_H} (hG : jLt G) (st : St G o E H) (hE : E < 2147483000) : ∃ (x : Int32) (H1 H2 : jx_H), jE G (70, 0, [some (.ref o), none, none, none], [], H) = some (some (.int x), H1) ∧ jE G (105, 0, [some (.ref (o + 11)), none], [], H1) = some (some (.int x), H2) ∧ (∀ l : List Value, jx_recv H1 (.ref (o + 11) :: l) (some 8) = true) ∧ ∃ E', E' ≤ E + 1 ∧ St G o E' H2 := by
  obtain ⟨kp, hand, T, c, D, f0, al, ed, xs, S, A, iv, rl⟩ := st
  have tx := Iv_tx iv
  have ekp := Rl_kp rl
  obtain ⟨s10, sne, shd, skp⟩ := fsl_ne rl
  obtain ⟨a, X, d8, pf, pt⟩ := P_read hG iv (by omega) (Rl_oc rl)
  have agr' : ∀ p : Nat, p < T.2.1 → A 1 p = T.1 p := Rl_a1 rl
  have hO1 : fOct (A 1) T.2.1 := fun p hp => by
    obtain ⟨n, n1, n2⟩ := Rl_oc rl p hp
    exact ⟨n, n1, by rw [agr' p hp]; exact n2⟩
  have eR : fl0 wn0 (A 1) T.2.1 c D X = fl0 wn0 T.1 T.2.1 c D X := fl_cg agr' 2001 _ _ _
  generalize hRR : fl0 wn0 T.1 T.2.1 c D X = R at *
  generalize hsl : fsl kp hand = sl at *
  cases hr : R.1
  · obtain ⟨H1, e1, iv1⟩ := pf hr
    obtain ⟨S', A', e2, y⟩ := rd_all (G := G) (h := H1) (b := o + 11) (wn := wn0) (f := A 1) (len := T.2.1) (S := S) (A := A) (c := c) (D := D) (X := X) wn0_ok hO1 tx.2.2 (Iv_dn iv) (Rl_s0 rl) rfl (Rl_ln rl)
    rw [Iv_hR iv1] at e2
    rw [eR] at y
    rcases y with y | ⟨y7, y1, y6, yf, yl⟩
    · rw [y.1] at hr
      cases hr
    have e3 : jE G (105, 65, [some (.ref (o + 11)), none], [], hR H1 (o + 11) S' A') = some (some (.int (-(Int32.ofNat R.2.1.2.1))), hR H1 (o + 11) (upd S' 0 (Int32.ofNat 0)) A') := by
      have i7 : upd S' 0 (Int32.ofNat 0) 7 = Int32.ofNat 0 := (upd_of (by decide)).trans y7
      simp (disch := omega) only [e_105_65, e_105_82, ↓rg_tokenLine_b, ↓rp_size_b, ↓rg_good_b, y6, i7, ↓Option.bind_some, ↓jzo_0b, ↓jzo_1b, ↓jzo_bb, Option.toList_some, Option.toList_none, List.cons_append, List.nil_append, ↓reduceIte, jzo_0, jzo_1, jzo_b, jbi_t, jbi_f, i_add, ↓i_ltP, ↓i_ltN, ↓i_eqP, ↓i_eqN, i_lt, i_eq, jbi_0, pt_lt, pf_lt, pt_eq, pf_eq, pt_le, pf_le, Nat.reduceEqDiff, eq_self, true_or, or_true, false_or, or_false, true_and, and_true, false_and, and_false, jE_sw, jE_sw0]
    refine ⟨_, H1, _, e1, e2.trans e3, fun l => c_rv (Iv_r0 iv1), E, Nat.le_succ _, kp, hand, (T.1, 0, false), _, _, f0, _, _, _, _, _, Iv_ref iv1, ?_⟩
    refine ⟨(upd_of (by decide)).trans (yf.2.2.1.trans (Rl_e rl)), ekp, upd_at, fun i hi => absurd hi (Nat.not_lt_zero _), fun i hi => absurd hi (Nat.not_lt_zero _), yl, ?_, fun e he => ?_⟩
    · rw [upd_of (by decide), upd_of (by decide), yf.1, yf.2.1]
      rcases Rl_hd rl with z | ⟨z1, j, ws, j1, eh, ea, ej, e32, e33, hd⟩
      · exact Or.inl z
      · have ne := shd j j1 eh ej
        refine Or.inr ⟨z1, j, ws, j1, eh, by rw [upB_of ne]; exact ea, ej, e32, ?_, ?_⟩
        · rw [upX_of ne, upX_of ne]
          exact e33
        · rw [upX_of ne, upX_of ne]
          exact Hd_cg hd (fun k k1 k2 => yf.2.2.2 (k + 17) (by omega))
    · have ne := sne e he
      obtain ⟨k1, k2⟩ := Rl_ke rl e he
      rw [upB_of ne, upX_of ne, upX_of ne]
      exact ⟨k1, Kp_cg k2 (fun k z1 z2 => yf.2.2.2 k (by omega))⟩
  · have key : ∀ (H1 : jx_H), ∃ S' A', jE G (105, 0, [some (.ref (o + 11)), none], [], hR H1 (o + 11) S A) = jE G (105, 65, [some (.ref (o + 11)), none], [], hR H1 (o + 11) S' A') ∧ Fin wn0 (A 1) T.2.1 R S A S' A' := by
      intro H1
      obtain ⟨S', A', e2, y⟩ := rd_all (G := G) (h := H1) (b := o + 11) (wn := wn0) (f := A 1) (len := T.2.1) (S := S) (A := A) (c := c) (D := D) (X := X) wn0_ok hO1 tx.2.2 (Iv_dn iv) (Rl_s0 rl) rfl (Rl_ln rl)
      rw [eR] at y
      rcases y with y | ⟨-, y1, -⟩
      · exact ⟨S', A', e2, y⟩
      · rw [hr] at y1
        cases y1
    obtain ⟨S9, A9, -, -, h9, n9, c9, D9, ws9, ac9, lv9⟩ := key H
    have wf1 : xWF R.2.2.2 := xI_WF (Lv_fi lv9).2.1
    have wf2 : xWF (xResolve R.2.2.2) := Hd_wf (Hd_fin (B := fun k => if k = 20 then upd (A9 20) (xRc R.2.2.2) (S9 28) else A9 k) lv9 tx.2.2 (by rw [h9]; decide) (by rw [h9]; decide) (fun k k1 k2 j hj => by show (if k = 20 then _ else A9 k) j = A9 k j; rw [if_neg (by omega)]) (fun k k1 k2 j hj => by show (if k = 20 then _ else A9 k) j = A9 k j; rw [if_neg (by omega)]) (fun j hj => rfl) (fun j hj => by show upd (A9 20) (xRc R.2.2.2) (S9 28) j = A9 20 j; rw [upd_of (by omega)]) upd_at)
    obtain ⟨H1, e1, iv1⟩ := pt hr wf1 wf2
    obtain ⟨S', A', e2, -, h4, n, c', D', ws, ac, lv⟩ := key H1
    rw [Iv_hR iv1] at e2
    have fr := Lv_fr lv
    have fi := Lv_fi lv
    have ac5 : ac ≤ 500 := by
      have z1 := (Lv_ac lv).2
      have z2 := fi.2.1.2.1
      omega
    have w28 : S' 28 = Int32.ofNat (ws (xRc R.2.2.2)) := (Lv_wr lv).1
    have w4 : ws (xRc R.2.2.2) ≤ 4000 := by
      have z1 : ws (xRc R.2.2.2) + 0 ≤ 2 * c'.1 := (Lv_wr lv).2
      have z2 := fi.1
      have z3 := tx.2.2
      omega
    obtain ⟨S3, A3, pr, t32, t33, t51, t0, q1, q2, q3, q4, q5, q6, q7, q8, q9, q10, q11, q12⟩ := rd_end (G := G) (h := H1) (b := o + 11) (z := none) (A := A') (Lv_go lv) (Lv_ro lv) fi.2.1.1 (Lv_ac lv).1 (by omega) w28 (by omega) (fr.2.2.1.trans (Rl_e rl)) hE
    have hd : Hd wn0 (xResolve R.2.2.2) (hv A3) ws := Hd_fin lv tx.2.2 (by rw [h4]; decide) (by rw [h4]; decide) (fun k k1 k2 j hj => by
        have z := q1 (k + 17) (by omega) (by omega) j hj
        rw [Nat.add_sub_cancel] at z
        exact z) (fun k k1 k2 j hj => by
        have z := q2 (k + 17) (by omega) (by omega) j hj
        rw [Nat.add_sub_cancel] at z
        exact z) q3 q4 (q5.trans w28.symm)
    have rh : jRh (hR H1 (o + 11) S3 A3) (o + 11) (yA (xRc (xResolve R.2.2.2)) (hv A3)) := jRh_hR (h := H1) (b := o + 11) (A := A3) t32 (show S3 33 = Int32.ofNat (xRc (xResolve R.2.2.2)) from t33)
    have mp := M_parts (G := G) rh (Hd_VW hd)
    have ce := cnt_eq (Hd_XY hd) (Hd_wf hd) (s := 3) (q := 0) (by decide) (by decide) (by decide) (xRc (xResolve R.2.2.2)) (Nat.le_refl _)
    have ev : vN (yA (xRc (xResolve R.2.2.2)) (hv A3)) = xRc (xResolve R.2.2.2) := rfl
    rw [ev] at mp
    have mp2 : jE G (104, 0, [some (.ref (o + 11))], [], hR H1 (o + 11) S3 A3) = some (some (.int (Int32.ofNat (jcnt (xfit (xResolve R.2.2.2) (Int32.ofNat 8208) (Int32.ofNat 0)) (xRc (xResolve R.2.2.2))))), hR H1 (o + 11) S3 A3) := by
      refine mp.trans ?_
      congr 4
      exact congrArg Int32.ofNat ce.symm
    have e3 := pr mp2
    have ax : upX (upX (upX xs sl X) sl R.2.2.2) sl (xResolve R.2.2.2) sl = xResolve R.2.2.2 := upX_at
    refine ⟨_, H1, _, e1, e2.trans e3, fun l => c_rv (Iv_r0 iv1), E + 1, Nat.le_refl _, _, _, (T.1, 0, false), _, _, f0, _, _, _, _, _, Iv_ref iv1, ?_⟩
    refine ⟨t51, ?_, t0, fun i hi => absurd hi (Nat.not_lt_zero _), fun i hi => absurd hi (Nat.not_lt_zero _), fun i hi => by rw [q6 2 (by decide)]; exact Lv_ln lv i hi, Or.inr ⟨by omega, sl, ws, s10, rfl, upB_at, fun z => ?_, t32, ?_, ?_⟩, fun e he => ?_⟩
    · by_cases c8 : kp < 8
      · rw [if_pos c8]; omega
      · rw [if_neg c8]; omega
    · by_cases c8 : kp < 8
      · rw [if_pos c8, skp c8]; omega
      · rw [if_neg c8] at z; omega
    · rw [ax]; exact t33
    · rw [ax]; exact hd
    · by_cases es : e = sl
      · subst es
        rw [ax]
        have c8 : kp < 8 := by
          apply Classical.byContradiction
          intro c8
          rw [if_neg c8] at he
          exact sne e he rfl
        have ee : e = E := by rw [skp c8]; omega
        subst ee
        obtain ⟨r1, r2, r3, r4⟩ := q7 (by omega)
        refine ⟨upB_at, hv A3, ws, hd, r1, fun i hi => ?_, fun i hi => ?_, fun i hi => r4 i hi⟩
        · rw [r2 i hi]
          obtain ⟨k, -, -, -, -, y5, -⟩ := Hd_rw hd (i + 1) (by omega) (by omega)
          rw [Nat.add_sub_cancel] at y5
          exact y5
        · rw [r3 i hi]
          exact Hd_wa hd i hi
      · have he2 : e < kp := by
          by_cases c8 : kp < 8
          · rw [if_pos c8] at he
            have := skp c8
            omega
          · rw [if_neg c8] at he
            exact he
        rw [upB_of es, upX_of es, upX_of es, upX_of es]
        obtain ⟨k1, C, vs, k2, k3, k4, k5, k6⟩ := Rl_ke rl e he2
        have n120 := (Hd_wf k2).1
        have v6 := Hd_wl k2
        refine ⟨k1, C, vs, k2, ?_, fun i hi => ?_, fun i hi => ?_, fun i hi => ?_⟩
        · rw [q8 e (by omega), fr.2.2.2 38 (by decide)]; exact k3
        · rw [q9 _ (by omega), fr.2.2.2 39 (by decide)]; exact k4 i hi
        · rw [q10 _ (by omega), fr.2.2.2 40 (by decide)]; exact k5 i hi
        · rw [q11 _ (by omega), fr.2.2.2 41 (by decide)]; exact k6 i hi
