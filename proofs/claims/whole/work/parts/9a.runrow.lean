/-! A RUN'S ROW IN BOTH -/
theorem lv_app {L M : List (Int32 × Int32)} {k : Nat} (h : k < L.length) : lv (L ++ M) k = lv L k ∧ lw (L ++ M) k = lw L k := by
  have e : (L ++ M).getD k (Int32.ofNat 6, Int32.ofNat 0) = L.getD k (Int32.ofNat 6, Int32.ofNat 0) := gD_app h
  unfold lw lv ls
  rw [e]
  exact ⟨rfl, rfl⟩
theorem lv_new {L M : List (Int32 × Int32)} {k : Nat} : lv (L ++ M) (L.length + k) = lv M k ∧ lw (L ++ M) (L.length + k) = lw M k := by
  have e : (L ++ M).getD (L.length + k) (Int32.ofNat 6, Int32.ofNat 0) = M.getD k (Int32.ofNat 6, Int32.ofNat 0) := by
    rw [gD_app_r (by omega), Nat.add_sub_cancel_left]
  unfold lw lv ls
  rw [e]
  exact ⟨rfl, rfl⟩
def rInv (L : List (Int32 × Int32)) (A : Nat → Nat → Int32) (m ac0 am k0 tr : Nat) : Prop := L.length = k0 + 4 * am ∧ A 14 m = Int32.ofNat ac0 ∧ A 15 m = Int32.ofNat am ∧ A 13 m = Int32.ofNat tr ∧ ∀ j : Nat, j < am → A 17 (ac0 + j) = lv L (k0 + 4 * j + 1) ∧ A 18 (ac0 + j) = lv L (k0 + 4 * j + 3) ∧ lw L (k0 + 4 * j + 1) = Int32.ofNat 0 ∧ lw L (k0 + 4 * j + 2) = Int32.ofNat 0 ∧ lw L (k0 + 4 * j + 3) = Int32.ofNat 0 ∧ (j = 0 ∧ tr = 2 ∧ lw L (k0 + 4 * j) = Int32.ofNat 1024 ∧ A 16 (ac0 + j) = Int32.ofNat 0 ∨ ¬ (j = 0 ∧ tr = 2) ∧ (lw L (k0 + 4 * j) = Int32.ofNat 2048 ∧ A 16 (ac0 + j) = Int32.ofNat 1 ∨ lw L (k0 + 4 * j) = Int32.ofNat 4096 ∧ A 16 (ac0 + j) = Int32.ofNat 2))
theorem rInv_step {L : List (Int32 × Int32)} {A A' : Nat → Nat → Int32} {m ac0 am k0 tr : Nat} {w o p d : Int32} (h : rInv L A m ac0 am k0 tr) (e13 : A' 13 m = A 13 m) (e14 : A' 14 m = A 14 m) (e15 : A' 15 m = Int32.ofNat (am + 1)) (e16 : A' 16 (ac0 + am) = o) (e17 : A' 17 (ac0 + am) = p) (e18 : A' 18 (ac0 + am) = d) (eo : ∀ k : Nat, 16 ≤ k → k ≤ 18 → ∀ j : Nat, j < ac0 + am → A' k j = A k j) (hw : am = 0 ∧ tr = 2 ∧ w = Int32.ofNat 1024 ∧ o = Int32.ofNat 0 ∨ ¬ (am = 0 ∧ tr = 2) ∧ (w = Int32.ofNat 2048 ∧ o = Int32.ofNat 1 ∨ w = Int32.ofNat 4096 ∧ o = Int32.ofNat 2)) : rInv (L ++ [(Int32.ofNat 1, w)] ++ [(Int32.ofNat 2, p)] ++ [(Int32.ofNat 4, Int32.ofNat 46)] ++ [(Int32.ofNat 2, d)]) A' m ac0 (am + 1) k0 tr := by
  obtain ⟨h1, h2, h3, h4, h5⟩ := h
  have eL : L ++ [(Int32.ofNat 1, w)] ++ [(Int32.ofNat 2, p)] ++ [(Int32.ofNat 4, Int32.ofNat 46)] ++ [(Int32.ofNat 2, d)] = L ++ [(Int32.ofNat 1, w), (Int32.ofNat 2, p), (Int32.ofNat 4, Int32.ofNat 46), (Int32.ofNat 2, d)] := by
    rw [List.append_assoc, List.append_assoc, List.append_assoc]
    rfl
  rw [eL]
  refine ⟨by rw [List.length_append, h1]; show k0 + 4 * am + 4 = k0 + 4 * (am + 1); omega, by rw [e14]; exact h2, e15, by rw [e13]; exact h4, fun j hj => ?_⟩
  by_cases c : j = am
  · subst c
    have n0 := lv_new (L := L) (M := [(Int32.ofNat 1, w), (Int32.ofNat 2, p), (Int32.ofNat 4, Int32.ofNat 46), (Int32.ofNat 2, d)]) (k := 0)
    have n1 := lv_new (L := L) (M := [(Int32.ofNat 1, w), (Int32.ofNat 2, p), (Int32.ofNat 4, Int32.ofNat 46), (Int32.ofNat 2, d)]) (k := 1)
    have n2 := lv_new (L := L) (M := [(Int32.ofNat 1, w), (Int32.ofNat 2, p), (Int32.ofNat 4, Int32.ofNat 46), (Int32.ofNat 2, d)]) (k := 2)
    have n3 := lv_new (L := L) (M := [(Int32.ofNat 1, w), (Int32.ofNat 2, p), (Int32.ofNat 4, Int32.ofNat 46), (Int32.ofNat 2, d)]) (k := 3)
    rw [Nat.add_zero, h1] at n0
    rw [h1] at n1 n2 n3
    rw [n0.2, n1.1, n1.2, n2.2, n3.1, n3.2, e16, e17, e18]
    exact ⟨rfl, rfl, rfl, rfl, rfl, hw⟩
  · have hj' : j < am := by omega
    have z := h5 j hj'
    have a0 := lv_app (L := L) (M := [(Int32.ofNat 1, w), (Int32.ofNat 2, p), (Int32.ofNat 4, Int32.ofNat 46), (Int32.ofNat 2, d)]) (k := k0 + 4 * j) (by omega)
    have a1 := lv_app (L := L) (M := [(Int32.ofNat 1, w), (Int32.ofNat 2, p), (Int32.ofNat 4, Int32.ofNat 46), (Int32.ofNat 2, d)]) (k := k0 + 4 * j + 1) (by omega)
    have a2 := lv_app (L := L) (M := [(Int32.ofNat 1, w), (Int32.ofNat 2, p), (Int32.ofNat 4, Int32.ofNat 46), (Int32.ofNat 2, d)]) (k := k0 + 4 * j + 2) (by omega)
    have a3 := lv_app (L := L) (M := [(Int32.ofNat 1, w), (Int32.ofNat 2, p), (Int32.ofNat 4, Int32.ofNat 46), (Int32.ofNat 2, d)]) (k := k0 + 4 * j + 3) (by omega)
    rw [a0.2, a1.1, a1.2, a2.2, a3.1, a3.2, eo 16 (by decide) (by decide) _ (by omega), eo 17 (by decide) (by decide) _ (by omega), eo 18 (by decide) (by decide) _ (by omega)]
    exact z
theorem tSt_use {c : jS} {X : jX} {d1 fo st a8 j : Nat} (hu : duT fo st = Int32.ofNat 65 ∨ duT fo st = Int32.ofNat 82) (ha : a8 < 8) (hj : j = 11 ∨ j = 12) (h1 : c.2.2.1 = Int32.ofNat 1) (h2 : c.2.2.2.1 = Int32.ofNat (2 ^ j)) : tSt c (d1, fo, st, a8, false) X = (true, (d1, 10, 0, a8 + 1, false), xaddTok X c.2.2.1 (Int32.ofNat (2 ^ j))) := by
  have hj16 : j < 16 := by omega
  have k := k_use j hj16
  have s6 : sWd c (Int32.ofNat 6144) = true := by
    unfold sWd
    rw [decide_eq_true h1, h2, decide_eq_false (fun z => k.1.mp z hj)]
    rfl
  have ac : tAc c (d1, fo, st + 1, a8, false) X = (true, (d1, 10, 0, a8 + 1, false), xaddTok X c.2.2.1 (Int32.ofNat (2 ^ j))) := by
    unfold tAc
    rw [if_pos ⟨ha, s6⟩, h2]
  rw [tSt_eq]
  show tSw (duT fo st) c (d1, fo, st + 1, a8, false) X = _
  rcases hu with e | e
  · rw [e]; exact ac
  · rw [e]
    show tTr c (d1, fo, st + 1, a8, false) X = _
    unfold tTr
    rw [if_neg, if_neg]
    · exact ac
    · unfold sWd
      rw [h2, decide_eq_true (k.2.2.mpr (by omega)), Bool.not_true, Bool.and_false]
      decide
    · unfold sWd
      rw [h2, decide_eq_true (k.2.1.mpr (by omega)), Bool.not_true, Bool.and_false]
      decide
theorem tSt_every {c : jS} {X : jX} {d1 : Nat} (h1 : c.2.2.1 = Int32.ofNat 1) (h2 : c.2.2.2.1 = Int32.ofNat (2 ^ 9)) : tSt c (d1, 6, 1, 0, false) X = (true, (d1, 9, 0, 0, false), xaddTok X c.2.2.1 (Int32.ofNat (2 ^ 9))) := by
  have e : duT 6 1 = Int32.ofNat 82 := by decide +kernel
  rw [tSt_eq]
  show tSw (duT 6 1) c (d1, 6, 2, 0, false) X = _
  rw [e]
  show tTr c (d1, 6, 2, 0, false) X = _
  have s5 : sWd c (Int32.ofNat 512) = true := by
    unfold sWd
    rw [decide_eq_true h1, h2]
    decide
  unfold tTr
  rw [if_pos s5]
theorem tSt_on {c : jS} {X : jX} {d1 : Nat} (h1 : c.2.2.1 = Int32.ofNat 1) (h2 : c.2.2.2.1 = Int32.ofNat (2 ^ 10)) : tSt c (d1, 6, 1, 0, false) X = (true, (d1, 10, 0, 0, false), xaddTok X c.2.2.1 (Int32.ofNat (2 ^ 10))) := by
  have e : duT 6 1 = Int32.ofNat 82 := by decide +kernel
  rw [tSt_eq]
  show tSw (duT 6 1) c (d1, 6, 2, 0, false) X = _
  rw [e]
  show tTr c (d1, 6, 2, 0, false) X = _
  have s5 : sWd c (Int32.ofNat 1024) = true := by
    unfold sWd
    rw [decide_eq_true h1, h2]
    decide
  have s4 : ¬ sWd c (Int32.ofNat 512) = true := by
    unfold sWd
    rw [decide_eq_true h1, h2]
    decide
  unfold tTr
  rw [if_neg s4, if_pos s5]
theorem md_access {G : jx_Gv} {h : jx_H} {b : Nat} {wn : Nat → Int64} {f : Nat → Int32} {len : Nat} {R : Bool × jS × jR × jX} {S0 : Nat → Int32} {A0 : Nat → Nat → Int32} (hw : wnOk wn) (hO : fOct f len) (hl : len ≤ 2000) {N k bl m ac T d1 a8 am : Nat} {L : List (Int32 × Int32)} {S S1 : Nat → Int32} {A A1 : Nat → Nat → Int32} {w o : Int32} (e1 : jE G (82, 0, [some (.ref b)], [], hR h b S A) = some (some (.int (Int32.ofNat 1)), hR h b S1 A1)) (p1 : MD wn f len R S0 A0 N k bl m ac T (d1, 10, 0, a8, false) (L ++ [(Int32.ofNat 1, w)]) S1 A1) (f1 : Frm S A S1 A1) (hT : 4 * ac ≤ T + L.length) (h15 : S 7 = Int32.ofNat 1 → A 15 m = Int32.ofNat am) : ∃ S' A' p d ac', jE G (92, 0, [some (.ref b), some (.int o), none, none], [], hR h b S A) = some (none, hR h b S' A') ∧ MD wn f len R S0 A0 N k bl m ac' T (d1, 10, 3, a8, false) (L ++ [(Int32.ofNat 1, w)] ++ [(Int32.ofNat 2, p)] ++ [(Int32.ofNat 4, Int32.ofNat 46)] ++ [(Int32.ofNat 2, d)]) S' A' ∧ S' 31 = S 31 ∧ (S' 7 = Int32.ofNat 1 → S 7 = Int32.ofNat 1 ∧ ac' = ac + 1 ∧ A' 15 m = Int32.ofNat (am + 1) ∧ A' 16 ac = o ∧ A' 17 ac = p ∧ A' 18 ac = d ∧ (∀ k : Nat, 16 ≤ k → k ≤ 18 → ∀ j : Nat, j < ac → A' k j = A k j) ∧ ∀ k : Nat, 4 ≤ k → k ≤ 14 → A' k = A k) := by
  have m0 := p1.1
  obtain ⟨S2, A2, p, e2, p2, f2⟩ := md_name (G := G) (h := h) (b := b) hw hO hl p1 (show dvT 10 0 = false by decide +kernel) (show duT 10 0 = Int32.ofNat 78 by decide +kernel)
  obtain ⟨S3, A3, x3, e3, p3, f3⟩ := md_sign (G := G) (h := h) (b := b) (u := 46) hw hO hl p2 (show dvT 10 1 = false by decide +kernel) (by decide) (show duT 10 1 = Int32.ofNat 46 by decide +kernel)
  obtain ⟨S4, A4, d, e4, p4, f4⟩ := md_name (G := G) (h := h) (b := b) hw hO hl p3 (show dvT 10 2 = false by decide +kernel) (show duT 10 2 = Int32.ofNat 78 by decide +kernel)
  have ff := Frm_trans (Frm_trans (Frm_trans f1 f2) f3) f4
  rcases MD_live p4 with h7 | h7
  · have s7 := ff.2.2.2.1 h7
    have am1 := h15 s7
    have c4 := MD_cnt p4 h7
    have ln : (L ++ [(Int32.ofNat 1, w)] ++ [(Int32.ofNat 2, p)] ++ [(Int32.ofNat 4, Int32.ofNat 46)] ++ [(Int32.ofNat 2, d)]).length = L.length + 4 := by
      simp only [List.length_append, List.length_cons, List.length_nil]
    rw [ln] at c4
    have a15 : A4 15 m = Int32.ofNat am := by rw [ff.2.2.2.2 15 (by decide) (by decide) (by decide)]; exact am1
    refine ⟨_, _, p, d, ac + 1, N_accessY (am := am) e1 e2 e3 e4 h7 p4.2.1 m0 c4.2.2 (by omega) a15, MD_acA p4 h7 (by rw [ln]; omega), by rw [upd_of (by decide)]; exact ff.2.2.1, fun _ => ⟨s7, rfl, by rw [acA_15, upd_at], by rw [acA_16, upd_at], by rw [acA_17, upd_at], by rw [acA_18, upd_at], fun k k1 k2 j hj => ?_, fun k k1 k2 => ?_⟩⟩
    · have hk : k = 16 ∨ k = 17 ∨ k = 18 := by omega
      rcases hk with e | e | e <;> rw [e]
      · rw [acA_16, upd_of (by omega), ff.2.2.2.2 16 (by decide) (by decide) (by decide)]
      · rw [acA_17, upd_of (by omega), ff.2.2.2.2 17 (by decide) (by decide) (by decide)]
      · rw [acA_18, upd_of (by omega), ff.2.2.2.2 18 (by decide) (by decide) (by decide)]
    · rw [acA_of (by omega) (by omega) (by omega) (by omega), ff.2.2.2.2 k (by omega) (by omega) (by omega)]
  · exact ⟨S4, A4, p, d, ac, N_accessD e1 e2 e3 e4 h7, p4, ff.2.2.1, fun z => by rw [h7] at z; exact absurd z (by decide)⟩
theorem MD_dead {wn : Nat → Int64} {f : Nat → Int32} {len : Nat} {R : Bool × jS × jR × jX} {S0 : Nat → Int32} {A0 : Nat → Nat → Int32} {N k bl m ac T ac' : Nat} {D D' : jR} {L L' : List (Int32 × Int32)} {S : Nat → Int32} {A : Nat → Nat → Int32} (q : MD wn f len R S0 A0 N k bl m ac T D L S A) (h7 : S 7 = Int32.ofNat 0) : MD wn f len R S0 A0 N k bl m ac' T D' L' S A := by
  obtain ⟨m1, m2, q⟩ := q
  rcases q with ⟨n, c, X, ws, q1, q2, -⟩ | q
  · have := Lv_go q2
    rw [h7] at this
    exact absurd this (by decide)
  · exact ⟨m1, m2, Or.inr q⟩
/-- a ninth access is refused by both -/
theorem md_eight {wn : Nat → Int64} {f : Nat → Int32} {len : Nat} {R : Bool × jS × jR × jX} {S0 : Nat → Int32} {A0 : Nat → Nat → Int32} {N k bl m ac T d1 fo st a8 : Nat} {L : List (Int32 × Int32)} {S : Nat → Int32} {A : Nat → Nat → Int32} (q : MD wn f len R S0 A0 N k bl m ac T (d1, fo, st, a8, false) L S A) (hd : dvT fo st = false) (hu : duT fo st = Int32.ofNat 65 ∨ duT fo st = Int32.ofNat 82) (h8 : 8 ≤ a8) (h7 : S 7 = Int32.ofNat 1) (h4 : S 4 = Int32.ofNat 1) (h5 : S 5 = Int32.ofNat 12 ∨ S 5 = Int32.ofNat 13) : MD wn f len R S0 A0 N k bl m ac T (d1, fo, st, a8, false) L (upd S 7 (Int32.ofNat 0)) A := by
  obtain ⟨m1, m2, q⟩ := q
  refine ⟨m1, by rw [upd_of (by decide)]; exact m2, ?_⟩
  rcases q with ⟨n, c, X, ws, q1, q2, q3, q4, q5, q6, q7⟩ | q
  · have tk := Lv_tk q2
    have z1 := rk_eq (by decide) (by decide) (tk.2.1.symm.trans h4)
    obtain ⟨i, i1, i2, i3, i4⟩ := tk.2.2.2.1 z1
    have ei : i = 11 ∨ i = 12 := by
      rw [i3, i_eq (by omega) (by decide), i_eq (by omega) (by decide)] at h5
      omega
    have ku := k_use i i1
    have ac : (tAc (adv wn f len c) (d1, fo, st + 1, a8, false) X).1 = false := by
      unfold tAc
      rw [if_neg (fun z => by have : a8 < 8 := z.1; omega), if_neg]
      unfold sSg
      rw [z1, decide_eq_false kn14, Bool.false_and]
      decide
    have est : (tSt (adv wn f len c) (d1, fo, st, a8, false) X).1 = false := by
      rw [tSt_eq]
      show (tSw (duT fo st) (adv wn f len c) (d1, fo, st + 1, a8, false) X).1 = _
      rcases hu with e | e
      · rw [e]; exact ac
      · rw [e]
        show (tTr (adv wn f len c) (d1, fo, st + 1, a8, false) X).1 = _
        unfold tTr
        rw [if_neg, if_neg]
        · exact ac
        · unfold sWd
          rw [i2, decide_eq_true (ku.2.2.mpr (by omega)), Bool.not_true, Bool.and_false]
          decide
        · unfold sWd
          rw [i2, decide_eq_true (ku.2.1.mpr (by omega)), Bool.not_true, Bool.and_false]
          decide
    have hd' : dOv (d1, fo, st, a8, false) = false := hd
    exact Or.inr (Dd_of q2 (fun _ => by rw [hd', cond_false, est]) (fun _ => dOv_row hd'))
  · rw [q.1] at h7
    exact absurd h7 (by decide)
