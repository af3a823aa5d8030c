/-! SIGN, PRINT, COMPARE -/
theorem and255 (y : Int32) : ∃ n : Nat, n < 256 ∧ y &&& Int32.ofNat 255 = Int32.ofNat n := by
  refine ⟨ntf (y &&& Int32.ofNat 255), ?_, (ofn_ntf _).symm⟩
  unfold ntf
  rw [Int32.toBitVec_and, BitVec.toNat_and]
  have z : (Int32.ofNat 255).toBitVec.toNat = 255 := by decide
  rw [z]
  exact Nat.lt_succ_of_le Nat.and_le_right
def agT (T U : jTt) : Prop := T.2.1 = U.2.1 ∧ T.2.2 = U.2.2 ∧ T.2.1 ≤ 2000 ∧ (∀ i : Nat, i < T.2.1 → U.1 i = T.1 i) ∧ fOct T.1 T.2.1
theorem agT_put {T U : jTt} {x : Int32} (h : agT T U) (hx : ∃ n : Nat, n < 256 ∧ x = Int32.ofNat n) : agT (tput T x) (tput U x) := by
  obtain ⟨h1, h2, h3, h4, h5⟩ := h
  unfold tput
  rw [← h1, ← h2]
  by_cases c : T.2.1 < 2000
  · rw [if_pos c, if_pos c]
    refine ⟨rfl, rfl, (show T.2.1 + 1 ≤ 2000 by omega), fun i hi => ?_, fun i hi => ?_⟩
    · have hi' : i < T.2.1 + 1 := hi
      show upd U.1 T.2.1 x i = upd T.1 T.2.1 x i
      by_cases e : i = T.2.1
      · rw [e, upd_at, upd_at]
      · rw [upd_of e, upd_of e, h4 i (by omega)]
    · have hi' : i < T.2.1 + 1 := hi
      show ∃ n : Nat, n < 256 ∧ upd T.1 T.2.1 x i = Int32.ofNat n
      by_cases e : i = T.2.1
      · rw [e, upd_at]; exact hx
      · rw [upd_of e]; exact h5 i (by omega)
  · rw [if_neg c, if_neg c]
    exact ⟨rfl, rfl, h3, h4, h5⟩
theorem agT_1 {T U : jTt} {x : Int32} {k : Nat} (h : agT T U) : agT (sign1 T x k) (sign1 U x k) := by
  unfold sign1
  by_cases c : soct x k = Int32.ofNat 0
  · rw [if_pos c, if_pos c]
    exact h
  · rw [if_neg c, if_neg c]
    exact agT_put h (and255 _)
theorem agT_signs {T U : jTt} {x : Int32} (h : agT T U) : agT (signs T x) (signs U x) := agT_1 (agT_1 (agT_1 (agT_1 h)))
theorem c_sign {G : jx_Gv} {o E : Nat} {H : jx_H} (st : St G o E H) {x : Int32} : ∃ H1 H2 : jx_H, jE G (19, 0, [some (.ref o), some (.int x), none, none], [], H) = some (none, H1) ∧ jE G (20, 0, [some (.ref (o + 11)), some (.int x), none, none], [], H1) = some (none, H2) ∧ (∀ l : List Value, jx_recv H1 (.ref (o + 11) :: l) (some 8) = true) ∧ St G o E H2 := by
  obtain ⟨kp, hand, T, c, D, f0, al, ed, xs, S, A, iv, rl⟩ := st
  have tx := Iv_tx iv
  have ag : agT T (A 1, T.2.1, T.2.2) := ⟨rfl, rfl, tx.2.2, Rl_a1 rl, Rl_oc rl⟩
  have ag' := agT_signs (x := x) ag
  have p := P_sign (G := G) (h := H) (T := T) (c := x) (Iv_pt iv) (by omega) tx.2.2
  rw [show hT H (o + 3) T = H from hT_id tx] at p
  have iv1 := Iv_text (T' := signs T x) iv ag'.2.2.1
  have z := N_sign (G := G) (h := hT H (o + 3) (signs T x)) (b := o + 11) (S := S) (A := A) (c := x) (T := (A 1, T.2.1, T.2.2)) tx.2.2 (show S 0 = Int32.ofNat T.2.1 from Rl_s0 rl) rfl
  rw [Iv_hR iv1] at z
  refine ⟨_, _, p, z, fun l => c_rv (Iv_r0 iv1), kp, hand, signs T x, c, D, f0, al, ed, xs, _, _, Iv_ref iv1, Rl_ch rl (upd_of (by decide)) (upd_of (by decide)) (upd_of (by decide)) ?_ (fun i hi => ?_) ag'.2.2.2.2 (fun k k1 k2 => upA_of k1)⟩
  · rw [upd_at]
    show Int32.ofNat (signs (A 1, T.2.1, T.2.2) x).2.1 = _
    rw [ag'.1]
  · rw [upA_at]
    exact ag'.2.2.2.1 i hi
section HDM
variable {wn : Nat → Int64} {X : jX} {B : Nat → Nat → Int32} {ws : Nat → Nat}
theorem Hd_m1 (q : Hd wn X B ws) {i : Nat} (hi : i < xRc X) : ws i ≤ ws (i + 1) := by
  have z := (Hd_tx q (i + 1) (by omega) (by omega)).1
  rw [Nat.add_sub_cancel] at z
  omega
theorem Hd_mono (q : Hd wn X B ws) : ∀ d i : Nat, i + d ≤ xRc X → ws i ≤ ws (i + d)
  | 0, _, _ => Nat.le_refl _
  | d + 1, i, h => Nat.le_trans (Hd_mono q d i (by omega)) (Hd_m1 q (i := i + d) (by omega))
theorem Hd_le (q : Hd wn X B ws) {i : Nat} (hi : i ≤ xRc X) : ws i ≤ 6000 := by
  have z := Hd_mono q (xRc X - i) i (by omega)
  rw [show i + (xRc X - i) = xRc X by omega] at z
  exact Nat.le_trans z (Hd_wl q)
end HDM
def oct (x : Int32) : Prop := ∃ n : Nat, n < 256 ∧ x = Int32.ofNat n
theorem dg_oct {n : Nat} : ∀ x, x ∈ dg100000 n → oct x := fun x hx => waln_oct (by
  have z := List.all_eq_true.mp (dg_all n) x hx
  unfold waln
  rw [z, Bool.or_true])
theorem tfm_oct {X : jX} {t : Int32 × Int32} {l : List Int32} (h : tfm X t l) : ∀ x, x ∈ l → oct x := by
  intro x hx
  rcases h with ⟨a1, -⟩ | ⟨-, n, -, -, a4⟩ | ⟨-, n, -, -, a4⟩ | ⟨-, a2, a3, -⟩
  · exact waln_oct (List.all_eq_true.mp a1 x hx)
  · rw [a4] at hx
    exact dg_oct x hx
  · rw [a4] at hx
    rcases List.mem_cons.mp hx with e | hx
    · exact ⟨45, by decide, e⟩
    rcases List.mem_cons.mp hx with e | hx
    · exact ⟨32, by decide, e⟩
    · exact dg_oct x hx
  · rw [a2] at hx
    rw [List.mem_singleton.mp hx]
    unfold rsg at a3
    simp only [Bool.or_eq_true, decide_eq_true_eq] at a3
    rcases a3 with e | e | e | e | e | e | e | e <;> exact ⟨_, by decide, e⟩
theorem jt_oct {wn : Nat → Int64} {X : jX} : ∀ L : List (Int32 × Int32), (∀ t, t ∈ L → tfm X t (tkt wn X t)) → ∀ x, x ∈ jt wn X L → oct x
  | [], _, x, hx => absurd hx List.not_mem_nil
  | t :: L, h, x, hx => by
    have hx' : x ∈ Int32.ofNat 32 :: (tkt wn X t ++ jt wn X L) := hx
    rcases List.mem_cons.mp hx' with e | hx'
    · exact ⟨32, by decide, e⟩
    rcases List.mem_append.mp hx' with e | e
    · exact tfm_oct (h t (List.mem_cons_self ..)) x e
    · exact jt_oct L (fun u hu => h u (List.mem_cons_of_mem _ hu)) x e
theorem rows_oct {wn : Nat → Int64} {X : jX} {B : Nat → Nat → Int32} {ws : Nat → Nat} (hw : wnOk wn) (q : Hd wn X B ws) : ∀ d j : Nat, j + d = xRc X → ∀ x, x ∈ rowsO wn X d j → oct x
  | 0, _, _, x, hx => absurd hx List.not_mem_nil
  | d + 1, j, hj, x, hx => by
    have hx' : x ∈ rowO wn X (j + 1) ++ [Int32.ofNat 10] ++ rowsO wn X d (j + 1) := hx
    rcases List.mem_append.mp hx' with e | e
    · rcases List.mem_append.mp e with e | e
      · rw [rowO_jjn (by omega) (by omega)] at e
        have fm := Hd_fm hw q (r := j + 1) (by omega) (by omega)
        have z := jt_oct (wn := wn) (tks X (j + 1)) fm x
        generalize tks X (j + 1) = L at *
        cases L with
        | nil => exact absurd e List.not_mem_nil
        | cons t L => exact z (List.mem_cons_of_mem _ e)
      · exact ⟨10, by decide, List.mem_singleton.mp e⟩
    · exact rows_oct hw q d (j + 1) (by omega) x e
theorem c_print {G : jx_Gv} {o E : Nat} {H : jx_H} (st : St G o E H) : ∃ (x : Int32) (H1 H2 : jx_H), jE G (180, 0, [some (.ref o), none], [], H) = some (some (.int x), H1) ∧ jE G (181, 0, [some (.ref (o + 11)), none, none], [], H1) = some (some (.int x), H2) ∧ (∀ l : List Value, jx_recv H1 (.ref (o + 11) :: l) (some 8) = true) ∧ St G o E H2 := by
  obtain ⟨kp, hand, T, c, D, f0, al, ed, xs, S, A, iv, rl⟩ := st
  rcases Rl_hd rl with ⟨e0, eh, e32, e33⟩ | ⟨e1, j, ws, j1, eh, ea, ej, e32, e33, hd⟩
  · have r := Iv_pt iv
    rw [eh] at r
    have z := N0_print (G := G) (h := H) (b := o + 11) (A := A) e32 e33
    rw [Iv_hR iv] at z
    exact ⟨_, H, H, P0_print r, z, fun l => c_rv (Iv_r0 iv), kp, hand, T, c, D, f0, al, ed, xs, S, A, iv, rl⟩
  · have ie := Iv_ed iv j j1 ea
    have tx := Iv_tx iv
    have idT : hT H (o + 3) T = H := hT_id tx
    have p := P_print (G := G) (h := H) (T := T) ie.1 (Hd_wf hd) (Iv_wr iv) (Iv_wd iv) (Hd_nu hd) (by omega) (by omega) (by omega) (Iv_pt iv) (by omega) tx.2.2 (by rw [idT]; exact Iv_hand iv j1 eh ea)
    rw [idT] at p
    obtain ⟨pc1, pc2⟩ := pr_class hd (g := T.1)
    obtain ⟨-, qc2⟩ := pr_class hd (g := A 1)
    have hA : ∀ i : Nat, i ≤ xRc (xs j) → A 37 i = Int32.ofNat (ws i) ∧ ws i ≤ 6000 := fun i hi => ⟨Hd_wa hd i hi, Hd_le hd hi⟩
    by_cases ov : 2000 < ws (xRc (xs j)) + xRc (xs j)
    · rw [pc1 ov, cond_true, cond_true] at p
      have iv1 := Iv_text (T' := ((tputs (T.1, 0, false) (rowsO wn0 (xs j) (xRc (xs j)) 0)).1, 0, false)) iv (Nat.zero_le _)
      have z := N_print (G := G) (h := hT H (o + 3) ((tputs (T.1, 0, false) (rowsO wn0 (xs j) (xRc (xs j)) 0)).1, 0, false)) (b := o + 11) (S := S) (A := A) (at' := ws) e32 e33 (Hd_wf hd).1 hA (fun i hi => Hd_m1 hd hi) (Hd_w0 hd)
      rw [Iv_hR iv1, if_pos ov] at z
      exact ⟨_, _, _, p, z, fun l => c_rv (Iv_r0 iv1), kp, hand, _, c, D, f0, al, ed, xs, _, _, Iv_ref iv1, Rl_ch rl (upd_of (by decide)) (upd_of (by decide)) (upd_of (by decide)) upd_at (fun i hi => absurd hi (Nat.not_lt_zero _)) (fun i hi => absurd hi (Nat.not_lt_zero _)) (fun k k1 k2 => upA_of k1)⟩
    · obtain ⟨t1, t2⟩ := pc2 ov
      obtain ⟨-, s2⟩ := qc2 ov
      rw [t1, cond_false, cond_false] at p
      have iv1 := Iv_text (T' := ((wps (T.1, 0) (prows (hv A 19) ws (xRc (xs j)) 0)).1, ws (xRc (xs j)) + xRc (xs j), false)) iv (by show ws (xRc (xs j)) + xRc (xs j) ≤ 2000; omega)
      have z := N_print (G := G) (h := hT H (o + 3) ((wps (T.1, 0) (prows (hv A 19) ws (xRc (xs j)) 0)).1, ws (xRc (xs j)) + xRc (xs j), false)) (b := o + 11) (S := S) (A := A) (at' := ws) e32 e33 (Hd_wf hd).1 hA (fun i hi => Hd_m1 hd hi) (Hd_w0 hd)
      rw [Iv_hR iv1, if_neg ov] at z
      have s2' : (wps (A 1, 0) (prows (A 36) ws (xRc (xs j)) 0)).2 = ws (xRc (xs j)) + xRc (xs j) := s2
      rw [s2'] at z
      have ll : (prows (A 36) ws (xRc (xs j)) 0).length = ws (xRc (xs j)) + xRc (xs j) := by
        have w : (wps (A 1, 0) (prows (A 36) ws (xRc (xs j)) 0)).2 = 0 + (prows (A 36) ws (xRc (xs j)) 0).length := wps_len
        omega
      have hi1 := wps_hi (l := prows (A 36) ws (xRc (xs j)) 0) (q := (A 1, 0))
      have hi2 := wps_hi (l := prows (A 36) ws (xRc (xs j)) 0) (q := (T.1, 0))
      refine ⟨_, _, _, p, z, fun l => c_rv (Iv_r0 iv1), kp, hand, _, c, D, f0, al, ed, xs, _, _, Iv_ref iv1, Rl_ch rl (upd_of (by decide)) (upd_of (by decide)) (upd_of (by decide)) (by rw [upd_at, s2']) (fun i hi => ?_) (fun i hi => ?_) (fun k k1 k2 => upA_of k1)⟩
      · have hi' : i < ws (xRc (xs j)) + xRc (xs j) := hi
        have w1 := hi1 i (by omega)
        have w2 := hi2 i (by omega)
        rw [show ((A 1, 0) : (Nat → Int32) × Nat).2 + i = i from Nat.zero_add i] at w1
        rw [show ((T.1, 0) : (Nat → Int32) × Nat).2 + i = i from Nat.zero_add i] at w2
        rw [upA_at]
        exact w1.trans w2.symm
      · have hi' : i < ws (xRc (xs j)) + xRc (xs j) := hi
        have w2 := hi2 i (by omega)
        rw [show ((T.1, 0) : (Nat → Int32) × Nat).2 + i = i from Nat.zero_add i] at w2
        have ro := rows_oct wn0_ok hd (xRc (xs j)) 0 (Nat.zero_add _)
        have pe : prows (A 36) ws (xRc (xs j)) 0 = rowsO wn0 (xs j) (xRc (xs j)) 0 := prows_eq hd (xRc (xs j)) 0 (Nat.zero_add _)
        rw [← pe] at ro
        rw [gD_in (by omega)] at w2
        obtain ⟨n, n1, n2⟩ := ro _ (List.getElem_mem (by omega : i < (prows (A 36) ws (xRc (xs j)) 0).length))
        exact ⟨n, n1, w2.trans n2⟩
