/-! WHAT IS IN HAND, IN BOTH -/
def hv (A : Nat → Nat → Int32) : Nat → Nat → Int32 := fun k => A (k + 17)
def Hd (wn : Nat → Int64) (X : jX) (B : Nat → Nat → Int32) (ws : Nat → Nat) : Prop := (xWF X) ∧ (xRes X) ∧ (∀ r : Nat, 1 ≤ r → r ≤ xRc X → tkL (xNc X) (tks X r)) ∧ (∀ i : Nat, i < xNc X → ∃ l : List Int32, l ≠ [] ∧ aln l ∧ l.length ≤ 12 ∧ nmG l ∧ xNa X i = Int64.ofNat (lcd l)) ∧ (∀ r : Nat, 1 ≤ r → r ≤ xRc X → RowOk B X 500 r) ∧ (ws 0 = 0) ∧ (∀ j : Nat, j ≤ xRc X → B 20 j = Int32.ofNat (ws j)) ∧ (ws (xRc X) ≤ 6000) ∧ (∀ r : Nat, 1 ≤ r → r ≤ xRc X → ws (r - 1) < ws r ∧ ws r = ws (r - 1) + (rowO wn X r).length ∧ sl (B 19) (ws (r - 1)) (rowO wn X r))
theorem Hd_wf {wn : Nat → Int64} {X : jX} {B : Nat → Nat → Int32} {ws : Nat → Nat} (q_ : Hd wn X B ws) : xWF X := q_.1
theorem Hd_rs {wn : Nat → Int64} {X : jX} {B : Nat → Nat → Int32} {ws : Nat → Nat} (q_ : Hd wn X B ws) : xRes X := q_.2.1
theorem Hd_tl {wn : Nat → Int64} {X : jX} {B : Nat → Nat → Int32} {ws : Nat → Nat} (q_ : Hd wn X B ws) : ∀ r : Nat, 1 ≤ r → r ≤ xRc X → tkL (xNc X) (tks X r) := q_.2.2.1
theorem Hd_nt {wn : Nat → Int64} {X : jX} {B : Nat → Nat → Int32} {ws : Nat → Nat} (q_ : Hd wn X B ws) : ∀ i : Nat, i < xNc X → ∃ l : List Int32, l ≠ [] ∧ aln l ∧ l.length ≤ 12 ∧ nmG l ∧ xNa X i = Int64.ofNat (lcd l) := q_.2.2.2.1
theorem Hd_rw {wn : Nat → Int64} {X : jX} {B : Nat → Nat → Int32} {ws : Nat → Nat} (q_ : Hd wn X B ws) : ∀ r : Nat, 1 ≤ r → r ≤ xRc X → RowOk B X 500 r := q_.2.2.2.2.1
theorem Hd_w0 {wn : Nat → Int64} {X : jX} {B : Nat → Nat → Int32} {ws : Nat → Nat} (q_ : Hd wn X B ws) : ws 0 = 0 := q_.2.2.2.2.2.1
theorem Hd_wa {wn : Nat → Int64} {X : jX} {B : Nat → Nat → Int32} {ws : Nat → Nat} (q_ : Hd wn X B ws) : ∀ j : Nat, j ≤ xRc X → B 20 j = Int32.ofNat (ws j) := q_.2.2.2.2.2.2.1
theorem Hd_wl {wn : Nat → Int64} {X : jX} {B : Nat → Nat → Int32} {ws : Nat → Nat} (q_ : Hd wn X B ws) : ws (xRc X) ≤ 6000 := q_.2.2.2.2.2.2.2.1
theorem Hd_tx {wn : Nat → Int64} {X : jX} {B : Nat → Nat → Int32} {ws : Nat → Nat} (q_ : Hd wn X B ws) : ∀ r : Nat, 1 ≤ r → r ≤ xRc X → ws (r - 1) < ws r ∧ ws r = ws (r - 1) + (rowO wn X r).length ∧ sl (B 19) (ws (r - 1)) (rowO wn X r) := q_.2.2.2.2.2.2.2.2
theorem ntf_jm {q : Nat} (h : q < 2147483648) : ntf (jm q + Int32.ofNat 1) = q := by
  unfold jm
  rw [Int32.sub_add_cancel, ntf_of h]
section HD
variable {wn : Nat → Int64} {X : jX} {B : Nat → Nat → Int32} {ws : Nat → Nat}
theorem Hd_row (q : Hd wn X B ws) {r : Nat} (h1 : 1 ≤ r) (h2 : r ≤ xRc X) : ∃ k : Nat, 1 ≤ k ∧ k < 14 ∧ xKi X r = Int32.ofNat (kb k) ∧ vK (yA (xRc X) B) r = Int32.ofNat k ∧ xBl X r = vB (yA (xRc X) B) r ∧ xBl X r < r ∧ (k ≤ 5 ↔ xBl X r = 0) ∧ (xBl X r ≠ 0 → xBl X (xBl X r) = 0) ∧ vAA (yA (xRc X) B) r + vAM (yA (xRc X) B) r ≤ 500 ∧ jRow X (yA (xRc X) B) r k ∧ (k = 10 → lw (tks X r) 0 = Int32.ofNat 256 ∧ lw (tks X r) 1 = Int32.ofNat 0 ∧ (B 13 (r - 1) = Int32.ofNat 1 → lw (tks X r) 3 = Int32.ofNat 0)) ∧ (k = 1 → ∃ m n : Nat, 1 ≤ m ∧ m ≤ 9999 ∧ 1 ≤ n ∧ n ≤ 9999 ∧ lv (tks X r) 3 = Int32.ofNat m ∧ lv (tks X r) 5 = Int32.ofNat n) := by
  obtain ⟨k, k1, k2, k3, k4, k5, k6, k7, k8, ⟨aa, am, k9, k10, k11⟩, k12, k13, k14, k15⟩ := Hd_rw q r h1 h2
  have hx := (Hd_wf q).1
  refine ⟨k, k1, k2, k3, k4, ?_, k6, k7, k8, ?_, jRow_of h1 h2 k12, k13, k14⟩
  · show xBl X r = ntf (B 5 (r - 1) + Int32.ofNat 1)
    rw [k5, ntf_jm (by omega)]
  · show ntf (B 14 (r - 1)) + ntf (B 15 (r - 1)) ≤ 500
    rw [k9, k10, ntf_of (by omega), ntf_of (by omega)]
    exact k11
theorem Hd_XY (q : Hd wn X B ws) : jXY X (yA (xRc X) B) := ⟨rfl, fun r h1 h2 => by
  obtain ⟨k, k1, k2, k3, k4, k5, k6, k7, k8, k9, k10, -⟩ := Hd_row q h1 h2
  exact ⟨k, k1, k2, k3, k4, k5, k10⟩⟩
theorem Hd_Bk (q : Hd wn X B ws) : jBk (yA (xRc X) B) := by
  intro r h1 h2 k hk e
  obtain ⟨k', k1, k2, k3, k4, k5, k6, k7, -⟩ := Hd_row q h1 h2
  rw [k4, i_eq (by omega) (by omega)] at e
  rw [← e, ← k5]
  exact k7
theorem Hd_BB (q : Hd wn X B ws) : jBB (yA (xRc X) B) := by
  intro r h1 h2 hb
  obtain ⟨k', k1, k2, k3, k4, k5, k6, k7, k8, -⟩ := Hd_row q h1 h2
  rw [← k5] at hb ⊢
  have h2' : r ≤ xRc X := h2
  obtain ⟨-, -, -, -, -, y5, -⟩ := Hd_row q (r := xBl X r) (by omega) (by omega)
  rw [← y5]
  exact k8 hb
theorem Hd_Rn (q : Hd wn X B ws) : jRn X (yA (xRc X) B) := by
  intro r h1 h2 hk
  obtain ⟨k', k1, k2, k3, k4, k5, k6, k7, k8, k9, k10, k11, k12⟩ := Hd_row q h1 h2
  rw [k4, i_eq (by omega) (by decide)] at hk
  rw [xword_tks h1 h2, xword_tks h1 h2, xword_tks h1 h2]
  exact k11 hk
theorem Hd_Un (q : Hd wn X B ws) : jUn X (yA (xRc X) B) := by
  intro r h1 h2 hk
  obtain ⟨k', k1, k2, k3, k4, k5, k6, k7, k8, k9, k10, k11, k12⟩ := Hd_row q h1 h2
  rw [k4, i_eq (by omega) (by decide)] at hk
  obtain ⟨m, n, m1, m2, n1, n2, e1, e2⟩ := k12 hk
  obtain ⟨y1, y2, y3⟩ := k10.2.2.1 (by omega)
  have e1' : xval X r 3 = Int32.ofNat m := by rw [xval_tks h1 h2]; exact e1
  have e2' : xval X r 5 = Int32.ofNat n := by rw [xval_tks h1 h2]; exact e2
  exact ⟨m, n, m1, m2, n1, n2, e1', e2', y1.trans e1', y2.trans e2', y3⟩
theorem Hd_VW (q : Hd wn X B ws) : vWF (yA (xRc X) B) := ⟨(Hd_wf q).1, fun r h1 h2 => by
  obtain ⟨k', k1, k2, k3, k4, k5, k6, k7, k8, k9, -⟩ := Hd_row q h1 h2
  exact ⟨by rw [← k5]; exact k6, by omega⟩⟩
theorem Hd_AA (q : Hd wn X B ws) : ∀ r : Nat, 1 ≤ r → r ≤ vN (yA (xRc X) B) → vTr (yA (xRc X) B) r = Int32.ofNat 2 → vAA (yA (xRc X) B) r < 600 := by
  intro r h1 h2 _
  obtain ⟨k', k1, k2, k3, k4, k5, k6, k7, k8, k9, -⟩ := Hd_row q h1 h2
  omega
theorem Hd_In (q : Hd wn X B ws) : vIn (yA (xRc X) B) := by
  intro r h1 h2 hk
  obtain ⟨k', k1, k2, k3, k4, k5, k6, k7, -⟩ := Hd_row q h1 h2
  rw [k4, i_eq (by omega) (by decide)] at hk
  rw [← k5]
  omega
theorem Hd_nu (q : Hd wn X B ws) : xNum X := by
  intro r k e
  by_cases h1 : 1 ≤ r ∧ r ≤ xRc X
  · rw [xsort_tks h1.1 h1.2] at e
    rw [xval_tks h1.1 h1.2]
    by_cases c : k < (tks X r).length
    · have hm : (tks X r)[k] ∈ tks X r := List.getElem_mem c
      unfold ls at e
      unfold lv
      rw [gD_in c] at e ⊢
      exact (Hd_tl q r h1.1 h1.2 _ hm).2.1 e
    · unfold ls at e
      rw [gD_out (by omega)] at e
      exact absurd e (by decide)
  · have e0 : xlen X r = 0 := if_pos (by omega)
    unfold xsort at e
    rw [e0, if_pos (Nat.zero_le _)] at e
    exact absurd e (by decide)
end HD
theorem jRh_hR {h : jx_H} {b n : Nat} {S : Nat → Int32} {A : Nat → Nat → Int32} (h32 : S 32 = Int32.ofNat 1) (h33 : S 33 = Int32.ofNat n) : jRh (hR h b S A) b (yA n (hv A)) := by
  have e22 : (fun i => jm (vB (yA n (hv A)) (i + 1))) = A 22 := by
    funext i
    show jm (ntf (A 22 i + Int32.ofNat 1)) = A 22 i
    unfold jm
    rw [ofn_ntf, Int32.add_sub_cancel]
  have e31 : (fun i => Int32.ofNat (vAA (yA n (hv A)) (i + 1))) = A 31 := by
    funext i
    exact ofn_ntf _
  have e32 : (fun i => Int32.ofNat (vAM (yA n (hv A)) (i + 1))) = A 32 := by
    funext i
    exact ofn_ntf _
  have e37 : (fun i => Int32.ofNat (vAt (yA n (hv A)) i)) = A 37 := by
    funext i
    exact ofn_ntf _
  unfold jRh
  rw [e22, e31, e32, e37]
  exact ⟨fun l => rr_v, by rw [rg_inHand, h32], by rw [rg_hRows, h33]; rfl, ra_hKind, ra_hBlock, ra_hGiven, ra_hSecond, ra_hThird, ra_hFourth, ra_hFifth, ra_hLow, ra_hHigh, ra_hTrigger, ra_hAccessAt, ra_hAccessMany, ra_hAccessKind, ra_hAccessPort, ra_hAccessDatum, ra_hText, ra_hAt, hR_k (k := 21) (by decide) (by decide), hR_k (k := 22) (by decide) (by decide), hR_k (k := 23) (by decide) (by decide), hR_k (k := 24) (by decide) (by decide), hR_k (k := 25) (by decide) (by decide), hR_k (k := 26) (by decide) (by decide), hR_k (k := 27) (by decide) (by decide), hR_k (k := 28) (by decide) (by decide), hR_k (k := 29) (by decide) (by decide), hR_k (k := 30) (by decide) (by decide), hR_k (k := 31) (by decide) (by decide), hR_k (k := 32) (by decide) (by decide), hR_k (k := 33) (by decide) (by decide), hR_k (k := 34) (by decide) (by decide), hR_k (k := 35) (by decide) (by decide), hR_k (k := 36) (by decide) (by decide), hR_k (k := 37) (by decide) (by decide)⟩
/-- a text read to its end comes in hand so -/
theorem Hd_fin {wn : Nat → Int64} {f : Nat → Int32} {len : Nat} {R : Bool × jS × jR × jX} {S0 : Nat → Int32} {A0 : Nat → Nat → Int32} {S : Nat → Int32} {A B : Nat → Nat → Int32} {n ac : Nat} {c : jS} {D : jR} {X : jX} {ws : Nat → Nat} (q : Lv wn f len R S0 A0 S A n c D X ws [] (xRc X) ac) (hl : len ≤ 2000) (h6 : S 4 ≠ Int32.ofNat 2) (h5 : S 4 ≠ Int32.ofNat 5) (b1 : ∀ k : Nat, 4 ≤ k → k ≤ 15 → ∀ j : Nat, j < xRc X → B k j = A k j) (b2 : ∀ k : Nat, 16 ≤ k → k ≤ 18 → ∀ j : Nat, j < ac → B k j = A k j) (b3 : ∀ j : Nat, j < ws (xRc X) → B 19 j = A 19 j) (b4 : ∀ j : Nat, j < xRc X → B 20 j = A 20 j) (b5 : B 20 (xRc X) = S 28) : Hd wn (xResolve X) B ws := by
  have fi := Lv_fi q
  have tx := Lv_tx q
  have tk := Lv_tk q
  have hac : ac ≤ 500 := by
    have z1 := (Lv_ac q).2
    have z2 := fi.2.1.2.1
    omega
  have wr := Lv_wr q
  have wl : ws (xRc X) ≤ 4000 := by
    have z1 : ws (xRc X) + 0 ≤ 2 * c.1 := wr.2
    have z2 := fi.1
    omega
  have hv0 : vOk X (xrl X (xRc X) 0 (xTa X)) := by
    have : ∀ (d j : Nat) (V : Nat → Nat), vOk X V → vOk X (xrl X d j V) := by
      intro d
      induction d with
      | zero => intro j V hV; exact hV
      | succ d ih =>
        intro j V hV
        unfold xrl
        refine ih (j + 1) _ ?_
        cases xas (xKi X (j + 1))
        · exact hV
        · exact vOk_up hV
    exact this _ _ _ (fun r h1 h2 => by rw [Lv_ta q r h1 h2]; exact Nat.zero_le _)
  refine ⟨xsTa_WF (xI_WF fi.2.1) hv0, xRes_of (Lv_ta q), fun r h1 h2 => (Lv_tl q r h1 h2 : tkL (xNc X) (tks X r)), ?_, fun r h1 h2 => ?_, Lv_w0 q, fun j hj => ?_, by show ws (xRc X) ≤ 6000; omega, fun r h1 h2 => ?_⟩
  · have nx : nxX (adv wn f len c) X = X := by
      refine if_neg fun e => h6 ?_
      rw [tk.2.1]
      exact rk_of (by decide) e
    have z := (tk.2.2.1 (fun e => h5 (by rw [tk.2.1]; exact rk_of (by decide) e))).2.2.1
    rw [nx] at z
    intro i hi
    obtain ⟨l, l1, l2, l3, lw', l4, -⟩ := z i hi
    exact ⟨l, l1, l2, l3, lw', l4⟩
  · have h2' : r ≤ xRc X := h2
    exact RowOk_mono (A := A) (A' := B) (X := X) (X' := xResolve X) (ac := ac) (fun k k1 k2 => b1 k k1 k2 (r - 1) (by omega)) (fun k k1 k2 j hj => b2 k k1 k2 j hj) hac (by omega) rfl rfl rfl (fun _ => rfl) (Lv_rw q r h1 h2')
  · have hj' : j ≤ xRc X := hj
    by_cases c1 : j = xRc X
    · rw [c1, b5]
      exact wr.1
    · rw [b4 j (by omega)]
      exact Lv_wa q j (by omega)
  · have h2' : r ≤ xRc X := h2
    obtain ⟨t1, t2, t3⟩ := tx r h1 h2'
    have er : rowO wn (xResolve X) r = jjn wn X (tks X r) := (rowO_jjn (X := xResolve X) h1 h2).trans (jjn_congr (X := X) (X' := xResolve X) (tks X r) (fun _ _ => rfl))
    rw [er]
    refine ⟨t1, t2, fun i hi => ?_⟩
    have mono := ws_mono (r := r) tx (xRc X) h2' (Nat.le_refl _)
    rw [b3 _ (by omega)]
    exact t3 i hi
