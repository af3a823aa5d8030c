/-! THE LAW FROM ITS BEGINNING -/
def hOo (G : jx_Gv) (n0 : Nat) : jx_H := hA (hA (n0, 0, fun _ => none) (pcs G (n0, 0, fun _ => none)) 2173) (rcs (n0 + 11)) 83848
theorem hO_p {G : jx_Gv} {n0 k : Nat} (hk : k < 11) : (hOo G n0).2.2 (n0 + k) = (pcs G (n0, 0, fun _ => none))[k]? := by
  unfold hOo
  rw [hA_ne (Or.inl (show n0 + k < n0 + 11 by omega))]
  exact hA_at (h := (n0, 0, fun _ => none)) hk
theorem hO_r {G : jx_Gv} {n0 k : Nat} (hk : k < 43) : (hOo G n0).2.2 (n0 + 11 + k) = (rcs (n0 + 11))[k]? := hA_at (h := hA (n0, 0, fun _ => none) (pcs G (n0, 0, fun _ => none)) 2173) (by rw [rcs_n]; exact hk)
theorem hO_Iv {G : jx_Gv} {n0 : Nat} : Iv G n0 (hOo G n0) 0 (-(Int32.ofNat 1)) (fun _ => 0, 0, false) (0, 1, Int32.ofNat 6, Int32.ofNat 0, 0) (0, 1, 0, 0, false) (fun _ => 0) (fun _ => false) (fun _ => 0) (fun _ => x00) (fun _ => 0) (fun _ _ => 0) := by
  refine ⟨(hO_p (k := 0) (by decide)), ⟨hO_p (k := 1) (by decide), hO_p (k := 2) (by decide)⟩, ⟨hO_p (k := 3) (by decide), hO_p (k := 4) (by decide), Nat.zero_le _⟩, hO_p (k := 5) (by decide), hO_p (k := 6) (by decide), hO_p (k := 7) (by decide), ⟨hO_p (k := 8) (by decide), hO_p (k := 9) (by decide)⟩, hO_p (k := 10) (by decide), hO_r (k := 0) (by decide), fun k h1 h2 => (hO_r (by omega)).trans (rcs_k h1 h2), fun i h1 h2 => (by cases h2), fun i j h1 h2 h3 h4 h5 => (by cases h4), Nat.zero_le _, ?_, ?_⟩
  · show n0 + 11 + (rcs (n0 + 11)).length = n0 + 54 + 9 * cb (fun _ => false) 10
    rw [rcs_n]
    rfl
  · show 0 + 2173 + 83848 ≤ _
    decide
theorem hO_Rl : Rl 0 (-(Int32.ofNat 1)) (fun _ => 0, 0, false) (fun _ => false) (fun _ => x00) (fun _ => 0) (fun _ _ => 0) 0 := ⟨rfl, rfl, rfl, fun i hi => absurd hi (Nat.not_lt_zero _), fun i hi => absurd hi (Nat.not_lt_zero _), fun n _ => ⟨0, by decide, rfl⟩, Or.inl ⟨rfl, rfl, rfl, rfl⟩, fun e he => absurd he (Nat.not_lt_zero _)⟩
theorem law_ok {G : jx_Gv} {n0 : Nat} (hG : jLt G) (hl : G.2.2.1.2.1 ≤ 2048) : ∃ h' : jx_H, jE G (191, 0, [some (.ref G.2.2.1.1), none, none, none], [], (n0, 0, fun _ => none)) = some (some (.int 1), h') ∧ h'.1 ≤ n0 + 600000 ∧ h'.2.1 ≤ 7302250 := by
  obtain ⟨H', e, z⟩ := lw_loop (o := n0) hG hl 512 0 0 (hOo G n0) (by omega) (by omega) (Nat.le_refl _) ⟨_, _, _, _, _, _, _, _, _, _, _, hO_Iv, hO_Rl⟩
  refine ⟨H', ?_, z⟩
  refine Eq.trans ?_ e
  refine (e_191_0 (G := G)).trans ?_
  refine (bnd (f := _) rfl).trans ?_
  refine (if_pos (c_rv (jx_up_eq _ _ _))).trans ?_
  refine (bnd (P_init (h := (n0, 0, fun _ => none)) hG)).trans ?_
  refine (e_191_7 (G := G)).trans ?_
  refine (bnd (f := _) rfl).trans ?_
  refine (if_pos (c_rv (jx_up_eq _ _ _))).trans ?_
  refine (bnd (R_init (h := hA (n0, 0, fun _ => none) (pcs G (n0, 0, fun _ => none)) 2173))).trans ?_
  refine (e_191_15 (G := G)).trans ?_
  rfl
