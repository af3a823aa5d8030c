/-! CALLS THAT ONLY ASK -/
theorem c_part {G : jx_Gv} {o E : Nat} {H : jx_H} (st : St G o E H) {i what : Int32} : ∃ x : Int32, jE G (109, 0, [some (.ref o), some (.int i), some (.int what), none, none], [], H) = some (some (.int x), H) ∧ jE G (111, 0, [some (.ref (o + 11)), some (.int i), some (.int what), none], [], H) = some (some (.int x), H) := by
  obtain ⟨kp, hand, T, c, D, f0, al, ed, xs, S, A, iv, rl⟩ := st
  rcases Rl_hd rl with ⟨e0, eh, e32, e33⟩ | ⟨e1, j, ws, j1, eh, ea, ej, e32, e33, hd⟩
  · have p := Iv_pt iv
    rw [eh] at p
    have z := N0_part (G := G) (h := H) (b := o + 11) (A := A) e32 e33 (i := i) (what := what)
    rw [Iv_hR iv] at z
    exact ⟨_, P0_part p, z⟩
  · have z := M_part (G := G) (Iv_rh iv e32 e33) (Hd_VW hd) (i := i) (what := what)
    rw [← part_eq (Hd_XY hd) (Hd_wf hd)] at z
    exact ⟨_, P_part (Iv_ed iv j j1 ea).1 (Hd_wf hd) (fun l => pt_rv (Iv_pt iv)) (Iv_hand iv j1 eh ea), z⟩
theorem c_port {G : jx_Gv} {o E : Nat} {H : jx_H} (st : St G o E H) {p i what : Int32} : ∃ x : Int32, jE G (115, 0, [some (.ref o), some (.int p), some (.int i), some (.int what), none, none], [], H) = some (some (.int x), H) ∧ jE G (119, 0, [some (.ref (o + 11)), some (.int p), some (.int i), some (.int what), none, none], [], H) = some (some (.int x), H) := by
  obtain ⟨kp, hand, T, c, D, f0, al, ed, xs, S, A, iv, rl⟩ := st
  rcases Rl_hd rl with ⟨e0, eh, e32, e33⟩ | ⟨e1, j, ws, j1, eh, ea, ej, e32, e33, hd⟩
  · have q := Iv_pt iv
    rw [eh] at q
    have z := N0_port (G := G) (h := H) (b := o + 11) (A := A) e32 e33 (p := p) (i := i) (what := what)
    rw [Iv_hR iv] at z
    exact ⟨_, P0_port q, z⟩
  · have z := M_port (G := G) (Iv_rh iv e32 e33) (Hd_VW hd) (p := p) (i := i) (what := what)
    rw [← port_eq (Hd_XY hd) (Hd_wf hd) (Hd_rs hd)] at z
    exact ⟨_, P_port (Iv_ed iv j j1 ea).1 (Hd_wf hd) (fun l => pt_rv (Iv_pt iv)) (Iv_hand iv j1 eh ea), z⟩
theorem c_runnable {G : jx_Gv} {o E : Nat} {H : jx_H} (st : St G o E H) {p i what : Int32} : ∃ x : Int32, jE G (127, 0, [some (.ref o), some (.int p), some (.int i), some (.int what), none, none], [], H) = some (some (.int x), H) ∧ jE G (130, 0, [some (.ref (o + 11)), some (.int p), some (.int i), some (.int what), none, none], [], H) = some (some (.int x), H) := by
  obtain ⟨kp, hand, T, c, D, f0, al, ed, xs, S, A, iv, rl⟩ := st
  rcases Rl_hd rl with ⟨e0, eh, e32, e33⟩ | ⟨e1, j, ws, j1, eh, ea, ej, e32, e33, hd⟩
  · have q := Iv_pt iv
    rw [eh] at q
    have z := N0_runnable (G := G) (h := H) (b := o + 11) (A := A) e32 e33 (p := p) (i := i) (what := what)
    rw [Iv_hR iv] at z
    exact ⟨_, P0_runnable q, z⟩
  · have z := M_runnable (G := G) (Iv_rh iv e32 e33) (Hd_VW hd) (Hd_AA hd) (p := p) (i := i) (what := what)
    rw [← runq_eq (Hd_XY hd) (Hd_wf hd) (Hd_Bk hd) (Hd_Rn hd)] at z
    exact ⟨_, P_runnable (Iv_ed iv j j1 ea).1 (Hd_wf hd) (fun l => pt_rv (Iv_pt iv)) (Iv_hand iv j1 eh ea), z⟩
theorem c_connector {G : jx_Gv} {o E : Nat} {H : jx_H} (st : St G o E H) {i what : Int32} : ∃ x : Int32, jE G (135, 0, [some (.ref o), some (.int i), some (.int what), none, none], [], H) = some (some (.int x), H) ∧ jE G (137, 0, [some (.ref (o + 11)), some (.int i), some (.int what), none, none, none], [], H) = some (some (.int x), H) := by
  obtain ⟨kp, hand, T, c, D, f0, al, ed, xs, S, A, iv, rl⟩ := st
  rcases Rl_hd rl with ⟨e0, eh, e32, e33⟩ | ⟨e1, j, ws, j1, eh, ea, ej, e32, e33, hd⟩
  · have q := Iv_pt iv
    rw [eh] at q
    have z := N0_connector (G := G) (h := H) (b := o + 11) (A := A) e32 e33 (i := i) (what := what)
    rw [Iv_hR iv] at z
    exact ⟨_, P0_connector q, z⟩
  · have z := M_connector (G := G) (Iv_rh iv e32 e33) (Hd_VW hd) (i := i) (what := what)
    rw [← conq_eq (Hd_XY hd) (Hd_wf hd) (Hd_rs hd) (Hd_Bk hd) (Hd_BB hd)] at z
    exact ⟨_, P_connector (Iv_ed iv j j1 ea).1 (Hd_wf hd) (fun l => pt_rv (Iv_pt iv)) (Iv_hand iv j1 eh ea), z⟩
theorem c_unit {G : jx_Gv} {o E : Nat} {H : jx_H} (st : St G o E H) {p q side : Int32} : ∃ x : Int32, jE G (168, 0, [some (.ref o), some (.int p), some (.int q), some (.int side), none, none, none, none, none, none], [], H) = some (some (.int x), H) ∧ jE G (170, 0, [some (.ref (o + 11)), some (.int p), some (.int q), some (.int side), none, none, none, none, none, none, none, none], [], H) = some (some (.int x), H) := by
  obtain ⟨kp, hand, T, c, D, f0, al, ed, xs, S, A, iv, rl⟩ := st
  rcases Rl_hd rl with ⟨e0, eh, e32, e33⟩ | ⟨e1, j, ws, j1, eh, ea, ej, e32, e33, hd⟩
  · have r := Iv_pt iv
    rw [eh] at r
    have z := N0_unit (G := G) (h := H) (b := o + 11) (A := A) e32 e33 (p := p) (q := q) (side := side)
    rw [Iv_hR iv] at z
    exact ⟨_, P0_unit r, z⟩
  · exact unit_eq (Iv_ed iv j j1 ea).1 (Hd_wf hd) (fun l => pt_rv (Iv_pt iv)) (Iv_hand iv j1 eh ea) (Iv_rh iv e32 e33) (Hd_VW hd) (Hd_XY hd) (Hd_Un hd)
theorem c_at {G : jx_Gv} {o E : Nat} {H : jx_H} (st : St G o E H) {i : Int32} : ∃ x : Int32, jE G (182, 0, [some (.ref o), some (.int i)], [], H) = some (some (.int x), H) ∧ jE G (183, 0, [some (.ref (o + 11)), some (.int i)], [], H) = some (some (.int x), H) := by
  obtain ⟨kp, hand, T, c, D, f0, al, ed, xs, S, A, iv, rl⟩ := st
  have tx := Iv_tx iv
  have z := N_at (G := G) (h := H) (b := o + 11) (A := A) (Rl_s0 rl) tx.2.2 (x := i)
  rw [Iv_hR iv, toc_cg (Rl_a1 rl)] at z
  exact ⟨_, P_at tx (Iv_pt iv), z⟩
theorem Hd_cg {wn : Nat → Int64} {X : jX} {B B' : Nat → Nat → Int32} {ws : Nat → Nat} (q : Hd wn X B ws) (h : ∀ k : Nat, 4 ≤ k → k ≤ 20 → B' k = B k) : Hd wn X B' ws := by
  refine ⟨Hd_wf q, Hd_rs q, Hd_tl q, Hd_nt q, fun r h1 h2 => RowOk_mono (fun k k1 k2 => by rw [h k k1 (by omega)]) (fun k k1 k2 j _ => by rw [h k (by omega) (by omega)]) (Nat.le_refl _) (by decide) rfl rfl rfl (fun _ => rfl) (Hd_rw q r h1 h2), Hd_w0 q, fun j hj => by rw [h 20 (by decide) (by decide)]; exact Hd_wa q j hj, Hd_wl q, fun r h1 h2 => by rw [h 19 (by decide) (by decide)]; exact Hd_tx q r h1 h2⟩
theorem Kp_cg {A A' : Nat → Nat → Int32} {Z : jX} {e : Nat} (q : Kp A Z e) (h : ∀ k : Nat, 38 ≤ k → k ≤ 41 → A' k = A k) : Kp A' Z e := by
  obtain ⟨C, vs, q1, q2, q3, q4, q5⟩ := q
  refine ⟨C, vs, q1, ?_, fun i hi => ?_, fun i hi => ?_, fun i hi => ?_⟩
  · rw [h 38 (by decide) (by decide)]; exact q2
  · rw [h 39 (by decide) (by decide)]; exact q3 i hi
  · rw [h 40 (by decide) (by decide)]; exact q4 i hi
  · rw [h 41 (by decide) (by decide)]; exact q5 i hi
/-- text and what is seen may change; the rest stands -/
theorem Rl_ch {kp : Nat} {hand : Int32} {T T' : jTt} {al : Nat → Bool} {xs : Nat → jX} {S S' : Nat → Int32} {A A' : Nat → Nat → Int32} {E : Nat} (q : Rl kp hand T al xs S A E) (s51 : S' 51 = S 51) (s32 : S' 32 = S 32) (s33 : S' 33 = S 33) (s0 : S' 0 = Int32.ofNat T'.2.1) (a1 : ∀ i : Nat, i < T'.2.1 → A' 1 i = T'.1 i) (oc : fOct T'.1 T'.2.1) (hA : ∀ k : Nat, k ≠ 1 → k ≠ 42 → A' k = A k) : Rl kp hand T' al xs S' A' E := by
  refine ⟨s51.trans (Rl_e q), Rl_kp q, s0, a1, oc, fun n hn => by rw [hA 2 (by decide) (by decide)]; exact Rl_ln q n hn, ?_, fun e he => ⟨(Rl_ke q e he).1, Kp_cg (Rl_ke q e he).2 (fun k k1 k2 => hA k (by omega) (by omega))⟩⟩
  rw [s32, s33]
  rcases Rl_hd q with z | ⟨e1, j, ws, j1, eh, ea, ej, e32, e33, hd⟩
  · exact Or.inl z
  · exact Or.inr ⟨e1, j, ws, j1, eh, ea, ej, e32, e33, Hd_cg hd (fun k k1 k2 => hA (k + 17) (by omega) (by omega))⟩
theorem hR_seen {h : jx_H} {b : Nat} {S : Nat → Int32} {A : Nat → Nat → Int32} {g : Nat → Int32} : hs (hR h b S A) (b + 42) (.inr (3, 120, .inl g)) = hR h b S (upA A 42 g) := by
  have e : jx_up (hR h b S A).2.2 (b + 42) (.inr (3, 120, .inl g)) = (hR h b S (upA A 42 g)).2.2 := by
    funext q
    unfold jx_up
    by_cases c1 : q = b + 42
    · rw [if_pos c1, c1, hR_k (k := 42) (by decide) (by decide), upA_at]
      rfl
    · rw [if_neg c1]
      by_cases c2 : q < b ∨ b + 42 < q
      · rw [hR_ne c2, hR_ne c2]
      · by_cases c3 : q = b
        · rw [c3, hR_b, hR_b]
        · obtain ⟨k, rfl⟩ : ∃ k, q = b + k := ⟨q - b, by omega⟩
          rw [hR_k (k := k) (by omega) (by omega), hR_k (k := k) (by omega) (by omega), upA_of (by omega)]
  show (h.1, h.2.1, jx_up (hR h b S A).2.2 (b + 42) (.inr (3, 120, .inl g))) = _
  rw [e]
  rfl
theorem c_check {G : jx_Gv} {o E : Nat} {H : jx_H} (st : St G o E H) : ∃ (x : Int32) (H1 H2 : jx_H), jE G (153, 0, [some (.ref o), none], [], H) = some (some (.int x), H1) ∧ jE G (166, 0, [some (.ref (o + 11)), none, none], [], H1) = some (some (.int x), H2) ∧ (∀ l : List Value, jx_recv H1 (.ref (o + 11) :: l) (some 8) = true) ∧ St G o E H2 := by
  obtain ⟨kp, hand, T, c, D, f0, al, ed, xs, S, A, iv, rl⟩ := st
  rcases Rl_hd rl with ⟨e0, eh, e32, e33⟩ | ⟨e1, j, ws, j1, eh, ea, ej, e32, e33, hd⟩
  · have r := Iv_pt iv
    rw [eh] at r
    have z := N0_check (G := G) (h := H) (b := o + 11) (A := A) e32 e33
    rw [Iv_hR iv] at z
    exact ⟨_, H, H, P_check0 r, z, fun l => c_rv (Iv_r0 iv), kp, hand, T, c, D, f0, al, ed, xs, S, A, iv, rl⟩
  · have ie := Iv_ed iv j j1 ea
    obtain ⟨f1, e2⟩ := P_check1 (G := G) (Iv_pt iv) ie.1 (Hd_wf hd) (Iv_rl iv) (by omega) (Iv_hand iv j1 eh ea)
    have iv1 := Iv_rule (f1 := f1) iv
    have sn : jSn (hr H (o + 8) f1) (o + 11) (A 42) := by
      refine ⟨?_, Iv_rk iv1 42 (by decide) (by decide)⟩
      have z := ra_seen (h := hr H (o + 8) f1) (b := o + 11) (S := S) (A := A)
      rw [Iv_hR iv1] at z
      exact z
    obtain ⟨g1, e3⟩ := M_check (G := G) (Iv_rh iv1 e32 e33) (Hd_VW hd) (Hd_In hd) sn
    have ec := chk_eq (Hd_XY hd) (Hd_wf hd) (Hd_rs hd) (Hd_Bk hd) (xRc (xs j)) 0 (Nat.zero_add _)
    have ex : vN (yA (xRc (xs j)) (hv A)) = xRc (xs j) := rfl
    rw [ex, ← ec] at e3
    have eh2 : hsn (hr H (o + 8) f1) (o + 11) g1 = hR (hr H (o + 8) f1) (o + 11) S (upA A 42 g1) := by
      have z := hR_seen (h := hr H (o + 8) f1) (b := o + 11) (S := S) (A := A) (g := g1)
      rw [Iv_hR iv1] at z
      exact z
    rw [eh2] at e3
    exact ⟨_, _, _, e2, e3, fun l => c_rv (Iv_r0 iv1), kp, hand, T, c, D, f1, al, ed, xs, S, upA A 42 g1, Iv_ref iv1, Rl_ch rl rfl rfl rfl (Rl_s0 rl) (fun i hi => by rw [upA_of (by decide)]; exact Rl_a1 rl i hi) (Rl_oc rl) (fun k k1 k2 => upA_of k2)⟩
