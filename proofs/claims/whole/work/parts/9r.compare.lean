/-! COMPARE OF BOTH -/
theorem c_compare {G : jx_Gv} {o E : Nat} {H : jx_H} (st : St G o E H) (hE : E < 2147483648) {x : Int32} : ∃ y : Int32, jE G (188, 0, [some (.ref o), some (.int x), none, none], [], H) = some (some (.int y), H) ∧ jE G (190, 0, [some (.ref (o + 11)), some (.int x), none, none, none, none, none, none], [], H) = some (some (.int y), H) := by
  obtain ⟨kp, hand, T, c, D, f0, al, ed, xs, S, A, iv, rl⟩ := st
  have e51 := Rl_e rl
  have ekp := Rl_kp rl
  have n0 : ∀ hx : x < Int32.ofNat 1 ∨ Int32.ofNat 8 < x ∨ Int32.ofNat E < x, jE G (190, 0, [some (.ref (o + 11)), some (.int x), none, none, none, none, none, none], [], H) = some (some (.int (-(Int32.ofNat 1))), H) := by
    intro hx
    have z := N_compare0 (G := G) (h := H) (b := o + 11) (A := A) e51 hE hx
    rw [Iv_hR iv] at z
    exact z
  rcases Rl_hd rl with ⟨e0, eh, e32, e33⟩ | ⟨e1, j, ws, j1, eh, ea, ej, e32, e33, hd⟩
  · have r := Iv_pt iv
    rw [eh] at r
    refine ⟨_, P0_compare r, n0 ?_⟩
    by_cases c1 : x < Int32.ofNat 1
    · exact Or.inl c1
    · refine Or.inr (Or.inr ?_)
      rw [e0]
      rw [Int32.lt_iff_toInt_lt, i_to (by decide)] at c1 ⊢
      omega
  · have p := P_compare (G := G) (x := x) (Iv_pt iv) (Iv_sl iv) (by omega) (Iv_ed iv j j1 ea).1 (Hd_wf hd) (Iv_hand iv j1 eh ea) (Z := xs) (e := ed) (fun i hi => by
      obtain ⟨k1, C, vs, k2, -⟩ := Rl_ke rl i hi
      exact ⟨by rw [k1]; rfl, (Iv_ed iv i (by omega) k1).1, Hd_wf k2⟩)
    refine ⟨_, p, ?_⟩
    by_cases c1 : x < Int32.ofNat 1
    · rw [if_pos c1]
      exact n0 (Or.inl c1)
    rw [if_neg c1]
    by_cases c2 : Int32.ofNat kp < x
    · rw [if_pos c2]
      refine n0 (Or.inr ?_)
      by_cases c3 : E ≤ 8
      · have : kp = E := by omega
        rw [this] at c2
        exact Or.inr c2
      · have : kp = 8 := by omega
        rw [this] at c2
        exact Or.inl c2
    rw [if_neg c2]
    have c0 : ¬ x < Int32.ofNat 0 := by
      intro z
      apply c1
      rw [Int32.lt_iff_toInt_lt] at z ⊢
      rw [i_to (by decide)] at z ⊢
      omega
    obtain ⟨x1, x2⟩ := i_raw c0
    generalize x.toNatClampNeg = n at *
    subst x1
    rw [i_lt x2 (by decide)] at c1
    rw [i_lt (by omega) x2] at c2
    obtain ⟨e, rfl⟩ : ∃ e, n = e + 1 := ⟨n - 1, by omega⟩
    obtain ⟨k1, C, vs, k2, k3, k4, k5, k6⟩ := Rl_ke rl e (by omega)
    have aH : aOk A 37 0 (xRc (xs j)) ws := ⟨fun i hi => ⟨by rw [Nat.zero_add]; exact Hd_wa hd i hi, Hd_le hd hi⟩, fun i hi => Hd_m1 hd hi⟩
    have aK : aOk A 40 (121 * e) (xRc (xs e)) vs := ⟨fun i hi => ⟨k5 i hi, Hd_le k2 hi⟩, fun i hi => Hd_m1 k2 hi⟩
    have hB : ∀ i : Nat, i < xRc (xs j) → A 22 i = jm (xBl (xs j) (i + 1)) ∧ xBl (xs j) (i + 1) ≤ i := fun i hi => by
      obtain ⟨k, -, -, -, -, y5, y6, -⟩ := Hd_rw hd (i + 1) (by omega) (by omega)
      rw [Nat.add_sub_cancel] at y5
      exact ⟨y5, by omega⟩
    have hK : ∀ i : Nat, i < xRc (xs e) → A 39 (120 * e + i) = jm (xBl (xs e) (i + 1)) ∧ xBl (xs e) (i + 1) ≤ i := fun i hi => by
      obtain ⟨k, -, -, -, -, y5, y6, -⟩ := Hd_rw k2 (i + 1) (by omega) (by omega)
      exact ⟨k4 i hi, by omega⟩
    have z := N_compare (G := G) (h := H) (b := o + 11) (A := A) (ha := ws) (ea := vs) (hb := xBl (xs j)) (eb := xBl (xs e)) (n := xRc (xs j)) (m := xRc (xs e)) (e := e) (E := E) e33 e51 (by omega) hE aH aK (Hd_wf hd).1 (Hd_wf k2).1 (by omega) k3 hB hK
    rw [Iv_hR iv, cmp_eq wn0_ok hd k2 k6] at z
    exact z
