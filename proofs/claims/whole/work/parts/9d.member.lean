/-! ROWS WITHIN A BLOCK -/
theorem k_kb : ∀ j : Nat, j < 14 → ∀ k : Nat, k < 14 → (1 ≤ j ∧ 3 ≤ k ∧ k ≤ 5 ∧ Int32.ofNat (kb j) = Int32.ofNat (kb k)) → j = k := by decide +kernel
def tbm (kk j : Nat) : Bool := decide (kk = 0) || (decide (kk = 3 ∧ j + 1 = 4) || (decide (kk = 4 ∧ j + 1 = 6) || (decide (kk = 4 ∧ j + 1 = 7) || (decide (kk = 4 ∧ j + 1 = 8) || (decide (kk = 4 ∧ j + 1 = 9) || (decide (kk = 5 ∧ j + 1 = 5) || decide (kk = 5 ∧ j + 1 = 15)))))))
theorem k_tbm0 : ∀ kk : Nat, kk < 6 → ∀ j : Nat, j < 16 → ∀ k : Nat, k < 14 → tb kk j k = true → tbm kk j = true := by decide +kernel
theorem k_tbm (kk : Nat) (h1 : kk < 6) (j : Nat) (h2 : j < 16) (k : Nat) (h3 : k < 14) (h4 : tb kk j k = true) : kk = 0 ∨ (kk = 3 ∧ j + 1 = 4) ∨ (kk = 4 ∧ j + 1 = 6) ∨ (kk = 4 ∧ j + 1 = 7) ∨ (kk = 4 ∧ j + 1 = 8) ∨ (kk = 4 ∧ j + 1 = 9) ∨ (kk = 5 ∧ j + 1 = 5) ∨ (kk = 5 ∧ j + 1 = 15) := by
  have z := k_tbm0 kk h1 j h2 k h3 h4
  unfold tbm at z
  simp only [Bool.or_eq_true, decide_eq_true_eq] at z
  exact z
theorem k_tbs : ∀ j : Nat, j < 16 → ∀ k : Nat, k < 14 → tb 0 j k = true → j + 1 = 1 ∨ j + 1 = 2 ∨ j + 1 = 3 ∨ j + 1 = 5 ∨ j + 1 = 14 := by decide +kernel
theorem bK_of {wn : Nat → Int64} {f : Nat → Int32} {len : Nat} {R : Bool × jS × jR × jX} {S0 : Nat → Int32} {A0 : Nat → Nat → Int32} {N bl m ac : Nat} {S : Nat → Int32} {A : Nat → Nat → Int32} (q : Bt wn f len R S0 A0 N bl m ac S A) (hb : bl ≠ 0) : ∃ kk, bK A m bl kk := by
  obtain ⟨n, c, X, ws, D, n1, q2, q3, q4, q5, q6⟩ := q
  have z := Lv_bk q2 (by rw [q5]; exact hb)
  rw [q5] at z
  obtain ⟨-, kk, k1, k2, k3⟩ := z
  have le := (Lv_fi q2).2.2.1
  rw [q5, q3] at le
  obtain ⟨k', y1, y2, y3, y4, -⟩ := Lv_rw q2 bl (by omega) le
  have e := k_kb k' y2 kk (by omega) ⟨y1, k1, k2, y3.symm.trans k3⟩
  exact ⟨kk, Or.inr ⟨by omega, le, k1, k2, by rw [y4, e]⟩⟩
theorem Bt_pos {wn : Nat → Int64} {f : Nat → Int32} {len : Nat} {R : Bool × jS × jR × jX} {S0 : Nat → Int32} {A0 : Nat → Nat → Int32} {N bl m ac : Nat} {S : Nat → Int32} {A : Nat → Nat → Int32} (q : Bt wn f len R S0 A0 N bl m ac S A) : 1 ≤ N := by
  obtain ⟨n, c, X, ws, D, n1, q2, -⟩ := q
  have := Lv_fu q2
  have := (Lv_fi q2).1
  omega
theorem Bt_le {wn : Nat → Int64} {f : Nat → Int32} {len : Nat} {R : Bool × jS × jR × jX} {S0 : Nat → Int32} {A0 : Nat → Nat → Int32} {N M bl m ac : Nat} {S : Nat → Int32} {A : Nat → Nat → Int32} (q : Bt wn f len R S0 A0 N bl m ac S A) (h : N ≤ M) : Bt wn f len R S0 A0 M bl m ac S A := by
  obtain ⟨n, c, X, ws, D, n1, q2⟩ := q
  exact ⟨n, c, X, ws, D, by omega, q2⟩
theorem Bt_31 {wn : Nat → Int64} {f : Nat → Int32} {len : Nat} {R : Bool × jS × jR × jX} {S0 : Nat → Int32} {A0 : Nat → Nat → Int32} {N bl m ac : Nat} {S : Nat → Int32} {A : Nat → Nat → Int32} {x : Int32} (q : Bt wn f len R S0 A0 N bl m ac S A) : Bt wn f len R S0 A0 N bl m ac (upd S 31 x) A := by
  obtain ⟨n, c, X, ws, D, n1, q2, q3⟩ := q
  have u : ∀ j : Nat, j ≠ 31 → upd S 31 x j = S j := fun j hj => upd_of hj
  refine ⟨n, c, X, ws, D, n1, ?_, q3⟩
  exact ⟨Lv_fl q2, Lv_fu q2, Lv_fi q2, (u 0 (by decide)).trans (Lv_s0 q2), Lv_a1 q2, Lv_ln q2, Lv_pl q2, Tk_S (Lv_tk q2) (u 2 (by decide)) (u 3 (by decide)) (u 4 (by decide)) (u 5 (by decide)) (u 6 (by decide)) (u 8 (by decide)) rfl rfl, (u 7 (by decide)).trans (Lv_go q2), (u 11 (by decide)).trans (Lv_ro q2), Lv_w0 q2, ⟨(u 28 (by decide)).trans (Lv_wr q2).1, (Lv_wr q2).2⟩, Lv_wa q2, Lv_tx q2, Lv_xe q2, ⟨(u 24 (by decide)).trans (Lv_ac q2).1, (Lv_ac q2).2⟩, Fr_S (Lv_fr q2) (u 32 (by decide)) (u 33 (by decide)) (u 51 (by decide)) (fun _ _ => rfl), Lv_ta q2, Lv_tl q2, Lv_bk q2, Lv_rw q2, Lv_mm q2⟩
theorem Dd_31 {R : Bool × jS × jR × jX} {S0 : Nat → Int32} {A0 : Nat → Nat → Int32} {S : Nat → Int32} {A : Nat → Nat → Int32} {x : Int32} (q : Dd R S0 A0 S A) : Dd R S0 A0 (upd S 31 x) A := ⟨(upd_of (by decide)).trans q.1, q.2.1, (upd_of (by decide)).trans q.2.2.1, Fr_S q.2.2.2.1 (upd_of (by decide)) (upd_of (by decide)) (upd_of (by decide)) (fun _ _ => rfl), q.2.2.2.2⟩
theorem Bt_go {wn : Nat → Int64} {f : Nat → Int32} {len : Nat} {R : Bool × jS × jR × jX} {S0 : Nat → Int32} {A0 : Nat → Nat → Int32} {N bl m ac : Nat} {S : Nat → Int32} {A : Nat → Nat → Int32} (q : Bt wn f len R S0 A0 N bl m ac S A) : S 7 = Int32.ofNat 1 ∧ S 11 = Int32.ofNat m ∧ m ≤ 120 := by
  obtain ⟨n, c, X, ws, D, n1, q2, q3, -⟩ := q
  have := (Lv_fi q2).2.1.1
  exact ⟨Lv_go q2, by rw [Lv_ro q2, q3], by omega⟩
theorem mb_pair {G : jx_Gv} {h : jx_H} {b : Nat} {wn : Nat → Int64} {f : Nat → Int32} {len : Nat} {R : Bool × jS × jR × jX} {S0 : Nat → Int32} {A0 : Nat → Nat → Int32} (hw : wnOk wn) (hO : fOct f len) (hl : len ≤ 2000) {N bl m ac kk j k : Nat} {S : Nat → Int32} {A : Nat → Nat → Int32} (q : Bt wn f len R S0 A0 (N + 1) bl m ac S A) (h31 : S 31 = jm bl) (hK : bK A m bl kk) (hb : bl ≠ 0) (hj : j < 16) (hk : k = 6 ∨ k = 7 ∨ k = 8 ∨ k = 9 ∨ k = 11) (ht : tb kk j k = true) (h4 : S 4 = Int32.ofNat 1) (h5 : S 5 = Int32.ofNat (j + 1)) : ∃ S1 A1 S' A', jE G (83, 0, [some (.ref b), some (.int (Int32.ofNat k))], [], hR h b S A) = some (none, hR h b S1 A1) ∧ jE G (91, 0, [some (.ref b), none], [], hR h b S1 A1) = some (none, hR h b S' A') ∧ S' 31 = S 31 ∧ ((∃ m' ac', Bt wn f len R S0 A0 N bl m' ac' S' A') ∨ Dd R S0 A0 S' A') := by
  obtain ⟨S1, A1, m', T, e1, p1, s1, g1⟩ := bgw (G := G) (h := h) (b := b) hw hO hl q h31 hK hj (by omega) ht h4 h5
  have ef : foK k = 8 := by rcases hk with e | e | e | e | e <;> rw [e] <;> rfl
  rw [if_neg (by omega), ef] at p1
  obtain ⟨S2, A2, x, y, e2, p2, a6, a7, fa, s24, s31, s7⟩ := md_pair (G := G) (h := h) (b := b) hw hO hl p1
  refine ⟨S1, A1, S2, A2, e1, e2, s31.trans s1, ?_⟩
  have fin := fin_ok p2 (by decide +kernel) (fun z X t1 t2 t3 t4 t5 t6 => by
    obtain ⟨em, b4, b5, b6, b7, b13, b14, b15⟩ := g1 (s7 z)
    subst em
    have hx : x ≠ Int32.ofNat 0 := nm_ne t6 (by simp only [List.mem_append, List.mem_cons, List.mem_nil_iff, or_true, true_or])
    refine row_ok (k := k) (bl := bl) (aa := ac) (am := 0) (by omega) (by omega) t2 t3 t1 t5 (fun _ => t4 hb) ⟨fun w => by omega, fun w => absurd w hb⟩ (by rw [fa 4 (by decide) (by decide) (by decide) (by decide) (by decide)]; exact b4) (by rw [fa 5 (by decide) (by decide) (by decide) (by decide) (by decide)]; exact b5) (by rw [fa 14 (by decide) (by decide) (by decide) (by decide) (by decide)]; exact b14) (by rw [fa 15 (by decide) (by decide) (by decide) (by decide) (by decide)]; exact b15) (Nat.le_refl _) ?_ (fun w => by omega) (fun w => by omega) ?_
    rotate_left
    · have kq := (k_tb kk (bK_z hK).2.1 j hj k (by omega) ht).2.2.2.2.1
      have kz : kk ≠ 0 := fun w => hb ((bK_z hK).1.mpr w)
      rw [← kq]
      rw [kt_i (w := Int32.ofNat (2 ^ j)) rfl rfl rfl rfl]
      by_cases c16 : Int32.ofNat (2 ^ j) = Int32.ofNat 16
      · rw [if_pos c16, if_pos ⟨c16, kz⟩]
      · rw [if_neg c16, if_neg (fun w => c16 w.1)]
    refine ⟨fun _ => ⟨a6, by show A2 6 m' ≠ _; rw [a6]; exact hx⟩, fun w => by omega, fun w => by omega, fun _ => a7, fun w => by omega, fun w => by omega⟩)
  rcases fin with z | z
  · exact Or.inl ⟨_, _, z⟩
  · exact Or.inr z
theorem mb_con {G : jx_Gv} {h : jx_H} {b : Nat} {wn : Nat → Int64} {f : Nat → Int32} {len : Nat} {R : Bool × jS × jR × jX} {S0 : Nat → Int32} {A0 : Nat → Nat → Int32} (hw : wnOk wn) (hO : fOct f len) (hl : len ≤ 2000) {N bl m ac : Nat} {S : Nat → Int32} {A : Nat → Nat → Int32} (q : Bt wn f len R S0 A0 (N + 1) bl m ac S A) (h31 : S 31 = jm bl) (hK : bK A m bl 5) (hb : bl ≠ 0) (h4 : S 4 = Int32.ofNat 1) (h5 : S 5 = Int32.ofNat 15) : ∃ S1 A1 S' A', jE G (83, 0, [some (.ref b), some (.int (Int32.ofNat 12))], [], hR h b S A) = some (none, hR h b S1 A1) ∧ jE G (94, 0, [some (.ref b), none], [], hR h b S1 A1) = some (none, hR h b S' A') ∧ S' 31 = S 31 ∧ ((∃ m' ac', Bt wn f len R S0 A0 N bl m' ac' S' A') ∨ Dd R S0 A0 S' A') := by
  obtain ⟨S1, A1, m', T, e1, p1, s1, g1⟩ := bgw (G := G) (h := h) (b := b) (j := 14) (k := 12) hw hO hl q h31 hK (by decide) (by decide) (by decide +kernel) h4 h5
  rw [if_neg (by decide)] at p1
  obtain ⟨S2, A2, x, y, u, v, e2, p2, a7, a8, a9, a10, fa, s24, s31, s7⟩ := md_connect (G := G) (h := h) (b := b) hw hO hl p1
  refine ⟨S1, A1, S2, A2, e1, e2, s31.trans s1, ?_⟩
  have fin := fin_ok p2 (by decide +kernel) (fun z X t1 t2 t3 t4 t5 t6 => by
    obtain ⟨em, b4, b5, b6, b7, b13, b14, b15⟩ := g1 (s7 z)
    subst em
    refine row_ok (k := 12) (bl := bl) (aa := ac) (am := 0) (by omega) (by omega) t2 t3 t1 t5 (fun _ => t4 hb) ⟨fun w => by omega, fun w => absurd w hb⟩ (by rw [fa 4 (by decide) (by decide) (by decide) (by decide) (by decide) (by decide) (by decide)]; exact b4) (by rw [fa 5 (by decide) (by decide) (by decide) (by decide) (by decide) (by decide) (by decide)]; exact b5) (by rw [fa 14 (by decide) (by decide) (by decide) (by decide) (by decide) (by decide) (by decide)]; exact b14) (by rw [fa 15 (by decide) (by decide) (by decide) (by decide) (by decide) (by decide) (by decide)]; exact b15) (Nat.le_refl _) ?_ (fun w => by omega) (fun w => by omega) (kt_w (w := Int32.ofNat (2 ^ 14)) rfl rfl (Or.inl (by decide)))
    refine ⟨fun w => by omega, fun _ => ?_, fun w => by omega, fun w => by omega, fun _ => ⟨a7, a8, a9, a10⟩, fun w => by omega⟩
    show A2 6 m' = _
    rw [fa 6 (by decide) (by decide) (by decide) (by decide) (by decide) (by decide) (by decide)]
    exact b6)
  rcases fin with z | z
  · exact Or.inl ⟨_, _, z⟩
  · exact Or.inr z
theorem kt_run {L : List (Int32 × Int32)} (h : lw L 0 = Int32.ofNat 256) : kt L = Int32.ofNat (kb 10) := by
  unfold lw at h
  by_cases c : ls L 0 = Int32.ofNat 1
  · rw [if_pos c] at h
    exact kt_w c h (Or.inl (by decide))
  · rw [if_neg c] at h
    exact absurd h (by decide)
theorem mb_run {G : jx_Gv} {h : jx_H} {b : Nat} {wn : Nat → Int64} {f : Nat → Int32} {len : Nat} {R : Bool × jS × jR × jX} {S0 : Nat → Int32} {A0 : Nat → Nat → Int32} (hw : wnOk wn) (hO : fOct f len) (hl : len ≤ 2000) {N bl m ac : Nat} {S : Nat → Int32} {A : Nat → Nat → Int32} (q : Bt wn f len R S0 A0 (N + 1) bl m ac S A) (h31 : S 31 = jm bl) (hK : bK A m bl 4) (hb : bl ≠ 0) (h4 : S 4 = Int32.ofNat 1) (h5 : S 5 = Int32.ofNat 9) : ∃ S1 A1 S' A', jE G (83, 0, [some (.ref b), some (.int (Int32.ofNat 10))], [], hR h b S A) = some (none, hR h b S1 A1) ∧ jE G (93, 0, [some (.ref b), none, none], [], hR h b S1 A1) = some (none, hR h b S' A') ∧ S' 31 = S 31 ∧ ((∃ m' ac', Bt wn f len R S0 A0 N bl m' ac' S' A') ∨ Dd R S0 A0 S' A') := by
  obtain ⟨S1, A1, m', T, e1, p1, s1, g1⟩ := bgw (G := G) (h := h) (b := b) (j := 8) (k := 10) hw hO hl q h31 hK (by decide) (by decide) (by decide +kernel) h4 h5
  rw [if_neg (by decide)] at p1
  obtain ⟨S2, A2, ac', fo, st, a8, L', e2, p2, d2, s31, g2⟩ := md_run (G := G) (h := h) (b := b) hw hO hl p1 (fun z => by
    obtain ⟨em, b4, b5, b6, b7, b13, b14, b15⟩ := g1 z
    subst em
    exact ⟨b13, b14, b15⟩)
  refine ⟨S1, A1, S2, A2, e1, e2, s31.trans s1, ?_⟩
  have fin := fin_ok p2 d2 (fun z X t1 t2 t3 t4 t5 t6 => by
    obtain ⟨y1, y2, y3, y4, y5, y6, y7, ⟨am, y8, y9, y10⟩, y11, y12⟩ := g2 z
    obtain ⟨em, b4, b5, b6, b7, b13, b14, b15⟩ := g1 y1
    subst em
    have hx := nm_ne t6 y4
    refine row_ok (k := 10) (bl := bl) (aa := ac) (am := am) (by omega) (by omega) t2 t3 t1 t5 (fun _ => t4 hb) ⟨fun w => by omega, fun w => absurd w hb⟩ (by rw [y11]; exact b4) (by rw [y12]; exact b5) y8 y9 (by omega) ?_ (fun _ => ⟨y5, y6, y7⟩) (fun w => by omega) (kt_run y5)
    refine ⟨fun _ => ⟨y3, by show A2 6 m' ≠ _; rw [y3]; exact hx⟩, fun w => by omega, fun w => by omega, fun w => by omega, fun w => by omega, fun _ => y2⟩)
  rcases fin with z | z
  · exact Or.inl ⟨_, _, z⟩
  · exact Or.inr z
theorem N_memberN {G : jx_Gv} {h : jx_H} {b : Nat} {S : Nat → Int32} {A : Nat → Nat → Int32} {kk : Nat} (h7 : S 7 = Int32.ofNat 1) (hkk : kk = 3 ∨ kk = 4 ∨ kk = 5) (hn : ¬ (S 4 = Int32.ofNat 1 ∧ (kk = 3 ∧ S 5 = Int32.ofNat 4 ∨ kk = 4 ∧ (S 5 = Int32.ofNat 6 ∨ S 5 = Int32.ofNat 7 ∨ S 5 = Int32.ofNat 8 ∨ S 5 = Int32.ofNat 9) ∨ kk = 5 ∧ (S 5 = Int32.ofNat 5 ∨ S 5 = Int32.ofNat 15)))) : jE G (95, 0, [some (.ref b), some (.int (Int32.ofNat kk)), none], [], hR h b S A) = some (none, hR h b (upd S 7 (Int32.ofNat 0)) A) := by
  by_cases c4 : S 4 = Int32.ofNat 1
  · rcases hkk with e | e | e
    · subst e
      have c5 : ¬ S 5 = Int32.ofNat 4 := fun z => hn ⟨c4, Or.inl ⟨rfl, z⟩⟩
      simp (disch := omega) only [e_95_0, e_95_8, e_95_15, e_95_16, e_95_22, e_95_27, e_95_33, e_95_37, e_95_40, e_95_45, e_95_51, e_95_57, e_95_63, e_95_70, e_95_75, e_95_81, e_95_86, e_95_88, e_95_91, e_95_95, e_95_98, e_95_103, e_95_109, e_95_115, e_95_119, e_95_122, e_95_127, e_95_132, e_95_138, e_95_142, e_95_145, e_95_150, e_95_156, e_95_162, e_95_166, e_95_169, e_95_174, rr_v, ↓rg_kind_b, ↓rg_value_b, ↓rp_good_b, c4, c5, ↓Option.bind_some, ↓jzo_0b, ↓jzo_1b, ↓jzo_bb, Option.toList_some, Option.toList_none, List.cons_append, List.nil_append, ↓reduceIte, jzo_0, jzo_1, jzo_b, jbi_t, jbi_f, i_add, ↓i_ltP, ↓i_ltN, ↓i_eqP, ↓i_eqN, i_lt, i_eq, jbi_0, pt_lt, pf_lt, pt_eq, pf_eq, pt_le, pf_le, Nat.reduceEqDiff, eq_self, true_or, or_true, false_or, or_false, true_and, and_true, false_and, and_false, jE_sw, jE_sw0]
    · subst e
      have c5 : ¬ S 5 = Int32.ofNat 6 := fun z => hn ⟨c4, Or.inr (Or.inl ⟨rfl, Or.inl z⟩)⟩
      have c6 : ¬ S 5 = Int32.ofNat 7 := fun z => hn ⟨c4, Or.inr (Or.inl ⟨rfl, Or.inr (Or.inl z)⟩)⟩
      have c7 : ¬ S 5 = Int32.ofNat 8 := fun z => hn ⟨c4, Or.inr (Or.inl ⟨rfl, Or.inr (Or.inr (Or.inl z))⟩)⟩
      have c8 : ¬ S 5 = Int32.ofNat 9 := fun z => hn ⟨c4, Or.inr (Or.inl ⟨rfl, Or.inr (Or.inr (Or.inr z))⟩)⟩
      simp (disch := omega) only [e_95_0, e_95_8, e_95_15, e_95_16, e_95_22, e_95_27, e_95_33, e_95_37, e_95_40, e_95_45, e_95_51, e_95_57, e_95_63, e_95_70, e_95_75, e_95_81, e_95_86, e_95_88, e_95_91, e_95_95, e_95_98, e_95_103, e_95_109, e_95_115, e_95_119, e_95_122, e_95_127, e_95_132, e_95_138, e_95_142, e_95_145, e_95_150, e_95_156, e_95_162, e_95_166, e_95_169, e_95_174, rr_v, ↓rg_kind_b, ↓rg_value_b, ↓rp_good_b, c4, c5, c6, c7, c8, ↓Option.bind_some, ↓jzo_0b, ↓jzo_1b, ↓jzo_bb, Option.toList_some, Option.toList_none, List.cons_append, List.nil_append, ↓reduceIte, jzo_0, jzo_1, jzo_b, jbi_t, jbi_f, i_add, ↓i_ltP, ↓i_ltN, ↓i_eqP, ↓i_eqN, i_lt, i_eq, jbi_0, pt_lt, pf_lt, pt_eq, pf_eq, pt_le, pf_le, Nat.reduceEqDiff, eq_self, true_or, or_true, false_or, or_false, true_and, and_true, false_and, and_false, jE_sw, jE_sw0]
    · subst e
      have c5 : ¬ S 5 = Int32.ofNat 5 := fun z => hn ⟨c4, Or.inr (Or.inr ⟨rfl, Or.inl z⟩)⟩
      have c6 : ¬ S 5 = Int32.ofNat 15 := fun z => hn ⟨c4, Or.inr (Or.inr ⟨rfl, Or.inr z⟩)⟩
      simp (disch := omega) only [e_95_0, e_95_8, e_95_15, e_95_16, e_95_22, e_95_27, e_95_33, e_95_37, e_95_40, e_95_45, e_95_51, e_95_57, e_95_63, e_95_70, e_95_75, e_95_81, e_95_86, e_95_88, e_95_91, e_95_95, e_95_98, e_95_103, e_95_109, e_95_115, e_95_119, e_95_122, e_95_127, e_95_132, e_95_138, e_95_142, e_95_145, e_95_150, e_95_156, e_95_162, e_95_166, e_95_169, e_95_174, rr_v, ↓rg_kind_b, ↓rg_value_b, ↓rp_good_b, c4, c5, c6, ↓Option.bind_some, ↓jzo_0b, ↓jzo_1b, ↓jzo_bb, Option.toList_some, Option.toList_none, List.cons_append, List.nil_append, ↓reduceIte, jzo_0, jzo_1, jzo_b, jbi_t, jbi_f, i_add, ↓i_ltP, ↓i_ltN, ↓i_eqP, ↓i_eqN, i_lt, i_eq, jbi_0, pt_lt, pf_lt, pt_eq, pf_eq, pt_le, pf_le, Nat.reduceEqDiff, eq_self, true_or, or_true, false_or, or_false, true_and, and_true, false_and, and_false, jE_sw, jE_sw0]
  · rcases hkk with e | e | e <;> subst e <;> simp (disch := omega) only [e_95_0, e_95_8, e_95_15, e_95_16, e_95_22, e_95_27, e_95_33, e_95_37, e_95_40, e_95_45, e_95_51, e_95_57, e_95_63, e_95_70, e_95_75, e_95_81, e_95_86, e_95_88, e_95_91, e_95_95, e_95_98, e_95_103, e_95_109, e_95_115, e_95_119, e_95_122, e_95_127, e_95_132, e_95_138, e_95_142, e_95_145, e_95_150, e_95_156, e_95_162, e_95_166, e_95_169, e_95_174, rr_v, ↓rg_kind_b, ↓rg_value_b, ↓rp_good_b, c4, ↓Option.bind_some, ↓jzo_0b, ↓jzo_1b, ↓jzo_bb, Option.toList_some, Option.toList_none, List.cons_append, List.nil_append, ↓reduceIte, jzo_0, jzo_1, jzo_b, jbi_t, jbi_f, i_add, ↓i_ltP, ↓i_ltN, ↓i_eqP, ↓i_eqN, i_lt, i_eq, jbi_0, pt_lt, pf_lt, pt_eq, pf_eq, pt_le, pf_le, Nat.reduceEqDiff, eq_self, true_or, or_true, false_or, or_false, true_and, and_true, false_and, and_false, jE_sw, jE_sw0]
theorem N_memberN_b {G : jx_Gv} {h : jx_H} {b : Nat} {S : Nat → Int32} {A : Nat → Nat → Int32} {kk : Nat} (h7 : S 7 = Int32.ofNat 1) (hkk : kk = 3 ∨ kk = 4 ∨ kk = 5) (hn : ¬ (S 4 = Int32.ofNat 1 ∧ (kk = 3 ∧ S 5 = Int32.ofNat 4 ∨ kk = 4 ∧ (S 5 = Int32.ofNat 6 ∨ S 5 = Int32.ofNat 7 ∨ S 5 = Int32.ofNat 8 ∨ S 5 = Int32.ofNat 9) ∨ kk = 5 ∧ (S 5 = Int32.ofNat 5 ∨ S 5 = Int32.ofNat 15)))) {β_ : Type} {f_ : jx_R → Option β_} : (jE G (95, 0, [some (.ref b), some (.int (Int32.ofNat kk)), none], [], hR h b S A)).bind f_ = f_ ((none, hR h b (upd S 7 (Int32.ofNat 0)) A)) := bnd (N_memberN h7 hkk hn)
theorem mb {G : jx_Gv} {h : jx_H} {b : Nat} {wn : Nat → Int64} {f : Nat → Int32} {len : Nat} {R : Bool × jS × jR × jX} {S0 : Nat → Int32} {A0 : Nat → Nat → Int32} (hw : wnOk wn) (hO : fOct f len) (hl : len ≤ 2000) {N bl m ac kk : Nat} {S : Nat → Int32} {A : Nat → Nat → Int32} (q : Bt wn f len R S0 A0 (N + 1) bl m ac S A) (h31 : S 31 = jm bl) (hK : bK A m bl kk) (hb : bl ≠ 0) (hc : ¬ (S 4 = Int32.ofNat 4 ∧ S 5 = Int32.ofNat 125)) : ∃ S' A', jE G (95, 0, [some (.ref b), some (.int (Int32.ofNat kk)), none], [], hR h b S A) = some (none, hR h b S' A') ∧ S' 31 = S 31 ∧ ((∃ m' ac', Bt wn f len R S0 A0 N bl m' ac' S' A') ∨ Dd R S0 A0 S' A') := by
  have hkk : kk = 3 ∨ kk = 4 ∨ kk = 5 := by unfold bK at hK; omega
  by_cases c4 : S 4 = Int32.ofNat 1
  · by_cases d1 : kk = 3 ∧ S 5 = Int32.ofNat 4
    · obtain ⟨rfl, h5⟩ := d1
      obtain ⟨S1, A1, S', A', e1, e2, e3⟩ := mb_pair (G := G) (h := h) (b := b) (j := 3) (k := 6) hw hO hl q h31 hK hb (by decide) (by decide) (by decide +kernel) c4 h5
      refine ⟨S', A', ?_, e3⟩
      have e1' := fun {β : Type} {f : jx_R → Option β} => bnd (f := f) e1
      have e2' := fun {β : Type} {f : jx_R → Option β} => bnd (f := f) e2
      simp (disch := omega) only [e_95_0, e_95_8, e_95_15, e_95_16, e_95_22, e_95_27, e_95_33, e_95_37, e_95_40, e_95_45, e_95_51, e_95_57, e_95_63, e_95_70, e_95_75, e_95_81, e_95_86, e_95_88, e_95_91, e_95_95, e_95_98, e_95_103, e_95_109, e_95_115, e_95_119, e_95_122, e_95_127, e_95_132, e_95_138, e_95_142, e_95_145, e_95_150, e_95_156, e_95_162, e_95_166, e_95_169, e_95_174, rr_v, ↓rg_kind_b, ↓rg_value_b, c4, h5, ↓e1', ↓e2', ↓Option.bind_some, ↓jzo_0b, ↓jzo_1b, ↓jzo_bb, Option.toList_some, Option.toList_none, List.cons_append, List.nil_append, ↓reduceIte, jzo_0, jzo_1, jzo_b, jbi_t, jbi_f, i_add, ↓i_ltP, ↓i_ltN, ↓i_eqP, ↓i_eqN, i_lt, i_eq, jbi_0, pt_lt, pf_lt, pt_eq, pf_eq, pt_le, pf_le, Nat.reduceEqDiff, eq_self, true_or, or_true, false_or, or_false, true_and, and_true, false_and, and_false, jE_sw, jE_sw0]
    by_cases d2 : kk = 4 ∧ S 5 = Int32.ofNat 6
    · obtain ⟨rfl, h5⟩ := d2
      obtain ⟨S1, A1, S', A', e1, e2, e3⟩ := mb_pair (G := G) (h := h) (b := b) (j := 5) (k := 7) hw hO hl q h31 hK hb (by decide) (by decide) (by decide +kernel) c4 h5
      refine ⟨S', A', ?_, e3⟩
      have e1' := fun {β : Type} {f : jx_R → Option β} => bnd (f := f) e1
      have e2' := fun {β : Type} {f : jx_R → Option β} => bnd (f := f) e2
      simp (disch := omega) only [e_95_0, e_95_8, e_95_15, e_95_16, e_95_22, e_95_27, e_95_33, e_95_37, e_95_40, e_95_45, e_95_51, e_95_57, e_95_63, e_95_70, e_95_75, e_95_81, e_95_86, e_95_88, e_95_91, e_95_95, e_95_98, e_95_103, e_95_109, e_95_115, e_95_119, e_95_122, e_95_127, e_95_132, e_95_138, e_95_142, e_95_145, e_95_150, e_95_156, e_95_162, e_95_166, e_95_169, e_95_174, rr_v, ↓rg_kind_b, ↓rg_value_b, c4, h5, ↓e1', ↓e2', ↓Option.bind_some, ↓jzo_0b, ↓jzo_1b, ↓jzo_bb, Option.toList_some, Option.toList_none, List.cons_append, List.nil_append, ↓reduceIte, jzo_0, jzo_1, jzo_b, jbi_t, jbi_f, i_add, ↓i_ltP, ↓i_ltN, ↓i_eqP, ↓i_eqN, i_lt, i_eq, jbi_0, pt_lt, pf_lt, pt_eq, pf_eq, pt_le, pf_le, Nat.reduceEqDiff, eq_self, true_or, or_true, false_or, or_false, true_and, and_true, false_and, and_false, jE_sw, jE_sw0]
    by_cases d3 : kk = 4 ∧ S 5 = Int32.ofNat 7
    · obtain ⟨rfl, h5⟩ := d3
      obtain ⟨S1, A1, S', A', e1, e2, e3⟩ := mb_pair (G := G) (h := h) (b := b) (j := 6) (k := 8) hw hO hl q h31 hK hb (by decide) (by decide) (by decide +kernel) c4 h5
      refine ⟨S', A', ?_, e3⟩
      have e1' := fun {β : Type} {f : jx_R → Option β} => bnd (f := f) e1
      have e2' := fun {β : Type} {f : jx_R → Option β} => bnd (f := f) e2
      simp (disch := omega) only [e_95_0, e_95_8, e_95_15, e_95_16, e_95_22, e_95_27, e_95_33, e_95_37, e_95_40, e_95_45, e_95_51, e_95_57, e_95_63, e_95_70, e_95_75, e_95_81, e_95_86, e_95_88, e_95_91, e_95_95, e_95_98, e_95_103, e_95_109, e_95_115, e_95_119, e_95_122, e_95_127, e_95_132, e_95_138, e_95_142, e_95_145, e_95_150, e_95_156, e_95_162, e_95_166, e_95_169, e_95_174, rr_v, ↓rg_kind_b, ↓rg_value_b, c4, h5, ↓e1', ↓e2', ↓Option.bind_some, ↓jzo_0b, ↓jzo_1b, ↓jzo_bb, Option.toList_some, Option.toList_none, List.cons_append, List.nil_append, ↓reduceIte, jzo_0, jzo_1, jzo_b, jbi_t, jbi_f, i_add, ↓i_ltP, ↓i_ltN, ↓i_eqP, ↓i_eqN, i_lt, i_eq, jbi_0, pt_lt, pf_lt, pt_eq, pf_eq, pt_le, pf_le, Nat.reduceEqDiff, eq_self, true_or, or_true, false_or, or_false, true_and, and_true, false_and, and_false, jE_sw, jE_sw0]
    by_cases d4 : kk = 4 ∧ S 5 = Int32.ofNat 8
    · obtain ⟨rfl, h5⟩ := d4
      obtain ⟨S1, A1, S', A', e1, e2, e3⟩ := mb_pair (G := G) (h := h) (b := b) (j := 7) (k := 9) hw hO hl q h31 hK hb (by decide) (by decide) (by decide +kernel) c4 h5
      refine ⟨S', A', ?_, e3⟩
      have e1' := fun {β : Type} {f : jx_R → Option β} => bnd (f := f) e1
      have e2' := fun {β : Type} {f : jx_R → Option β} => bnd (f := f) e2
      simp (disch := omega) only [e_95_0, e_95_8, e_95_15, e_95_16, e_95_22, e_95_27, e_95_33, e_95_37, e_95_40, e_95_45, e_95_51, e_95_57, e_95_63, e_95_70, e_95_75, e_95_81, e_95_86, e_95_88, e_95_91, e_95_95, e_95_98, e_95_103, e_95_109, e_95_115, e_95_119, e_95_122, e_95_127, e_95_132, e_95_138, e_95_142, e_95_145, e_95_150, e_95_156, e_95_162, e_95_166, e_95_169, e_95_174, rr_v, ↓rg_kind_b, ↓rg_value_b, c4, h5, ↓e1', ↓e2', ↓Option.bind_some, ↓jzo_0b, ↓jzo_1b, ↓jzo_bb, Option.toList_some, Option.toList_none, List.cons_append, List.nil_append, ↓reduceIte, jzo_0, jzo_1, jzo_b, jbi_t, jbi_f, i_add, ↓i_ltP, ↓i_ltN, ↓i_eqP, ↓i_eqN, i_lt, i_eq, jbi_0, pt_lt, pf_lt, pt_eq, pf_eq, pt_le, pf_le, Nat.reduceEqDiff, eq_self, true_or, or_true, false_or, or_false, true_and, and_true, false_and, and_false, jE_sw, jE_sw0]
    by_cases d5 : kk = 4 ∧ S 5 = Int32.ofNat 9
    · obtain ⟨rfl, h5⟩ := d5
      obtain ⟨S1, A1, S', A', e1, e2, e3⟩ := mb_run (G := G) (h := h) (b := b) hw hO hl q h31 hK hb c4 h5
      refine ⟨S', A', ?_, e3⟩
      have e1' := fun {β : Type} {f : jx_R → Option β} => bnd (f := f) e1
      have e2' := fun {β : Type} {f : jx_R → Option β} => bnd (f := f) e2
      simp (disch := omega) only [e_95_0, e_95_8, e_95_15, e_95_16, e_95_22, e_95_27, e_95_33, e_95_37, e_95_40, e_95_45, e_95_51, e_95_57, e_95_63, e_95_70, e_95_75, e_95_81, e_95_86, e_95_88, e_95_91, e_95_95, e_95_98, e_95_103, e_95_109, e_95_115, e_95_119, e_95_122, e_95_127, e_95_132, e_95_138, e_95_142, e_95_145, e_95_150, e_95_156, e_95_162, e_95_166, e_95_169, e_95_174, rr_v, ↓rg_kind_b, ↓rg_value_b, c4, h5, ↓e1', ↓e2', ↓Option.bind_some, ↓jzo_0b, ↓jzo_1b, ↓jzo_bb, Option.toList_some, Option.toList_none, List.cons_append, List.nil_append, ↓reduceIte, jzo_0, jzo_1, jzo_b, jbi_t, jbi_f, i_add, ↓i_ltP, ↓i_ltN, ↓i_eqP, ↓i_eqN, i_lt, i_eq, jbi_0, pt_lt, pf_lt, pt_eq, pf_eq, pt_le, pf_le, Nat.reduceEqDiff, eq_self, true_or, or_true, false_or, or_false, true_and, and_true, false_and, and_false, jE_sw, jE_sw0]
    by_cases d6 : kk = 5 ∧ S 5 = Int32.ofNat 5
    · obtain ⟨rfl, h5⟩ := d6
      obtain ⟨S1, A1, S', A', e1, e2, e3⟩ := mb_pair (G := G) (h := h) (b := b) (j := 4) (k := 11) hw hO hl q h31 hK hb (by decide) (by decide) (by decide +kernel) c4 h5
      refine ⟨S', A', ?_, e3⟩
      have e1' := fun {β : Type} {f : jx_R → Option β} => bnd (f := f) e1
      have e2' := fun {β : Type} {f : jx_R → Option β} => bnd (f := f) e2
      simp (disch := omega) only [e_95_0, e_95_8, e_95_15, e_95_16, e_95_22, e_95_27, e_95_33, e_95_37, e_95_40, e_95_45, e_95_51, e_95_57, e_95_63, e_95_70, e_95_75, e_95_81, e_95_86, e_95_88, e_95_91, e_95_95, e_95_98, e_95_103, e_95_109, e_95_115, e_95_119, e_95_122, e_95_127, e_95_132, e_95_138, e_95_142, e_95_145, e_95_150, e_95_156, e_95_162, e_95_166, e_95_169, e_95_174, rr_v, ↓rg_kind_b, ↓rg_value_b, c4, h5, ↓e1', ↓e2', ↓Option.bind_some, ↓jzo_0b, ↓jzo_1b, ↓jzo_bb, Option.toList_some, Option.toList_none, List.cons_append, List.nil_append, ↓reduceIte, jzo_0, jzo_1, jzo_b, jbi_t, jbi_f, i_add, ↓i_ltP, ↓i_ltN, ↓i_eqP, ↓i_eqN, i_lt, i_eq, jbi_0, pt_lt, pf_lt, pt_eq, pf_eq, pt_le, pf_le, Nat.reduceEqDiff, eq_self, true_or, or_true, false_or, or_false, true_and, and_true, false_and, and_false, jE_sw, jE_sw0]
    by_cases d7 : kk = 5 ∧ S 5 = Int32.ofNat 15
    · obtain ⟨rfl, h5⟩ := d7
      obtain ⟨S1, A1, S', A', e1, e2, e3⟩ := mb_con (G := G) (h := h) (b := b) hw hO hl q h31 hK hb c4 h5
      refine ⟨S', A', ?_, e3⟩
      have e1' := fun {β : Type} {f : jx_R → Option β} => bnd (f := f) e1
      have e2' := fun {β : Type} {f : jx_R → Option β} => bnd (f := f) e2
      simp (disch := omega) only [e_95_0, e_95_8, e_95_15, e_95_16, e_95_22, e_95_27, e_95_33, e_95_37, e_95_40, e_95_45, e_95_51, e_95_57, e_95_63, e_95_70, e_95_75, e_95_81, e_95_86, e_95_88, e_95_91, e_95_95, e_95_98, e_95_103, e_95_109, e_95_115, e_95_119, e_95_122, e_95_127, e_95_132, e_95_138, e_95_142, e_95_145, e_95_150, e_95_156, e_95_162, e_95_166, e_95_169, e_95_174, rr_v, ↓rg_kind_b, ↓rg_value_b, c4, h5, ↓e1', ↓e2', ↓Option.bind_some, ↓jzo_0b, ↓jzo_1b, ↓jzo_bb, Option.toList_some, Option.toList_none, List.cons_append, List.nil_append, ↓reduceIte, jzo_0, jzo_1, jzo_b, jbi_t, jbi_f, i_add, ↓i_ltP, ↓i_ltN, ↓i_eqP, ↓i_eqN, i_lt, i_eq, jbi_0, pt_lt, pf_lt, pt_eq, pf_eq, pt_le, pf_le, Nat.reduceEqDiff, eq_self, true_or, or_true, false_or, or_false, true_and, and_true, false_and, and_false, jE_sw, jE_sw0]
    refine ⟨_, _, N_memberN (Bt_go q).1 hkk (fun z => ?_), upd_of (by decide), Or.inr (bgn q hK (fun z => absurd z hb) (fun _ => hc) (fun j hj y4 y5 => ?_))⟩
    · rcases z.2 with y | ⟨y, w | w | w | w⟩ | ⟨y, w | w⟩
      · exact d1 y
      · exact d2 ⟨y, w⟩
      · exact d3 ⟨y, w⟩
      · exact d4 ⟨y, w⟩
      · exact d5 ⟨y, w⟩
      · exact d6 ⟨y, w⟩
      · exact d7 ⟨y, w⟩
    · have y6 : ∀ i : Nat, j + 1 = i → S 5 = Int32.ofNat i := fun i e => by rw [y5, e]
      intro k hk
      cases et : tb kk j k
      · rfl
      · exfalso
        have w := k_tbm kk (by omega) j hj k hk et
        rcases w with w | w | w | w | w | w | w | w
        · omega
        · exact d1 ⟨w.1, y6 _ w.2⟩
        · exact d2 ⟨w.1, y6 _ w.2⟩
        · exact d3 ⟨w.1, y6 _ w.2⟩
        · exact d4 ⟨w.1, y6 _ w.2⟩
        · exact d5 ⟨w.1, y6 _ w.2⟩
        · exact d6 ⟨w.1, y6 _ w.2⟩
        · exact d7 ⟨w.1, y6 _ w.2⟩
  · exact ⟨_, _, N_memberN (Bt_go q).1 hkk (fun z => c4 z.1), upd_of (by decide), Or.inr (bgn q hK (fun z => absurd z hb) (fun _ => hc) (fun j hj y4 y5 => absurd y4 c4))⟩
