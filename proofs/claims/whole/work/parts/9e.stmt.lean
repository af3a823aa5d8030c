/-! A BLOCK'S ROWS; STATEMENTS -/
theorem mbs_dead {G : jx_Gv} {h : jx_H} {b : Nat} {R : Bool × jS × jR × jX} {S0 : Nat → Int32} {A0 : Nat → Nat → Int32} {S : Nat → Int32} {A : Nat → Nat → Int32} {x : Int32} (q : Dd R S0 A0 S A) : ∃ S', jE G (96, 5, [some (.ref b), some (.int x)], [], hR h b S A) = some (none, hR h b S' A) ∧ Dd R S0 A0 S' A := by
  have h7 := q.1
  refine ⟨upd S 31 (-(Int32.ofNat 1)), ?_, Dd_31 q⟩
  rw [e_96_5]
  simp (disch := omega) only [e_96_0, e_96_12, e_96_20, e_96_29, e_96_39, e_96_42, e_96_48, rr_v, ↓rg_good_b, h7, ↓N_begin0_b h7, ↓rp_block_b, ↓Option.bind_some, ↓jzo_0b, ↓jzo_1b, ↓jzo_bb, Option.toList_some, Option.toList_none, List.cons_append, List.nil_append, ↓reduceIte, jzo_0, jzo_1, jzo_b, jbi_t, jbi_f, i_add, ↓i_ltP, ↓i_ltN, ↓i_eqP, ↓i_eqN, i_lt, i_eq, jbi_0, pt_lt, pf_lt, pt_eq, pf_eq, pt_le, pf_le, Nat.reduceEqDiff, eq_self, true_or, or_true, false_or, or_false, true_and, and_true, false_and, and_false, jE_sw, jE_sw0]
theorem mbs {G : jx_Gv} {h : jx_H} {b : Nat} {wn : Nat → Int64} {f : Nat → Int32} {len : Nat} {R : Bool × jS × jR × jX} {S0 : Nat → Int32} {A0 : Nat → Nat → Int32} (hw : wnOk wn) (hO : fOct f len) (hl : len ≤ 2000) : ∀ (N : Nat) {r m ac : Nat} {S : Nat → Int32} {A : Nat → Nat → Int32}, Bt wn f len R S0 A0 N (r + 1) m ac S A → S 31 = jm (r + 1) → ∃ S' A', jE G (96, 5, [some (.ref b), some (.int (Int32.ofNat r))], [], hR h b S A) = some (none, hR h b S' A') ∧ ((∃ m' ac', Bt wn f len R S0 A0 N 0 m' ac' S' A' ∧ S' 31 = jm 0) ∨ Dd R S0 A0 S' A') := by
  intro N
  induction N with
  | zero =>
    intro r m ac S A q h31
    exact absurd (Bt_pos q) (by decide)
  | succ N ih =>
    intro r m ac S A q h31
    obtain ⟨kk, hK⟩ := bK_of q (by omega)
    obtain ⟨go, r11, m120⟩ := Bt_go q
    by_cases c : S 4 = Int32.ofNat 4 ∧ S 5 = Int32.ofNat 125
    · obtain ⟨S1, A1, e1, z⟩ := bgc (G := G) (h := h) (b := b) hw hO hl q h31 hK (by omega) c.1 c.2
      refine ⟨upd S1 31 (-(Int32.ofNat 1)), A1, ?_, ?_⟩
      · have e1' := fun {β : Type} {f : jx_R → Option β} => bnd (f := f) e1
        have c4 := c.1
        have c5 := c.2
        rw [e_96_5]
        simp (disch := omega) only [e_96_0, e_96_12, e_96_20, e_96_29, e_96_39, e_96_42, e_96_48, rr_v, ↓rg_good_b, ↓rg_kind_b, ↓rg_value_b, go, c4, c5, ↓e1', ↓rp_block_b, ↓Option.bind_some, ↓jzo_0b, ↓jzo_1b, ↓jzo_bb, Option.toList_some, Option.toList_none, List.cons_append, List.nil_append, ↓reduceIte, jzo_0, jzo_1, jzo_b, jbi_t, jbi_f, i_add, ↓i_ltP, ↓i_ltN, ↓i_eqP, ↓i_eqN, i_lt, i_eq, jbi_0, pt_lt, pf_lt, pt_eq, pf_eq, pt_le, pf_le, Nat.reduceEqDiff, eq_self, true_or, or_true, false_or, or_false, true_and, and_true, false_and, and_false, jE_sw, jE_sw0]
      · rcases z with z | z
        · exact Or.inl ⟨_, _, Bt_le (Bt_31 z) (Nat.le_succ _), by rw [upd_at]; exact jmz⟩
        · exact Or.inr (Dd_31 z)
    · have ek : A 4 r = Int32.ofNat kk := by
        rcases hK with e | e
        · omega
        · exact e.2.2.2.2
      have hr : r < 120 := by
        have := (bK_z hK).2.2.2.2
        omega
      obtain ⟨S1, A1, e1, s1, z⟩ := mb (G := G) (h := h) (b := b) hw hO hl q h31 hK (by omega) c
      have e1' := fun {β : Type} {f : jx_R → Option β} => bnd (f := f) e1
      have step : jE G (96, 5, [some (.ref b), some (.int (Int32.ofNat r))], [], hR h b S A) = jE G (96, 5, [some (.ref b), some (.int (Int32.ofNat r))], [], hR h b S1 A1) := by
        rw [e_96_5]
        by_cases c4 : S 4 = Int32.ofNat 4
        · have c5 : ¬ S 5 = Int32.ofNat 125 := fun y => c ⟨c4, y⟩
          simp (disch := omega) only [e_96_0, e_96_12, e_96_20, e_96_29, e_96_39, e_96_42, e_96_48, rr_v, ↓rg_good_b, ↓rg_kind_b, ↓rg_value_b, ↓ra_rowKind_b, ↓rl_rowKind_b, ek, go, c4, c5, ↓e1', ↓Option.bind_some, ↓jzo_0b, ↓jzo_1b, ↓jzo_bb, Option.toList_some, Option.toList_none, List.cons_append, List.nil_append, ↓reduceIte, jzo_0, jzo_1, jzo_b, jbi_t, jbi_f, i_add, ↓i_ltP, ↓i_ltN, ↓i_eqP, ↓i_eqN, i_lt, i_eq, jbi_0, pt_lt, pf_lt, pt_eq, pf_eq, pt_le, pf_le, Nat.reduceEqDiff, eq_self, true_or, or_true, false_or, or_false, true_and, and_true, false_and, and_false, jE_sw, jE_sw0]
        · simp (disch := omega) only [e_96_0, e_96_12, e_96_20, e_96_29, e_96_39, e_96_42, e_96_48, rr_v, ↓rg_good_b, ↓rg_kind_b, ↓rg_value_b, ↓ra_rowKind_b, ↓rl_rowKind_b, ek, go, c4, ↓e1', ↓Option.bind_some, ↓jzo_0b, ↓jzo_1b, ↓jzo_bb, Option.toList_some, Option.toList_none, List.cons_append, List.nil_append, ↓reduceIte, jzo_0, jzo_1, jzo_b, jbi_t, jbi_f, i_add, ↓i_ltP, ↓i_ltN, ↓i_eqP, ↓i_eqN, i_lt, i_eq, jbi_0, pt_lt, pf_lt, pt_eq, pf_eq, pt_le, pf_le, Nat.reduceEqDiff, eq_self, true_or, or_true, false_or, or_false, true_and, and_true, false_and, and_false, jE_sw, jE_sw0]
      rw [step]
      rcases z with ⟨m', ac', z⟩ | z
      · obtain ⟨S', A', e2, y⟩ := ih z (s1.trans h31)
        refine ⟨S', A', e2, ?_⟩
        rcases y with ⟨m2, ac2, y1, y2⟩ | y
        · exact Or.inl ⟨m2, ac2, Bt_le y1 (Nat.le_succ _), y2⟩
        · exact Or.inr y
      · obtain ⟨S', e2, y⟩ := mbs_dead (G := G) (h := h) (b := b) (x := Int32.ofNat r) z
        exact ⟨S', A1, e2, Or.inr y⟩
def kpA (A : Nat → Nat → Int32) (m : Nat) (x y a c : Int32) : Nat → Nat → Int32 := upA (upA (upA (upA A 6 (upd (A 6) m x)) 7 (upd (A 7) m y)) 11 (upd (A 11) m a)) 12 (upd (A 12) m c)
theorem N_keepRow {G : jx_Gv} {h : jx_H} {b : Nat} {S : Nat → Int32} {A : Nat → Nat → Int32} {m : Nat} {x y a c : Int32} (hm : m < 120) : jE G (88, 0, [some (.ref b), some (.int (Int32.ofNat m)), some (.int x), some (.int y), some (.int a), some (.int c)], [], hR h b S A) = some (none, hR h b S (kpA A m x y a c)) := by
  unfold kpA
  simp (disch := omega) only [e_88_0, ↓ra_given_b, ↓rs_given_b, ↓ra_second_b, ↓rs_second_b, ↓ra_low_b, ↓rs_low_b, ↓ra_high_b, ↓rs_high_b, upA_of, ↓Option.bind_some, ↓jzo_0b, ↓jzo_1b, ↓jzo_bb, Option.toList_some, Option.toList_none, List.cons_append, List.nil_append, ↓reduceIte, jzo_0, jzo_1, jzo_b, jbi_t, jbi_f, i_add, ↓i_ltP, ↓i_ltN, ↓i_eqP, ↓i_eqN, i_lt, i_eq, jbi_0, pt_lt, pf_lt, pt_eq, pf_eq, pt_le, pf_le, Nat.reduceEqDiff, eq_self, true_or, or_true, false_or, or_false, true_and, and_true, false_and, and_false, jE_sw, jE_sw0]
theorem N_keepRow_b {G : jx_Gv} {h : jx_H} {b : Nat} {S : Nat → Int32} {A : Nat → Nat → Int32} {m : Nat} {x y a c : Int32} (hm : m < 120) {β_ : Type} {f_ : jx_R → Option β_} : (jE G (88, 0, [some (.ref b), some (.int (Int32.ofNat m)), some (.int x), some (.int y), some (.int a), some (.int c)], [], hR h b S A)).bind f_ = f_ ((none, hR h b S (kpA A m x y a c))) := bnd (N_keepRow hm)
theorem MD_kp {wn : Nat → Int64} {f : Nat → Int32} {len : Nat} {R : Bool × jS × jR × jX} {S0 : Nat → Int32} {A0 : Nat → Nat → Int32} {N k bl m ac T : Nat} {D : jR} {L : List (Int32 × Int32)} {S : Nat → Int32} {A : Nat → Nat → Int32} {x y a c : Int32} (q : MD wn f len R S0 A0 N k bl m ac T D L S A) : MD wn f len R S0 A0 N k bl m ac T D L S (kpA A m x y a c) := by
  have q1 := MD_up (o := 6) (x := x) q (by decide) (by decide)
  have q2 := MD_up (o := 7) (x := y) q1 (by decide) (by decide)
  have q3 := MD_up (o := 11) (x := a) q2 (by decide) (by decide)
  have q4 := MD_up (o := 12) (x := c) q3 (by decide) (by decide)
  unfold kpA
  simp (disch := decide) only [upA_of] at q4
  exact q4
section KPA
variable {A : Nat → Nat → Int32} {m : Nat} {x y a c : Int32}
theorem kpA_6 : kpA A m x y a c 6 m = x := by
  unfold kpA
  simp (disch := decide) only [upA_of, upA_at, upd_at]
theorem kpA_7 : kpA A m x y a c 7 m = y := by
  unfold kpA
  simp (disch := decide) only [upA_of, upA_at, upd_at]
theorem kpA_11 : kpA A m x y a c 11 m = a := by
  unfold kpA
  simp (disch := decide) only [upA_of, upA_at, upd_at]
theorem kpA_12 : kpA A m x y a c 12 m = c := by
  unfold kpA
  simp (disch := decide) only [upA_of, upA_at, upd_at]
theorem kpA_of {j : Nat} (h6 : j ≠ 6) (h7 : j ≠ 7) (h11 : j ≠ 11) (h12 : j ≠ 12) : kpA A m x y a c j = A j := by
  unfold kpA
  rw [upA_of h12, upA_of h11, upA_of h7, upA_of h6]
end KPA
theorem st_unit {G : jx_Gv} {h : jx_H} {b : Nat} {wn : Nat → Int64} {f : Nat → Int32} {len : Nat} {R : Bool × jS × jR × jX} {S0 : Nat → Int32} {A0 : Nat → Nat → Int32} (hw : wnOk wn) (hO : fOct f len) (hl : len ≤ 2000) {N m ac : Nat} {S : Nat → Int32} {A : Nat → Nat → Int32} (q : Bt wn f len R S0 A0 (N + 1) 0 m ac S A) (h31 : S 31 = jm 0) (h4 : S 4 = Int32.ofNat 1) (h5 : S 5 = Int32.ofNat 1) : ∃ S' A', jE G (97, 0, [some (.ref b), none, none, none, none, none, none], [], hR h b S A) = some (none, hR h b S' A') ∧ ((∃ m' ac', Bt wn f len R S0 A0 N 0 m' ac' S' A' ∧ S' 31 = jm 0) ∨ Dd R S0 A0 S' A') := by
  obtain ⟨go, r11, m120⟩ := Bt_go q
  obtain ⟨S1, A1, m', T, e1, p1, s1, g1⟩ := bgw (G := G) (h := h) (b := b) (j := 0) (k := 1) hw hO hl q h31 (Or.inl ⟨rfl, rfl⟩) (by decide) (by decide) (by decide +kernel) h4 h5
  rw [if_neg (by decide)] at p1
  obtain ⟨S2, A2, x, e2, p2, f2⟩ := md_name (G := G) (h := h) (b := b) hw hO hl p1 (show dvT 3 0 = false by decide +kernel) (show duT 3 0 = Int32.ofNat 78 by decide +kernel)
  obtain ⟨S3, A3, z3, e3, p3, f3⟩ := md_sign (G := G) (h := h) (b := b) (u := 61) hw hO hl p2 (show dvT 3 1 = false by decide +kernel) (by decide) (show duT 3 1 = Int32.ofNat 61 by decide +kernel)
  obtain ⟨S4, A4, a, e4, p4, f4, y4⟩ := md_num (G := G) (h := h) (b := b) (hi := 9999) hw hO hl p3 (show dvT 3 2 = false by decide +kernel) (Or.inl ⟨show duT 3 2 = Int32.ofNat 81 by decide +kernel, rfl⟩)
  obtain ⟨S5, A5, z5, e5, p5, f5⟩ := md_sign (G := G) (h := h) (b := b) (u := 47) hw hO hl p4 (show dvT 3 3 = false by decide +kernel) (by decide) (show duT 3 3 = Int32.ofNat 47 by decide +kernel)
  obtain ⟨S6, A6, c, e6, p6, f6, y6⟩ := md_num (G := G) (h := h) (b := b) (hi := 9999) hw hO hl p5 (show dvT 3 4 = false by decide +kernel) (Or.inl ⟨show duT 3 4 = Int32.ofNat 81 by decide +kernel, rfl⟩)
  obtain ⟨S7, A7, y, e7, p7, f7⟩ := md_name (G := G) (h := h) (b := b) hw hO hl p6 (show dvT 3 5 = false by decide +kernel) (show duT 3 5 = Int32.ofNat 78 by decide +kernel)
  obtain ⟨S8, A8, z8, e8, p8, f8⟩ := md_sign (G := G) (h := h) (b := b) (u := 59) hw hO hl p7 (show dvT 3 6 = false by decide +kernel) (by decide) (show duT 3 6 = Int32.ofNat 59 by decide +kernel)
  have g68 := Frm_trans (Frm_trans (Frm_trans f6 f7) f8) Frm_refl
  have g48 := Frm_trans (Frm_trans f4 f5) g68
  have ff := Frm_trans (Frm_trans f2 f3) g48
  have e1' := fun {β : Type} {f : jx_R → Option β} => bnd (f := f) e1
  have e2' := fun {β : Type} {f : jx_R → Option β} => bnd (f := f) e2
  have e3' := fun {β : Type} {f : jx_R → Option β} => bnd (f := f) e3
  have e4' := fun {β : Type} {f : jx_R → Option β} => bnd (f := f) e4
  have e5' := fun {β : Type} {f : jx_R → Option β} => bnd (f := f) e5
  have e6' := fun {β : Type} {f : jx_R → Option β} => bnd (f := f) e6
  have e7' := fun {β : Type} {f : jx_R → Option β} => bnd (f := f) e7
  have e8' := fun {β : Type} {f : jx_R → Option β} => bnd (f := f) e8
  rcases MD_live p8 with l7 | l7
  · obtain ⟨em, b4, b5, b6, b7, b13, b14, b15⟩ := g1 (ff.2.2.2.1 l7)
    subst em
    have hm := p8.1
    refine ⟨S8, kpA A8 m' x y a c, ?_, ?_⟩
    · simp (disch := omega) only [e_97_0, e_97_8, e_97_15, e_97_16, e_97_27, e_97_32, e_97_36, e_97_43, e_97_52, e_97_60, e_97_69, e_97_75, e_97_83, e_97_91, e_97_103, e_97_106, e_97_111, e_97_116, e_97_120, e_97_127, e_97_132, e_97_140, e_97_145, e_97_151, e_97_159, e_97_167, e_97_179, e_97_182, e_97_187, e_97_192, e_97_198, e_97_204, e_97_208, e_97_213, e_97_217, e_97_218, e_97_221, e_97_225, e_97_232, e_97_240, e_97_247, e_97_252, e_97_255, e_97_260, rr_v, ↓rg_kind_b, ↓rg_value_b, ↓rg_rows_b, ↓rg_good_b, h4, h5, r11, l7, ↓e1', ↓e2', ↓e3', ↓e4', ↓e5', ↓e6', ↓e7', ↓e8', ↓N_keepRow_b hm, ↓Option.bind_some, ↓jzo_0b, ↓jzo_1b, ↓jzo_bb, Option.toList_some, Option.toList_none, List.cons_append, List.nil_append, ↓reduceIte, jzo_0, jzo_1, jzo_b, jbi_t, jbi_f, i_add, ↓i_ltP, ↓i_ltN, ↓i_eqP, ↓i_eqN, i_lt, i_eq, jbi_0, pt_lt, pf_lt, pt_eq, pf_eq, pt_le, pf_le, Nat.reduceEqDiff, eq_self, true_or, or_true, false_or, or_false, true_and, and_true, false_and, and_false, jE_sw, jE_sw0]
    · obtain ⟨a', a1, a2, a3⟩ := y4 ((Frm_trans f5 g68).2.2.2.1 l7)
      obtain ⟨c', c1, c2, c3⟩ := y6 ((Frm_trans f7 f8).2.2.2.1 l7)
      have fa := ff.2.2.2.2
      have k6 : kpA A8 m' x y a c 6 m' = x := kpA_6
      have k7 : kpA A8 m' x y a c 7 m' = y := kpA_7
      have k11 : kpA A8 m' x y a c 11 m' = a := kpA_11
      have k12 : kpA A8 m' x y a c 12 m' = c := kpA_12
      have fin := fin_ok (MD_kp (x := x) (y := y) (a := a) (c := c) p8) (show dvT 3 7 = true by decide +kernel) (fun z X t1 t2 t3 t4 t5 t6 => by
        have hx : x ≠ Int32.ofNat 0 := nm_ne t6 (by simp only [List.mem_append, List.mem_cons, List.mem_nil_iff, or_true, true_or])
        refine row_ok (k := 1) (bl := 0) (aa := ac) (am := 0) (by omega) (by omega) t2 t3 t1 t5 (fun w => absurd rfl w) ⟨fun _ => rfl, fun _ => by decide⟩ (by rw [kpA_of (by decide) (by decide) (by decide) (by decide), fa 4 (by decide) (by decide) (by decide)]; exact b4) (by rw [kpA_of (by decide) (by decide) (by decide) (by decide), fa 5 (by decide) (by decide) (by decide)]; exact b5) (by rw [kpA_of (by decide) (by decide) (by decide) (by decide), fa 14 (by decide) (by decide) (by decide)]; exact b14) (by rw [kpA_of (by decide) (by decide) (by decide) (by decide), fa 15 (by decide) (by decide) (by decide)]; exact b15) (Nat.le_refl _) ?_ (fun w => absurd w (by decide)) (fun _ => ⟨a', c', a1, a2, c1, c2, a3, c3⟩) (kt_w (w := Int32.ofNat (2 ^ 0)) rfl rfl (Or.inl (by decide)))
        exact ⟨fun _ => ⟨k6, by show kpA A8 m' x y a c 6 m' ≠ _; rw [k6]; exact hx⟩, fun w => absurd w (by decide), fun _ => ⟨k11, k12, k7⟩, fun w => absurd w (by decide), fun w => absurd w (by decide), fun w => absurd w (by decide)⟩)
      rcases fin with z | z
      · exact Or.inl ⟨_, _, z, by rw [ff.2.2.1, s1]; exact h31⟩
      · exact Or.inr z
  · refine ⟨S8, A8, ?_, ?_⟩
    · simp (disch := omega) only [e_97_0, e_97_8, e_97_15, e_97_16, e_97_27, e_97_32, e_97_36, e_97_43, e_97_52, e_97_60, e_97_69, e_97_75, e_97_83, e_97_91, e_97_103, e_97_106, e_97_111, e_97_116, e_97_120, e_97_127, e_97_132, e_97_140, e_97_145, e_97_151, e_97_159, e_97_167, e_97_179, e_97_182, e_97_187, e_97_192, e_97_198, e_97_204, e_97_208, e_97_213, e_97_217, e_97_218, e_97_221, e_97_225, e_97_232, e_97_240, e_97_247, e_97_252, e_97_255, e_97_260, rr_v, ↓rg_kind_b, ↓rg_value_b, ↓rg_rows_b, ↓rg_good_b, h4, h5, r11, l7, ↓e1', ↓e2', ↓e3', ↓e4', ↓e5', ↓e6', ↓e7', ↓e8', ↓Option.bind_some, ↓jzo_0b, ↓jzo_1b, ↓jzo_bb, Option.toList_some, Option.toList_none, List.cons_append, List.nil_append, ↓reduceIte, jzo_0, jzo_1, jzo_b, jbi_t, jbi_f, i_add, ↓i_ltP, ↓i_ltN, ↓i_eqP, ↓i_eqN, i_lt, i_eq, jbi_0, pt_lt, pf_lt, pt_eq, pf_eq, pt_le, pf_le, Nat.reduceEqDiff, eq_self, true_or, or_true, false_or, or_false, true_and, and_true, false_and, and_false, jE_sw, jE_sw0]
    · rcases p8.2.2 with ⟨n, c, X, ws, q1, q2, -⟩ | z
      · have := Lv_go q2
        rw [l7] at this
        exact absurd this (by decide)
      · exact Or.inr z
theorem st_type {G : jx_Gv} {h : jx_H} {b : Nat} {wn : Nat → Int64} {f : Nat → Int32} {len : Nat} {R : Bool × jS × jR × jX} {S0 : Nat → Int32} {A0 : Nat → Nat → Int32} (hw : wnOk wn) (hO : fOct f len) (hl : len ≤ 2000) {N m ac : Nat} {S : Nat → Int32} {A : Nat → Nat → Int32} (q : Bt wn f len R S0 A0 (N + 1) 0 m ac S A) (h31 : S 31 = jm 0) (h4 : S 4 = Int32.ofNat 1) (h5 : S 5 = Int32.ofNat 2) : ∃ S' A', jE G (97, 0, [some (.ref b), none, none, none, none, none, none], [], hR h b S A) = some (none, hR h b S' A') ∧ ((∃ m' ac', Bt wn f len R S0 A0 N 0 m' ac' S' A' ∧ S' 31 = jm 0) ∨ Dd R S0 A0 S' A') := by
  obtain ⟨go, r11, m120⟩ := Bt_go q
  obtain ⟨S1, A1, m', T, e1, p1, s1, g1⟩ := bgw (G := G) (h := h) (b := b) (j := 1) (k := 2) hw hO hl q h31 (Or.inl ⟨rfl, rfl⟩) (by decide) (by decide) (by decide +kernel) h4 h5
  rw [if_neg (by decide)] at p1
  obtain ⟨S2, A2, x, e2, p2, f2⟩ := md_name (G := G) (h := h) (b := b) hw hO hl p1 (show dvT 4 0 = false by decide +kernel) (show duT 4 0 = Int32.ofNat 78 by decide +kernel)
  obtain ⟨S3, A3, z3, e3, p3, f3⟩ := md_sign (G := G) (h := h) (b := b) (u := 61) hw hO hl p2 (show dvT 4 1 = false by decide +kernel) (by decide) (show duT 4 1 = Int32.ofNat 61 by decide +kernel)
  have p3' : MD wn f len R S0 A0 (N + 1) 2 0 m' ac T (0, 4, 2, 0, false) ([(Int32.ofNat 1, Int32.ofNat (2 ^ 1))] ++ [(Int32.ofNat 2, x)] ++ [(Int32.ofNat 4, Int32.ofNat 61)]) S3 A3 := p3
  obtain ⟨S4, A4, a, e4, p4, f4⟩ := md_signed (G := G) (h := h) (b := b) hw hO hl p3' (show dvT 4 2 = false by decide +kernel) (show duT 4 2 = Int32.ofNat 86 by decide +kernel) (show duT 4 2 = Int32.ofNat 86 by decide +kernel)
  obtain ⟨S5, A5, z5, e5, p5, f5⟩ := md_to (G := G) (h := h) (b := b) hw hO hl p4 (show dvT 4 3 = false by decide +kernel) (show duT 4 3 = Int32.ofNat 84 by decide +kernel)
  have p5' : MD wn f len R S0 A0 (N + 1) 2 0 m' ac T (0, 4, 4, 0, false) ([(Int32.ofNat 1, Int32.ofNat (2 ^ 1))] ++ [(Int32.ofNat 2, x)] ++ [(Int32.ofNat 4, Int32.ofNat 61)] ++ [(Int32.ofNat 3, a)] ++ [(Int32.ofNat 1, Int32.ofNat 32768)]) S5 A5 := p5
  obtain ⟨S6, A6, c, e6, p6, f6⟩ := md_signed (G := G) (h := h) (b := b) hw hO hl p5' (show dvT 4 4 = false by decide +kernel) (show duT 4 4 = Int32.ofNat 86 by decide +kernel) (show duT 4 4 = Int32.ofNat 86 by decide +kernel)
  obtain ⟨S7, A7, y, e7, p7, f7⟩ := md_name (G := G) (h := h) (b := b) hw hO hl p6 (show dvT 4 5 = false by decide +kernel) (show duT 4 5 = Int32.ofNat 78 by decide +kernel)
  obtain ⟨S8, A8, z8, e8, p8, f8⟩ := md_sign (G := G) (h := h) (b := b) (u := 59) hw hO hl p7 (show dvT 4 6 = false by decide +kernel) (by decide) (show duT 4 6 = Int32.ofNat 59 by decide +kernel)
  have ff := Frm_trans (Frm_trans (Frm_trans (Frm_trans (Frm_trans (Frm_trans f2 f3) f4) f5) f6) f7) f8
  have e1' := fun {β : Type} {f : jx_R → Option β} => bnd (f := f) e1
  have e2' := fun {β : Type} {f : jx_R → Option β} => bnd (f := f) e2
  have e3' := fun {β : Type} {f : jx_R → Option β} => bnd (f := f) e3
  have e4' := fun {β : Type} {f : jx_R → Option β} => bnd (f := f) e4
  have e5' := fun {β : Type} {f : jx_R → Option β} => bnd (f := f) e5
  have e6' := fun {β : Type} {f : jx_R → Option β} => bnd (f := f) e6
  have e7' := fun {β : Type} {f : jx_R → Option β} => bnd (f := f) e7
  have e8' := fun {β : Type} {f : jx_R → Option β} => bnd (f := f) e8
  rcases MD_live p8 with l7 | l7
  · obtain ⟨em, b4, b5, b6, b7, b13, b14, b15⟩ := g1 (ff.2.2.2.1 l7)
    subst em
    have hm := p8.1
    refine ⟨S8, kpA A8 m' x y a c, ?_, ?_⟩
    · simp (disch := omega) only [e_97_0, e_97_8, e_97_15, e_97_16, e_97_27, e_97_32, e_97_36, e_97_43, e_97_52, e_97_60, e_97_69, e_97_75, e_97_83, e_97_91, e_97_103, e_97_106, e_97_111, e_97_116, e_97_120, e_97_127, e_97_132, e_97_140, e_97_145, e_97_151, e_97_159, e_97_167, e_97_179, e_97_182, e_97_187, e_97_192, e_97_198, e_97_204, e_97_208, e_97_213, e_97_217, e_97_218, e_97_221, e_97_225, e_97_232, e_97_240, e_97_247, e_97_252, e_97_255, e_97_260, rr_v, ↓rg_kind_b, ↓rg_value_b, ↓rg_rows_b, ↓rg_good_b, h4, h5, r11, l7, ↓e1', ↓e2', ↓e3', ↓e4', ↓e5', ↓e6', ↓e7', ↓e8', ↓N_keepRow_b hm, ↓Option.bind_some, ↓jzo_0b, ↓jzo_1b, ↓jzo_bb, Option.toList_some, Option.toList_none, List.cons_append, List.nil_append, ↓reduceIte, jzo_0, jzo_1, jzo_b, jbi_t, jbi_f, i_add, ↓i_ltP, ↓i_ltN, ↓i_eqP, ↓i_eqN, i_lt, i_eq, jbi_0, pt_lt, pf_lt, pt_eq, pf_eq, pt_le, pf_le, Nat.reduceEqDiff, eq_self, true_or, or_true, false_or, or_false, true_and, and_true, false_and, and_false, jE_sw, jE_sw0]
    · have fa := ff.2.2.2.2
      have k6 : kpA A8 m' x y a c 6 m' = x := kpA_6
      have k7 : kpA A8 m' x y a c 7 m' = y := kpA_7
      have k11 : kpA A8 m' x y a c 11 m' = a := kpA_11
      have k12 : kpA A8 m' x y a c 12 m' = c := kpA_12
      have fin := fin_ok (MD_kp (x := x) (y := y) (a := a) (c := c) p8) (show dvT 4 7 = true by decide +kernel) (fun z X t1 t2 t3 t4 t5 t6 => by
        have hx : x ≠ Int32.ofNat 0 := nm_ne t6 (by simp only [List.mem_append, List.mem_cons, List.mem_nil_iff, or_true, true_or])
        refine row_ok (k := 2) (bl := 0) (aa := ac) (am := 0) (by omega) (by omega) t2 t3 t1 t5 (fun w => absurd rfl w) ⟨fun _ => rfl, fun _ => by decide⟩ (by rw [kpA_of (by decide) (by decide) (by decide) (by decide), fa 4 (by decide) (by decide) (by decide)]; exact b4) (by rw [kpA_of (by decide) (by decide) (by decide) (by decide), fa 5 (by decide) (by decide) (by decide)]; exact b5) (by rw [kpA_of (by decide) (by decide) (by decide) (by decide), fa 14 (by decide) (by decide) (by decide)]; exact b14) (by rw [kpA_of (by decide) (by decide) (by decide) (by decide), fa 15 (by decide) (by decide) (by decide)]; exact b15) (Nat.le_refl _) ?_ (fun w => absurd w (by decide)) (fun w => absurd w (by decide)) (kt_w (w := Int32.ofNat (2 ^ 1)) rfl rfl (Or.inl (by decide)))
        exact ⟨fun _ => ⟨k6, by show kpA A8 m' x y a c 6 m' ≠ _; rw [k6]; exact hx⟩, fun w => absurd w (by decide), fun _ => ⟨k11, k12, k7⟩, fun w => absurd w (by decide), fun w => absurd w (by decide), fun w => absurd w (by decide)⟩)
      rcases fin with z | z
      · exact Or.inl ⟨_, _, z, by rw [ff.2.2.1, s1]; exact h31⟩
      · exact Or.inr z
  · refine ⟨S8, A8, ?_, ?_⟩
    · simp (disch := omega) only [e_97_0, e_97_8, e_97_15, e_97_16, e_97_27, e_97_32, e_97_36, e_97_43, e_97_52, e_97_60, e_97_69, e_97_75, e_97_83, e_97_91, e_97_103, e_97_106, e_97_111, e_97_116, e_97_120, e_97_127, e_97_132, e_97_140, e_97_145, e_97_151, e_97_159, e_97_167, e_97_179, e_97_182, e_97_187, e_97_192, e_97_198, e_97_204, e_97_208, e_97_213, e_97_217, e_97_218, e_97_221, e_97_225, e_97_232, e_97_240, e_97_247, e_97_252, e_97_255, e_97_260, rr_v, ↓rg_kind_b, ↓rg_value_b, ↓rg_rows_b, ↓rg_good_b, h4, h5, r11, l7, ↓e1', ↓e2', ↓e3', ↓e4', ↓e5', ↓e6', ↓e7', ↓e8', ↓Option.bind_some, ↓jzo_0b, ↓jzo_1b, ↓jzo_bb, Option.toList_some, Option.toList_none, List.cons_append, List.nil_append, ↓reduceIte, jzo_0, jzo_1, jzo_b, jbi_t, jbi_f, i_add, ↓i_ltP, ↓i_ltN, ↓i_eqP, ↓i_eqN, i_lt, i_eq, jbi_0, pt_lt, pf_lt, pt_eq, pf_eq, pt_le, pf_le, Nat.reduceEqDiff, eq_self, true_or, or_true, false_or, or_false, true_and, and_true, false_and, and_false, jE_sw, jE_sw0]
    · rcases p8.2.2 with ⟨n, c, X, ws, q1, q2, -⟩ | z
      · have := Lv_go q2
        rw [l7] at this
        exact absurd this (by decide)
      · exact Or.inr z
theorem st_block {G : jx_Gv} {h : jx_H} {b : Nat} {wn : Nat → Int64} {f : Nat → Int32} {len : Nat} {R : Bool × jS × jR × jX} {S0 : Nat → Int32} {A0 : Nat → Nat → Int32} (hw : wnOk wn) (hO : fOct f len) (hl : len ≤ 2000) {N m ac j k : Nat} {S : Nat → Int32} {A : Nat → Nat → Int32} (q : Bt wn f len R S0 A0 (N + 1) 0 m ac S A) (h31 : S 31 = jm 0) (hjk : j = 2 ∧ k = 3 ∨ j = 4 ∧ k = 4 ∨ j = 13 ∧ k = 5) (h4 : S 4 = Int32.ofNat 1) (h5 : S 5 = Int32.ofNat (j + 1)) : ∃ S' A', jE G (97, 0, [some (.ref b), none, none, none, none, none, none], [], hR h b S A) = some (none, hR h b S' A') ∧ ((∃ m' ac', Bt wn f len R S0 A0 N 0 m' ac' S' A' ∧ S' 31 = jm 0) ∨ Dd R S0 A0 S' A') := by
  obtain ⟨go, r11, m120⟩ := Bt_go q
  have ht : tb 0 j k = true := by rcases hjk with ⟨e1, e2⟩ | ⟨e1, e2⟩ | ⟨e1, e2⟩ <;> rw [e1, e2] <;> decide +kernel
  obtain ⟨S1, A1, m', T, e1, p1, s1, g1⟩ := bgw (G := G) (h := h) (b := b) (j := j) (k := k) hw hO hl q h31 (Or.inl ⟨rfl, rfl⟩) (by omega) (by omega) ht h4 h5
  have ef : foK k = 5 := by rcases hjk with ⟨-, e⟩ | ⟨-, e⟩ | ⟨-, e⟩ <;> rw [e] <;> rfl
  rw [if_pos (by omega), ef] at p1
  obtain ⟨S2, A2, x, e2, p2, f2⟩ := md_name (G := G) (h := h) (b := b) hw hO hl p1 (show dvT 5 0 = false by decide +kernel) (show duT 5 0 = Int32.ofNat 78 by decide +kernel)
  obtain ⟨S3, A3, z3, e3, p3, f3⟩ := md_sign (G := G) (h := h) (b := b) (u := 123) hw hO hl p2 (show dvT 5 1 = false by decide +kernel) (by decide) (show duT 5 1 = Int32.ofNat 123 by decide +kernel)
  have ff := Frm_trans f2 f3
  have e1' := fun {β : Type} {f : jx_R → Option β} => bnd (f := f) e1
  have e2' := fun {β : Type} {f : jx_R → Option β} => bnd (f := f) e2
  have e3' := fun {β : Type} {f : jx_R → Option β} => bnd (f := f) e3
  have run : ∀ {Sx : Nat → Int32} {Ax : Nat → Nat → Int32}, (S3 7 = Int32.ofNat 1 ∧ m < 120 ∧ Sx = S3 ∧ Ax = upA A3 6 (upd (A3 6) m x) ∨ S3 7 = Int32.ofNat 0 ∧ Sx = S3 ∧ Ax = A3) → ∀ {S' : Nat → Int32} {A' : Nat → Nat → Int32}, jE G (96, 5, [some (.ref b), some (.int (Int32.ofNat m))], [], hR h b (upd Sx 31 (Int32.ofNat m)) Ax) = some (none, hR h b S' A') → jE G (97, 0, [some (.ref b), none, none, none, none, none, none], [], hR h b S A) = some (none, hR h b S' A') := by
    intro Sx Ax hx S' A' em
    have em0 : jE G (96, 0, [some (.ref b), some (.int (Int32.ofNat m))], [], hR h b Sx Ax) = some (none, hR h b S' A') := by
      rw [← em]
      simp (disch := omega) only [e_96_0, e_96_12, e_96_20, e_96_29, e_96_39, e_96_42, e_96_48, ↓rp_block_b, ↓Option.bind_some, ↓jzo_0b, ↓jzo_1b, ↓jzo_bb, Option.toList_some, Option.toList_none, List.cons_append, List.nil_append, ↓reduceIte, jzo_0, jzo_1, jzo_b, jbi_t, jbi_f, i_add, ↓i_ltP, ↓i_ltN, ↓i_eqP, ↓i_eqN, i_lt, i_eq, jbi_0, pt_lt, pf_lt, pt_eq, pf_eq, pt_le, pf_le, Nat.reduceEqDiff, eq_self, true_or, or_true, false_or, or_false, true_and, and_true, false_and, and_false, jE_sw, jE_sw0]
    have em' := fun {β : Type} {f : jx_R → Option β} => bnd (f := f) em0
    rcases hx with ⟨l7, hm, y1, y2⟩ | ⟨l7, y1, y2⟩
    · subst y1 y2
      rcases hjk with ⟨w1, w2⟩ | ⟨w1, w2⟩ | ⟨w1, w2⟩ <;> subst w1 <;> subst w2 <;> simp (disch := omega) only [e_97_0, e_97_8, e_97_15, e_97_16, e_97_27, e_97_32, e_97_36, e_97_43, e_97_52, e_97_60, e_97_69, e_97_75, e_97_83, e_97_91, e_97_103, e_97_106, e_97_111, e_97_116, e_97_120, e_97_127, e_97_132, e_97_140, e_97_145, e_97_151, e_97_159, e_97_167, e_97_179, e_97_182, e_97_187, e_97_192, e_97_198, e_97_204, e_97_208, e_97_213, e_97_217, e_97_218, e_97_221, e_97_225, e_97_232, e_97_240, e_97_247, e_97_252, e_97_255, e_97_260, rr_v, ↓rg_kind_b, ↓rg_value_b, ↓rg_rows_b, ↓rg_good_b, h4, h5, r11, l7, Nat.reduceAdd, ↓e1', ↓e2', ↓e3', ↓ra_given_b, ↓rs_given_b, ↓em', ↓Option.bind_some, ↓jzo_0b, ↓jzo_1b, ↓jzo_bb, Option.toList_some, Option.toList_none, List.cons_append, List.nil_append, ↓reduceIte, jzo_0, jzo_1, jzo_b, jbi_t, jbi_f, i_add, ↓i_ltP, ↓i_ltN, ↓i_eqP, ↓i_eqN, i_lt, i_eq, jbi_0, pt_lt, pf_lt, pt_eq, pf_eq, pt_le, pf_le, Nat.reduceEqDiff, eq_self, true_or, or_true, false_or, or_false, true_and, and_true, false_and, and_false, jE_sw, jE_sw0]
    · subst y1 y2
      rcases hjk with ⟨w1, w2⟩ | ⟨w1, w2⟩ | ⟨w1, w2⟩ <;> subst w1 <;> subst w2 <;> simp (disch := omega) only [e_97_0, e_97_8, e_97_15, e_97_16, e_97_27, e_97_32, e_97_36, e_97_43, e_97_52, e_97_60, e_97_69, e_97_75, e_97_83, e_97_91, e_97_103, e_97_106, e_97_111, e_97_116, e_97_120, e_97_127, e_97_132, e_97_140, e_97_145, e_97_151, e_97_159, e_97_167, e_97_179, e_97_182, e_97_187, e_97_192, e_97_198, e_97_204, e_97_208, e_97_213, e_97_217, e_97_218, e_97_221, e_97_225, e_97_232, e_97_240, e_97_247, e_97_252, e_97_255, e_97_260, rr_v, ↓rg_kind_b, ↓rg_value_b, ↓rg_rows_b, ↓rg_good_b, h4, h5, r11, l7, Nat.reduceAdd, ↓e1', ↓e2', ↓e3', ↓em', ↓Option.bind_some, ↓jzo_0b, ↓jzo_1b, ↓jzo_bb, Option.toList_some, Option.toList_none, List.cons_append, List.nil_append, ↓reduceIte, jzo_0, jzo_1, jzo_b, jbi_t, jbi_f, i_add, ↓i_ltP, ↓i_ltN, ↓i_eqP, ↓i_eqN, i_lt, i_eq, jbi_0, pt_lt, pf_lt, pt_eq, pf_eq, pt_le, pf_le, Nat.reduceEqDiff, eq_self, true_or, or_true, false_or, or_false, true_and, and_true, false_and, and_false, jE_sw, jE_sw0]
  rcases MD_live p3 with l7 | l7
  · obtain ⟨em, b4, b5, b6, b7, b13, b14, b15⟩ := g1 (ff.2.2.2.1 l7)
    subst em
    have hm := p3.1
    have fa := ff.2.2.2.2
    have fin := fin_ok (MD_up (o := 6) (x := x) p3 (by decide) (by decide)) (show dvT 5 2 = true by decide +kernel) (fun z X t1 t2 t3 t4 t5 t6 => by
      have hx : x ≠ Int32.ofNat 0 := nm_ne t6 (by simp only [List.mem_append, List.mem_cons, List.mem_nil_iff, or_true, true_or])
      refine row_ok (k := k) (bl := 0) (aa := ac) (am := 0) (by omega) (by omega) t2 t3 t1 t5 (fun w => absurd rfl w) ⟨fun _ => rfl, fun _ => by omega⟩ (by rw [upA_of (by decide), fa 4 (by decide) (by decide) (by decide)]; exact b4) (by rw [upA_of (by decide), fa 5 (by decide) (by decide) (by decide)]; exact b5) (by rw [upA_of (by decide), fa 14 (by decide) (by decide) (by decide)]; exact b14) (by rw [upA_of (by decide), fa 15 (by decide) (by decide) (by decide)]; exact b15) (Nat.le_refl _) ?_ (fun w => by omega) (fun w => by omega) (by
        have kz : Int32.ofNat 123 ≠ Int32.ofNat 58 := by decide
        refine (kt_w (L := [(Int32.ofNat 1, Int32.ofNat (2 ^ j))] ++ [(Int32.ofNat 2, x)] ++ [(Int32.ofNat 4, Int32.ofNat 123)]) (w := Int32.ofNat (2 ^ j)) rfl rfl (Or.inr kz)).trans ?_
        rcases hjk with ⟨w1, w2⟩ | ⟨w1, w2⟩ | ⟨w1, w2⟩ <;> rw [w1, w2] <;> rfl)
      have v6 : vGi (yA 0 (upA A3 6 (upd (A3 6) m' x))) (m' + 1) = x := by
        show upA A3 6 (upd (A3 6) m' x) 6 m' = x
        rw [upA_at, upd_at]
      exact ⟨fun _ => ⟨v6, by rw [v6]; exact hx⟩, fun w => by omega, fun w => by omega, fun w => by omega, fun w => by omega, fun w => by omega⟩)
    rcases fin with z | z
    · have z31 := Bt_31 (x := Int32.ofNat m') z
      obtain ⟨S', A', e4, y⟩ := mbs (G := G) (h := h) (b := b) hw hO hl N z31 (by rw [upd_at, jm_s])
      exact ⟨S', A', run (Or.inl ⟨l7, hm, rfl, rfl⟩) e4, y⟩
    · have := z.1
      rw [l7] at this
      exact absurd this (by decide)
  · rcases p3.2.2 with ⟨n, c, X, ws, q1, q2, -⟩ | z
    · have := Lv_go q2
      rw [l7] at this
      exact absurd this (by decide)
    · obtain ⟨S', e4, y⟩ := mbs_dead (G := G) (h := h) (b := b) (x := Int32.ofNat m) (Dd_31 (x := Int32.ofNat m) z)
      exact ⟨S', A3, run (Or.inr ⟨l7, rfl, rfl⟩) e4, Or.inr y⟩
theorem N_stmtN {G : jx_Gv} {h : jx_H} {b : Nat} {S : Nat → Int32} {A : Nat → Nat → Int32} {m : Nat} (h7 : S 7 = Int32.ofNat 1) (h11 : S 11 = Int32.ofNat m) (hn : ¬ (S 4 = Int32.ofNat 1 ∧ (S 5 = Int32.ofNat 1 ∨ S 5 = Int32.ofNat 2 ∨ S 5 = Int32.ofNat 3 ∨ S 5 = Int32.ofNat 5 ∨ S 5 = Int32.ofNat 14))) : jE G (97, 0, [some (.ref b), none, none, none, none, none, none], [], hR h b S A) = some (none, hR h b (upd S 7 (Int32.ofNat 0)) A) := by
  by_cases c4 : S 4 = Int32.ofNat 1
  · have c1 : ¬ S 5 = Int32.ofNat 1 := fun z => hn ⟨c4, Or.inl z⟩
    have c2 : ¬ S 5 = Int32.ofNat 2 := fun z => hn ⟨c4, Or.inr (Or.inl z)⟩
    have c3 : ¬ S 5 = Int32.ofNat 3 := fun z => hn ⟨c4, Or.inr (Or.inr (Or.inl z))⟩
    have c5 : ¬ S 5 = Int32.ofNat 5 := fun z => hn ⟨c4, Or.inr (Or.inr (Or.inr (Or.inl z)))⟩
    have c14 : ¬ S 5 = Int32.ofNat 14 := fun z => hn ⟨c4, Or.inr (Or.inr (Or.inr (Or.inr z)))⟩
    simp (disch := omega) only [e_97_0, e_97_8, e_97_15, e_97_16, e_97_27, e_97_32, e_97_36, e_97_43, e_97_52, e_97_60, e_97_69, e_97_75, e_97_83, e_97_91, e_97_103, e_97_106, e_97_111, e_97_116, e_97_120, e_97_127, e_97_132, e_97_140, e_97_145, e_97_151, e_97_159, e_97_167, e_97_179, e_97_182, e_97_187, e_97_192, e_97_198, e_97_204, e_97_208, e_97_213, e_97_217, e_97_218, e_97_221, e_97_225, e_97_232, e_97_240, e_97_247, e_97_252, e_97_255, e_97_260, rr_v, ↓rg_kind_b, ↓rg_value_b, ↓rg_rows_b, ↓rp_good_b, c4, c1, c2, c3, c5, c14, ↓Option.bind_some, ↓jzo_0b, ↓jzo_1b, ↓jzo_bb, Option.toList_some, Option.toList_none, List.cons_append, List.nil_append, ↓reduceIte, jzo_0, jzo_1, jzo_b, jbi_t, jbi_f, i_add, ↓i_ltP, ↓i_ltN, ↓i_eqP, ↓i_eqN, i_lt, i_eq, jbi_0, pt_lt, pf_lt, pt_eq, pf_eq, pt_le, pf_le, Nat.reduceEqDiff, eq_self, true_or, or_true, false_or, or_false, true_and, and_true, false_and, and_false, jE_sw, jE_sw0]
  · simp (disch := omega) only [e_97_0, e_97_8, e_97_15, e_97_16, e_97_27, e_97_32, e_97_36, e_97_43, e_97_52, e_97_60, e_97_69, e_97_75, e_97_83, e_97_91, e_97_103, e_97_106, e_97_111, e_97_116, e_97_120, e_97_127, e_97_132, e_97_140, e_97_145, e_97_151, e_97_159, e_97_167, e_97_179, e_97_182, e_97_187, e_97_192, e_97_198, e_97_204, e_97_208, e_97_213, e_97_217, e_97_218, e_97_221, e_97_225, e_97_232, e_97_240, e_97_247, e_97_252, e_97_255, e_97_260, rr_v, ↓rg_kind_b, ↓rg_value_b, ↓rg_rows_b, ↓rp_good_b, c4, ↓Option.bind_some, ↓jzo_0b, ↓jzo_1b, ↓jzo_bb, Option.toList_some, Option.toList_none, List.cons_append, List.nil_append, ↓reduceIte, jzo_0, jzo_1, jzo_b, jbi_t, jbi_f, i_add, ↓i_ltP, ↓i_ltN, ↓i_eqP, ↓i_eqN, i_lt, i_eq, jbi_0, pt_lt, pf_lt, pt_eq, pf_eq, pt_le, pf_le, Nat.reduceEqDiff, eq_self, true_or, or_true, false_or, or_false, true_and, and_true, false_and, and_false, jE_sw, jE_sw0]
theorem N_stmtN_b {G : jx_Gv} {h : jx_H} {b : Nat} {S : Nat → Int32} {A : Nat → Nat → Int32} {m : Nat} (h7 : S 7 = Int32.ofNat 1) (h11 : S 11 = Int32.ofNat m) (hn : ¬ (S 4 = Int32.ofNat 1 ∧ (S 5 = Int32.ofNat 1 ∨ S 5 = Int32.ofNat 2 ∨ S 5 = Int32.ofNat 3 ∨ S 5 = Int32.ofNat 5 ∨ S 5 = Int32.ofNat 14))) {β_ : Type} {f_ : jx_R → Option β_} : (jE G (97, 0, [some (.ref b), none, none, none, none, none, none], [], hR h b S A)).bind f_ = f_ ((none, hR h b (upd S 7 (Int32.ofNat 0)) A)) := bnd (N_stmtN h7 h11 hn)
theorem stm {G : jx_Gv} {h : jx_H} {b : Nat} {wn : Nat → Int64} {f : Nat → Int32} {len : Nat} {R : Bool × jS × jR × jX} {S0 : Nat → Int32} {A0 : Nat → Nat → Int32} (hw : wnOk wn) (hO : fOct f len) (hl : len ≤ 2000) {N m ac : Nat} {S : Nat → Int32} {A : Nat → Nat → Int32} (q : Bt wn f len R S0 A0 (N + 1) 0 m ac S A) (h31 : S 31 = jm 0) (hz : S 4 ≠ Int32.ofNat 0) : ∃ S' A', jE G (97, 0, [some (.ref b), none, none, none, none, none, none], [], hR h b S A) = some (none, hR h b S' A') ∧ ((∃ m' ac', Bt wn f len R S0 A0 N 0 m' ac' S' A' ∧ S' 31 = jm 0) ∨ Dd R S0 A0 S' A') := by
  obtain ⟨go, r11, m120⟩ := Bt_go q
  by_cases c4 : S 4 = Int32.ofNat 1
  · by_cases d1 : S 5 = Int32.ofNat 1
    · exact st_unit hw hO hl q h31 c4 d1
    by_cases d2 : S 5 = Int32.ofNat 2
    · exact st_type hw hO hl q h31 c4 d2
    by_cases d3 : S 5 = Int32.ofNat 3
    · exact st_block (j := 2) (k := 3) hw hO hl q h31 (by decide) c4 d3
    by_cases d5 : S 5 = Int32.ofNat 5
    · exact st_block (j := 4) (k := 4) hw hO hl q h31 (by decide) c4 d5
    by_cases d14 : S 5 = Int32.ofNat 14
    · exact st_block (j := 13) (k := 5) hw hO hl q h31 (by decide) c4 d14
    refine ⟨_, _, N_stmtN go r11 (fun z => ?_), Or.inr (bgn q (Or.inl ⟨rfl, rfl⟩) (fun _ => hz) (fun w => absurd rfl w) (fun j hj y4 y5 => ?_))⟩
    · rcases z.2 with w | w | w | w | w
      · exact d1 w
      · exact d2 w
      · exact d3 w
      · exact d5 w
      · exact d14 w
    · have y6 : ∀ i : Nat, j + 1 = i → S 5 = Int32.ofNat i := fun i e => by rw [y5, e]
      intro k hk
      cases et : tb 0 j k
      · rfl
      · exfalso
        rcases k_tbs j hj k hk et with w | w | w | w | w
        · exact d1 (y6 _ w)
        · exact d2 (y6 _ w)
        · exact d3 (y6 _ w)
        · exact d5 (y6 _ w)
        · exact d14 (y6 _ w)
  · exact ⟨_, _, N_stmtN go r11 (fun z => c4 z.1), Or.inr (bgn q (Or.inl ⟨rfl, rfl⟩) (fun _ => hz) (fun w => absurd rfl w) (fun j hj y4 y5 => absurd y4 c4))⟩
