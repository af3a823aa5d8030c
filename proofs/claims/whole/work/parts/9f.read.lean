/-! THE REFERENCE READS A TEXT -/
theorem i_any (x : Int32) : ∃ n : Nat, x = Int32.ofNat n := ⟨ntf x, (ofn_ntf x).symm⟩
theorem adv_sort {wn : Nat → Int64} {f : Nat → Int32} {len N : Nat} {c : jS} (hw : wnOk wn) (hO : fOct f len) (hl : len ≤ 2000) (hP : Pl f len c N) : (adv wn f len c).2.2.1 ≠ Int32.ofNat 0 := by
  obtain ⟨s, l, a1, a2, a3, a4, a5, a6, a7⟩ := adv_shape hw hO hl hP
  generalize adv wn f len c = q at *
  rcases a7 with sh | sh | sh | sh
  · rw [sh.2.2.2]; decide
  · rcases sh.2.2.2.2 with z | z
    · rw [z.2.1]; decide
    · rw [z.2.2.2.2.1]; split <;> decide
  · rcases sh.2.2.2 with z | z
    · rw [z.2.1]; decide
    · rw [z.2.2.2.1]; decide
  · rw [sh.2.2.2.2.2.2.1]
    cases rsg (toc f len s) <;> decide
/-- the text was read to its end -/
def Fin (wn : Nat → Int64) (f : Nat → Int32) (len : Nat) (R : Bool × jS × jR × jX) (S0 : Nat → Int32) (A0 : Nat → Nat → Int32) (S : Nat → Int32) (A : Nat → Nat → Int32) : Prop := R.1 = true ∧ S 4 = Int32.ofNat 0 ∧ ∃ n c D ws ac, Lv wn f len R S0 A0 S A n c D R.2.2.2 ws [] (xRc R.2.2.2) ac
theorem rd_fin {wn : Nat → Int64} {f : Nat → Int32} {len : Nat} {R : Bool × jS × jR × jX} {S0 : Nat → Int32} {A0 : Nat → Nat → Int32} (hw : wnOk wn) (hO : fOct f len) (hl : len ≤ 2000) {N m ac : Nat} {S : Nat → Int32} {A : Nat → Nat → Int32} (q : Bt wn f len R S0 A0 N 0 m ac S A) (h4 : S 4 = Int32.ofNat 0) : Fin wn f len R S0 A0 S A := by
  obtain ⟨n, c, X, ws, D, n1, q2, q3, q4, q5, q6⟩ := q
  have tk := Lv_tk q2
  have h6 : (adv wn f len c).2.2.1 = Int32.ofNat 6 := by
    have z := tk.2.1
    rw [h4] at z
    unfold rk at z
    by_cases c6 : (adv wn f len c).2.2.1 = Int32.ofNat 6
    · exact c6
    · rw [if_neg c6] at z
      exact absurd z.symm (adv_sort hw hO hl (Lv_pl q2))
  have eR : R = (true, adv wn f len c, D, X) := by
    rw [← Lv_fl q2]
    obtain ⟨k, rfl⟩ : ∃ k, n = k + 1 := ⟨n - 1, by have := Lv_fu q2; have := (Lv_fi q2).1; omega⟩
    rw [fl, if_pos h6, q4, q5]
    rfl
  have eX : R.2.2.2 = X := by rw [eR]
  refine ⟨by rw [eR], h4, n, c, D, ws, ac, ?_⟩
  rw [eX, q3]
  exact q2
theorem rd_loop {G : jx_Gv} {h : jx_H} {b : Nat} {wn : Nat → Int64} {f : Nat → Int32} {len : Nat} {R : Bool × jS × jR × jX} {S0 : Nat → Int32} {A0 : Nat → Nat → Int32} (hw : wnOk wn) (hO : fOct f len) (hl : len ≤ 2000) {z : Option Value} : ∀ (N : Nat) {m ac : Nat} {S : Nat → Int32} {A : Nat → Nat → Int32}, Bt wn f len R S0 A0 N 0 m ac S A → S 31 = jm 0 → ∃ S' A', jE G (105, 44, [some (.ref b), z], [], hR h b S A) = jE G (105, 65, [some (.ref b), z], [], hR h b S' A') ∧ (Fin wn f len R S0 A0 S' A' ∨ Dd R S0 A0 S' A') := by
  intro N
  induction N with
  | zero =>
    intro m ac S A q h31
    exact absurd (Bt_pos q) (by decide)
  | succ N ih =>
    intro m ac S A q h31
    obtain ⟨go, r11, m120⟩ := Bt_go q
    by_cases c4 : S 4 = Int32.ofNat 0
    · refine ⟨S, A, ?_, Or.inl (rd_fin hw hO hl q c4)⟩
      rw [e_105_44]
      simp (disch := omega) only [e_105_51, ↓rg_good_b, ↓rg_kind_b, go, c4, ↓Option.bind_some, ↓jzo_0b, ↓jzo_1b, ↓jzo_bb, Option.toList_some, Option.toList_none, List.cons_append, List.nil_append, ↓reduceIte, jzo_0, jzo_1, jzo_b, jbi_t, jbi_f, i_add, ↓i_ltP, ↓i_ltN, ↓i_eqP, ↓i_eqN, i_lt, i_eq, jbi_0, pt_lt, pf_lt, pt_eq, pf_eq, pt_le, pf_le, Nat.reduceEqDiff, eq_self, true_or, or_true, false_or, or_false, true_and, and_true, false_and, and_false, jE_sw, jE_sw0]
    · obtain ⟨S1, A1, e1, y⟩ := stm (G := G) (h := h) (b := b) hw hO hl q h31 c4
      have e1' := fun {β : Type} {f : jx_R → Option β} => bnd (f := f) e1
      have step : jE G (105, 44, [some (.ref b), z], [], hR h b S A) = jE G (105, 44, [some (.ref b), z], [], hR h b S1 A1) := by
        rw [e_105_44]
        simp (disch := omega) only [e_105_51, e_105_58, e_105_62, rr_v, ↓rg_good_b, ↓rg_kind_b, go, c4, ↓e1', ↓Option.bind_some, ↓jzo_0b, ↓jzo_1b, ↓jzo_bb, Option.toList_some, Option.toList_none, List.cons_append, List.nil_append, ↓reduceIte, jzo_0, jzo_1, jzo_b, jbi_t, jbi_f, i_add, ↓i_ltP, ↓i_ltN, ↓i_eqP, ↓i_eqN, i_lt, i_eq, jbi_0, pt_lt, pf_lt, pt_eq, pf_eq, pt_le, pf_le, Nat.reduceEqDiff, eq_self, true_or, or_true, false_or, or_false, true_and, and_true, false_and, and_false, jE_sw, jE_sw0]
      rw [step]
      rcases y with ⟨m', ac', y, y31⟩ | y
      · exact ih y y31
      · refine ⟨S1, A1, ?_, Or.inr y⟩
        have y7 := y.1
        rw [e_105_44]
        simp (disch := omega) only [↓rg_good_b, y7, ↓Option.bind_some, ↓jzo_0b, ↓jzo_1b, ↓jzo_bb, Option.toList_some, Option.toList_none, List.cons_append, List.nil_append, ↓reduceIte, jzo_0, jzo_1, jzo_b, jbi_t, jbi_f, i_add, ↓i_ltP, ↓i_ltN, ↓i_eqP, ↓i_eqN, i_lt, i_eq, jbi_0, pt_lt, pf_lt, pt_eq, pf_eq, pt_le, pf_le, Nat.reduceEqDiff, eq_self, true_or, or_true, false_or, or_false, true_and, and_true, false_and, and_false, jE_sw, jE_sw0]
/-- the numbers when a reading begins -/
def rS0 (S : Nat → Int32) : Nat → Int32 := upd (upd (upd (upd (upd (upd (upd (upd S 2 (Int32.ofNat 0)) 3 (Int32.ofNat 1)) 7 (Int32.ofNat 1)) 8 (Int32.ofNat 0)) 11 (Int32.ofNat 0)) 24 (Int32.ofNat 0)) 28 (Int32.ofNat 0)) 31 (-(Int32.ofNat 1))
theorem rd_all {G : jx_Gv} {h : jx_H} {b : Nat} {wn : Nat → Int64} {f : Nat → Int32} {len : Nat} (hw : wnOk wn) (hO : fOct f len) (hl : len ≤ 2000) {S : Nat → Int32} {A : Nat → Nat → Int32} {c : jS} {D : jR} {X : jX} (ha : D.2.2.2.1 ≤ 8) (h0 : S 0 = Int32.ofNat len) (h1 : A 1 = f) (hA : hLn A) : ∃ S' A', jE G (105, 0, [some (.ref b), none], [], hR h b S A) = jE G (105, 65, [some (.ref b), none], [], hR h b S' A') ∧ (Fin wn f len (fl0 wn f len c D X) S A S' A' ∨ Dd (fl0 wn f len c D X) S A S' A') := by
  have u : ∀ j : Nat, j ≠ 2 → j ≠ 3 → j ≠ 7 → j ≠ 8 → j ≠ 11 → j ≠ 24 → j ≠ 28 → j ≠ 31 → rS0 S j = S j := fun j a2 a3 a7 a8 a11 a24 a28 a31 => by
    unfold rS0
    rw [upd_of a31, upd_of a28, upd_of a24, upd_of a11, upd_of a8, upd_of a7, upd_of a3, upd_of a2]
  have v2 : rS0 S 2 = Int32.ofNat 0 := by
    unfold rS0
    simp (disch := decide) only [upd_of, upd_at]
  have v3 : rS0 S 3 = Int32.ofNat 1 := by
    unfold rS0
    simp (disch := decide) only [upd_of, upd_at]
  have v7 : rS0 S 7 = Int32.ofNat 1 := by
    unfold rS0
    simp (disch := decide) only [upd_of, upd_at]
  have v8 : rS0 S 8 = Int32.ofNat 0 := by
    unfold rS0
    simp (disch := decide) only [upd_of, upd_at]
  have v11 : rS0 S 11 = Int32.ofNat 0 := by
    unfold rS0
    simp (disch := decide) only [upd_of, upd_at]
  have v24 : rS0 S 24 = Int32.ofNat 0 := by
    unfold rS0
    simp (disch := decide) only [upd_of, upd_at]
  have v28 : rS0 S 28 = Int32.ofNat 0 := by
    unfold rS0
    simp (disch := decide) only [upd_of, upd_at]
  have v31 : rS0 S 31 = jm 0 := upd_at.trans jmz
  obtain ⟨tl, etl⟩ := i_any (rS0 S 6)
  have pl0 : Pl f len (0, 1, c.2.2) 0 := ⟨Nat.zero_le _, Nat.le_refl 1, Or.inl rfl, Nat.zero_le _, fun _ => Nat.le_refl 0⟩
  obtain ⟨S1, A1, e1, k1, k2, k3, k4⟩ := nx_ok (G := G) (h := h) (b := b) (S := rS0 S) (A := A) (wn := wn) (f := f) (len := len) (c := (0, 1, c.2.2)) (X := xsRc (xsNc (xsTc X 0) 0) 0) (k := rS0 S 4) (v := rS0 S 5) (tl := tl) hw hO hl ((u 0 (by decide) (by decide) (by decide) (by decide) (by decide) (by decide) (by decide) (by decide)).trans h0) h1 hA (fun i hi => absurd hi (Nat.not_lt_zero _)) v8 pl0
  have eL : hL h b (rS0 S) A 0 1 (rS0 S 4) (rS0 S 5) tl = hR h b (rS0 S) A := by
    unfold hL
    rw [lS_self v2 v3 etl]
  have e1a : jE G (77, 0, [some (.ref b), none, none, none], [], hR h b (rS0 S) A) = some (none, hR h b S1 A1) := by rw [← eL]; exact e1
  have e1' := fun {β : Type} {f : jx_R → Option β} => bnd (f := f) e1a
  have start : jE G (105, 0, [some (.ref b), none], [], hR h b S A) = jE G (105, 44, [some (.ref b), none], [], hR h b S1 A1) := by
    unfold rS0 at e1'
    simp (disch := omega) only [e_105_0, e_105_40, rr_v, ↓rp_at_b, ↓rp_line_b, ↓rp_good_b, ↓rp_names_b, ↓rp_rows_b, ↓rp_accesses_b, ↓rp_written_b, ↓rp_block_b, ↓e1', ↓Option.bind_some, ↓jzo_0b, ↓jzo_1b, ↓jzo_bb, Option.toList_some, Option.toList_none, List.cons_append, List.nil_append, ↓reduceIte, jzo_0, jzo_1, jzo_b, jbi_t, jbi_f, i_add, ↓i_ltP, ↓i_ltN, ↓i_eqP, ↓i_eqN, i_lt, i_eq, jbi_0, pt_lt, pf_lt, pt_eq, pf_eq, pt_le, pf_le, Nat.reduceEqDiff, eq_self, true_or, or_true, false_or, or_false, true_and, and_true, false_and, and_false, jE_sw, jE_sw0]
  have s7 := k3 7 (by decide) (by decide) (by decide) (by decide) (by decide) (by decide)
  have s11 := k3 11 (by decide) (by decide) (by decide) (by decide) (by decide) (by decide)
  have s24 := k3 24 (by decide) (by decide) (by decide) (by decide) (by decide) (by decide)
  have s28 := k3 28 (by decide) (by decide) (by decide) (by decide) (by decide) (by decide)
  have s31 := k3 31 (by decide) (by decide) (by decide) (by decide) (by decide) (by decide)
  have s0 := k3 0 (by decide) (by decide) (by decide) (by decide) (by decide) (by decide)
  have lv : Lv wn f len (fl0 wn f len c D X) S A S1 A1 2001 (0, 1, c.2.2) (0, 1, 0, D.2.2.2.1, false) (xsRc (xsNc (xsTc X 0) 0) 0) (fun _ => 0) [] 0 0 := by
    refine ⟨rfl, (by show len < 0 + 2001; omega), fI_0 ha, s0.trans ((u 0 (by decide) (by decide) (by decide) (by decide) (by decide) (by decide) (by decide) (by decide)).trans h0), (k4 1 (by decide) (by decide)).trans h1, k2, pl0, k1, s7.trans v7, s11.trans v11, rfl, ⟨s28.trans v28, Nat.zero_le _⟩, fun i hi => absurd hi (Nat.not_lt_zero _), fun r r1 r2 => ?_, fun i hi => absurd hi (Nat.not_lt_zero _), ⟨s24.trans v24, Nat.zero_le _⟩, ⟨?_, ?_, ?_, fun k hk => k4 k (by omega) (by omega)⟩, fun r r1 r2 => ?_, fun r r1 r2 => ?_, fun z => absurd rfl z, fun r r1 r2 => ?_, Nat.zero_le _⟩
    · have : r ≤ 0 := r2
      omega
    · exact (k3 32 (by decide) (by decide) (by decide) (by decide) (by decide) (by decide)).trans (u 32 (by decide) (by decide) (by decide) (by decide) (by decide) (by decide) (by decide) (by decide))
    · exact (k3 33 (by decide) (by decide) (by decide) (by decide) (by decide) (by decide)).trans (u 33 (by decide) (by decide) (by decide) (by decide) (by decide) (by decide) (by decide) (by decide))
    · exact (k3 51 (by decide) (by decide) (by decide) (by decide) (by decide) (by decide)).trans (u 51 (by decide) (by decide) (by decide) (by decide) (by decide) (by decide) (by decide) (by decide))
    · have : r ≤ 0 := r2
      omega
    · have : r ≤ 0 := r2
      omega
    · omega
  have bt : Bt wn f len (fl0 wn f len c D X) S A 2001 0 0 0 S1 A1 := ⟨2001, _, _, _, _, Nat.le_refl _, lv, rfl, rfl, rfl, rfl⟩
  obtain ⟨S', A', e2, y⟩ := rd_loop (G := G) (h := h) (b := b) (z := none) hw hO hl 2001 bt (s31.trans v31)
  exact ⟨S', A', start.trans e2, y⟩
