/-! A ROW IS BEGUN IN BOTH -/
def bgA (A : Nat → Nat → Int32) (S : Nat → Int32) (m : Nat) (k : Int32) : Nat → Nat → Int32 := upA (upA (upA (upA (upA (upA (upA (upA A 20 (upd (A 20) m (S 28))) 4 (upd (A 4) m k)) 5 (upd (A 5) m (S 31))) 6 (upd (A 6) m (Int32.ofNat 0))) 7 (upd (A 7) m (Int32.ofNat 0))) 13 (upd (A 13) m (Int32.ofNat 0))) 14 (upd (A 14) m (S 24))) 15 (upd (A 15) m (Int32.ofNat 0))
section BGA
variable {A : Nat → Nat → Int32} {S : Nat → Int32} {m : Nat} {k : Int32}
theorem bgA_20 : bgA A S m k 20 = upd (A 20) m (S 28) := by
  unfold bgA
  simp (disch := decide) only [upA_of, upA_at]
theorem bgA_4 : bgA A S m k 4 = upd (A 4) m k := by
  unfold bgA
  simp (disch := decide) only [upA_of, upA_at]
theorem bgA_5 : bgA A S m k 5 = upd (A 5) m (S 31) := by
  unfold bgA
  simp (disch := decide) only [upA_of, upA_at]
theorem bgA_6 : bgA A S m k 6 = upd (A 6) m (Int32.ofNat 0) := by
  unfold bgA
  simp (disch := decide) only [upA_of, upA_at]
theorem bgA_7 : bgA A S m k 7 = upd (A 7) m (Int32.ofNat 0) := by
  unfold bgA
  simp (disch := decide) only [upA_of, upA_at]
theorem bgA_13 : bgA A S m k 13 = upd (A 13) m (Int32.ofNat 0) := by
  unfold bgA
  simp (disch := decide) only [upA_of, upA_at]
theorem bgA_14 : bgA A S m k 14 = upd (A 14) m (S 24) := by
  unfold bgA
  simp (disch := decide) only [upA_of, upA_at]
theorem bgA_15 : bgA A S m k 15 = upd (A 15) m (Int32.ofNat 0) := by
  unfold bgA
  simp (disch := decide) only [upA_of, upA_at]
theorem bgA_of {j : Nat} (h : j < 4 ∨ 15 < j) (h20 : j ≠ 20) : bgA A S m k j = A j := by
  unfold bgA
  simp (disch := omega) only [upA_of]
theorem bgA_lo {j i : Nat} (hi : i ≠ m) : bgA A S m k j i = A j i := by
  by_cases c4 : j = 4
  · rw [c4, bgA_4, upd_of hi]
  by_cases c5 : j = 5
  · rw [c5, bgA_5, upd_of hi]
  by_cases c6 : j = 6
  · rw [c6, bgA_6, upd_of hi]
  by_cases c7 : j = 7
  · rw [c7, bgA_7, upd_of hi]
  by_cases c13 : j = 13
  · rw [c13, bgA_13, upd_of hi]
  by_cases c14 : j = 14
  · rw [c14, bgA_14, upd_of hi]
  by_cases c15 : j = 15
  · rw [c15, bgA_15, upd_of hi]
  by_cases c20 : j = 20
  · rw [c20, bgA_20, upd_of hi]
  unfold bgA
  simp (disch := omega) only [upA_of]
end BGA
theorem N_begin0 {G : jx_Gv} {h : jx_H} {b : Nat} {S : Nat → Int32} {A : Nat → Nat → Int32} {x : Int32} (h7 : S 7 = Int32.ofNat 0) : jE G (83, 0, [some (.ref b), some (.int x)], [], hR h b S A) = some (none, hR h b S A) := by
  simp (disch := omega) only [e_83_0, e_83_7, e_83_8, e_83_17, e_83_23, e_83_67, e_83_107, e_83_126, ↓rg_good_b, h7, ↓Option.bind_some, ↓jzo_0b, ↓jzo_1b, ↓jzo_bb, Option.toList_some, Option.toList_none, List.cons_append, List.nil_append, ↓reduceIte, jzo_0, jzo_1, jzo_b, jbi_t, jbi_f, i_add, ↓i_ltP, ↓i_ltN, ↓i_eqP, ↓i_eqN, i_lt, i_eq, jbi_0, pt_lt, pf_lt, pt_eq, pf_eq, pt_le, pf_le, Nat.reduceEqDiff, eq_self, true_or, or_true, false_or, or_false, true_and, and_true, false_and, and_false, jE_sw, jE_sw0]
theorem N_begin0_b {G : jx_Gv} {h : jx_H} {b : Nat} {S : Nat → Int32} {A : Nat → Nat → Int32} {x : Int32} (h7 : S 7 = Int32.ofNat 0) {β_ : Type} {f_ : jx_R → Option β_} : (jE G (83, 0, [some (.ref b), some (.int x)], [], hR h b S A)).bind f_ = f_ ((none, hR h b S A)) := bnd (N_begin0 h7)
theorem N_beginF {G : jx_Gv} {h : jx_H} {b : Nat} {S : Nat → Int32} {A : Nat → Nat → Int32} {x : Int32} (h7 : S 7 = Int32.ofNat 1) (h11 : S 11 = Int32.ofNat 120) : jE G (83, 0, [some (.ref b), some (.int x)], [], hR h b S A) = some (none, hR h b (upd S 7 (Int32.ofNat 0)) A) := by
  simp (disch := omega) only [e_83_0, e_83_7, e_83_8, e_83_17, e_83_23, e_83_67, e_83_107, e_83_126, ↓rg_good_b, ↓rp_good_b, ↓rg_rows_b, h7, h11, ↓Option.bind_some, ↓jzo_0b, ↓jzo_1b, ↓jzo_bb, Option.toList_some, Option.toList_none, List.cons_append, List.nil_append, ↓reduceIte, jzo_0, jzo_1, jzo_b, jbi_t, jbi_f, i_add, ↓i_ltP, ↓i_ltN, ↓i_eqP, ↓i_eqN, i_lt, i_eq, jbi_0, pt_lt, pf_lt, pt_eq, pf_eq, pt_le, pf_le, Nat.reduceEqDiff, eq_self, true_or, or_true, false_or, or_false, true_and, and_true, false_and, and_false, jE_sw, jE_sw0]
theorem N_beginF_b {G : jx_Gv} {h : jx_H} {b : Nat} {S : Nat → Int32} {A : Nat → Nat → Int32} {x : Int32} (h7 : S 7 = Int32.ofNat 1) (h11 : S 11 = Int32.ofNat 120) {β_ : Type} {f_ : jx_R → Option β_} : (jE G (83, 0, [some (.ref b), some (.int x)], [], hR h b S A)).bind f_ = f_ ((none, hR h b (upd S 7 (Int32.ofNat 0)) A)) := bnd (N_beginF h7 h11)
theorem N_beginY {G : jx_Gv} {h : jx_H} {b : Nat} {S : Nat → Int32} {A : Nat → Nat → Int32} {x : Int32} {m : Nat} {H : jx_H} (h7 : S 7 = Int32.ofNat 1) (h11 : S 11 = Int32.ofNat m) (hm : m < 120) (e : jE G (82, 0, [some (.ref b)], [], hR h b (upd S 11 (Int32.ofNat (m + 1))) (bgA A S m x)) = some (some (.int (Int32.ofNat 1)), H)) : jE G (83, 0, [some (.ref b), some (.int x)], [], hR h b S A) = some (none, H) := by
  unfold bgA at e
  have e' := fun {β : Type} {f : jx_R → Option β} => bnd (f := f) e
  simp (disch := omega) only [e_83_0, e_83_7, e_83_8, e_83_17, e_83_23, e_83_67, e_83_107, e_83_126, rr_v, ↓rg_good_b, ↓rg_rows_b, ↓rg_written_b, ↓rg_block_b, ↓rg_accesses_b, ↓ra_writeAt_b, ↓rs_writeAt_b, ↓ra_rowKind_b, ↓rs_rowKind_b, ↓ra_rowBlock_b, ↓rs_rowBlock_b, ↓ra_given_b, ↓rs_given_b, ↓ra_second_b, ↓rs_second_b, ↓ra_trigger_b, ↓rs_trigger_b, ↓ra_accessAt_b, ↓rs_accessAt_b, ↓ra_accessMany_b, ↓rs_accessMany_b, ↓rp_rows_b, upA_of, h7, h11, ↓e', ↓Option.bind_some, ↓jzo_0b, ↓jzo_1b, ↓jzo_bb, Option.toList_some, Option.toList_none, List.cons_append, List.nil_append, ↓reduceIte, jzo_0, jzo_1, jzo_b, jbi_t, jbi_f, i_add, ↓i_ltP, ↓i_ltN, ↓i_eqP, ↓i_eqN, i_lt, i_eq, jbi_0, pt_lt, pf_lt, pt_eq, pf_eq, pt_le, pf_le, Nat.reduceEqDiff, eq_self, true_or, or_true, false_or, or_false, true_and, and_true, false_and, and_false, jE_sw, jE_sw0]
theorem N_beginY_b {G : jx_Gv} {h : jx_H} {b : Nat} {S : Nat → Int32} {A : Nat → Nat → Int32} {x : Int32} {m : Nat} {H : jx_H} (h7 : S 7 = Int32.ofNat 1) (h11 : S 11 = Int32.ofNat m) (hm : m < 120) (e : jE G (82, 0, [some (.ref b)], [], hR h b (upd S 11 (Int32.ofNat (m + 1))) (bgA A S m x)) = some (some (.int (Int32.ofNat 1)), H)) {β_ : Type} {f_ : jx_R → Option β_} : (jE G (83, 0, [some (.ref b), some (.int x)], [], hR h b S A)).bind f_ = f_ ((none, H)) := bnd (N_beginY h7 h11 hm e)
theorem lv_row {G : jx_Gv} {h : jx_H} {b : Nat} {wn : Nat → Int64} {f : Nat → Int32} {len : Nat} {R : Bool × jS × jR × jX} {S0 : Nat → Int32} {A0 : Nat → Nat → Int32} (hw : wnOk wn) (hO : fOct f len) (hl : len ≤ 2000) {S : Nat → Int32} {A : Nat → Nat → Int32} {n : Nat} {c : jS} {D : jR} {X : jX} {ws : Nat → Nat} {m ac : Nat} (q : Lv wn f len R S0 A0 S A n c D X ws [] m ac) (hm : xRc X = m) (hm2 : m < 120) (hd : dOv D = true) (h2 : (adv wn f len c).2.2.1 ≠ Int32.ofNat 2) (h5 : (adv wn f len c).2.2.1 ≠ Int32.ofNat 5) (h6 : (adv wn f len c).2.2.1 ≠ Int32.ofNat 6) {D' : jR} {K v x : Int32} {bl : Nat} (hst : tBe (adv wn f len c) D X = (true, D', xaddTok (xaddRow X K bl) (adv wn f len c).2.2.1 v)) (hbk : D'.1 ≠ 0 → upN (xBl X) (m + 1) bl D'.1 = 0 ∧ ∃ kk : Nat, 3 ≤ kk ∧ kk ≤ 5 ∧ upd (xKi X) (m + 1) K D'.1 = Int32.ofNat (kb kk)) (ht : tokW f (S 4) (S 5) (lback f (adv wn f len c).1) (adv wn f len c).1 = tkt wn X ((adv wn f len c).2.2.1, v)) (hp : 1 ≤ (tkt wn X ((adv wn f len c).2.2.1, v)).length) (hk : tkL (xNc X) [((adv wn f len c).2.2.1, v)]) : ∃ S' A' X' ws', jE G (83, 0, [some (.ref b), some (.int x)], [], hR h b S A) = some (none, hR h b S' A') ∧ Lv wn f len R S0 A0 S' A' (n - 1) (adv wn f len c) D' X' ws' [] m ac ∧ n - 1 < n ∧ Frm (upd S 11 (Int32.ofNat (m + 1))) (bgA A S m x) S' A' ∧ xRc X' = m + 1 ∧ xKi X' (m + 1) = K ∧ xBl X' (m + 1) = bl ∧ tks X' (m + 1) = [((adv wn f len c).2.2.1, v)] := by
  have fi := Lv_fi q
  have tk := Lv_tk q
  have tx := Lv_tx q
  have wr := Lv_wr q
  have hc : c.1 ≤ len := fi.1
  have nx : nxX (adv wn f len c) X = X := if_neg h2
  have hcd : cond (dOv D) (tBe (adv wn f len c) D X) (tSt (adv wn f len c) D X) = (true, D', xaddTok (xaddRow X K bl) (adv wn f len c).2.2.1 v) := by rw [hd, cond_true, hst]
  have wr1 : S 28 = Int32.ofNat (ws m) := by
    have := wr.1
    rw [hm] at this
    exact this
  have wr2 : ws m ≤ 2 * c.1 := by
    have := wr.2
    rw [hm] at this
    exact this
  have su : ∀ j : Nat, j ≠ 11 → upd S 11 (Int32.ofNat (m + 1)) j = S j := fun j hj => upd_of hj
  have hfl := fl_yes (Lv_fl q) (Lv_fu q) hc h6 (by rw [hcd])
  rw [hcd] at hfl
  have hfi := fI_step (wn := wn) hO hl fi h6 (by rw [hcd])
  rw [hcd] at hfi
  have hlt : c.1 < (adv wn f len c).1 := (tk.2.2.2.2.2.2.2.1 h5 h6).2
  obtain ⟨S', A', e1, e2, e3, e4, e5, e6, e7, e8, e9⟩ := ac_ok (G := G) (h := h) (b := b) (S := upd S 11 (Int32.ofNat (m + 1))) (A := bgA A S m x) (X' := xaddTok (xaddRow X K bl) (adv wn f len c).2.2.1 v) (m := m) (wa := ws m) (w := ws m) hw hO hl ((su 0 (by decide)).trans (Lv_s0 q)) (by rw [bgA_of (by omega) (by decide)]; exact Lv_a1 q) (fun i hi => by rw [bgA_of (by omega) (by decide)]; exact Lv_ln q i hi) (Lv_pl q) (Tk_S tk (su 2 (by decide)) (su 3 (by decide)) (su 4 (by decide)) (su 5 (by decide)) (su 6 (by decide)) (su 8 (by decide)) (bgA_of (by omega) (by decide)) (bgA_of (by omega) (by decide))) h5 h6 upd_at hm2 (by rw [bgA_20, upd_at]; exact wr1) (by omega) ((su 28 (by decide)).trans wr1) wr2 (by rw [nx]; rfl) (by rw [nx]; rfl)
  rw [if_neg (Nat.lt_irrefl _), List.nil_append, su 4 (by decide), su 5 (by decide), ht] at e5 e6 e7
  rw [bgA_of (by omega) (by decide)] at e7
  have i1 := xI_row (k := K) (b := bl) fi.2.1 (by omega) (by
    have z := hfi.2.1.2.2.2.1 (m + 1) (by omega) (show m + 1 ≤ xRc X + 1 by omega)
    have z2 : upN (xBl X) (xRc X + 1) bl (m + 1) < m + 1 := z.2.1
    rw [hm, upN_at] at z2
    omega)
  have t1 : tks (xaddTok (xaddRow X K bl) (adv wn f len c).2.2.1 v) (m + 1) = [((adv wn f len c).2.2.1, v)] := by
    have z := tks_tok (s := (adv wn f len c).2.2.1) (v := v) i1 (by show 1 ≤ xRc X + 1; omega)
    have z2 : xRc (xaddRow X K bl) = xRc X + 1 := rfl
    rw [z2, tks_rnew, hm] at z
    exact z
  have told : ∀ r : Nat, 1 ≤ r → r ≤ m → tks (xaddTok (xaddRow X K bl) (adv wn f len c).2.2.1 v) r = tks X r := fun r h1 h3 => by
    rw [tks_old i1 h1 (by show r < xRc X + 1; omega), tks_rold (by omega)]
  have jo : ∀ L, jjn wn (xaddTok (xaddRow X K bl) (adv wn f len c).2.2.1 v) L = jjn wn X L := fun L => jjn_congr L (fun _ _ => rfl)
  have j1 : jjn wn (xaddTok (xaddRow X K bl) (adv wn f len c).2.2.1 v) [((adv wn f len c).2.2.1, v)] = tkt wn X ((adv wn f len c).2.2.1, v) := by rw [jo, jjn_one]
  have mono := fun r s h1 h2 => ws_mono (r := r) tx s h1 h2
  have d8 : ∀ j : Nat, j ≠ 2 → j ≠ 3 → j ≠ 4 → j ≠ 5 → j ≠ 6 → j ≠ 8 → j ≠ 28 → j ≠ 11 → S' j = S j := fun j z2 z3 z4 z5 z6 z8 z28 z11 => (e8 j z2 z3 z4 z5 z6 z8 z28).trans (su j z11)
  have fr := Lv_fr q
  refine ⟨S', A', xaddTok (xaddRow X K bl) (adv wn f len c).2.2.1 v, upN ws (m + 1) (ws m + (tkt wn X ((adv wn f len c).2.2.1, v)).length), N_beginY (Lv_go q) (by rw [Lv_ro q, hm]) hm2 e1, ?_, by have := Lv_fu q; omega, ⟨e8 11 (by decide) (by decide) (by decide) (by decide) (by decide) (by decide) (by decide), e8 24 (by decide) (by decide) (by decide) (by decide) (by decide) (by decide) (by decide), e8 31 (by decide) (by decide) (by decide) (by decide) (by decide) (by decide) (by decide), fun z => (e8 7 (by decide) (by decide) (by decide) (by decide) (by decide) (by decide) (by decide)).symm.trans z, e9⟩, ?_, ?_, ?_, t1⟩
  · have rc : xRc (xaddTok (xaddRow X K bl) (adv wn f len c).2.2.1 v) = m + 1 := by show xRc X + 1 = m + 1; rw [hm]
    refine ⟨hfl, by have := Lv_fu q; omega, hfi, (d8 0 (by decide) (by decide) (by decide) (by decide) (by decide) (by decide) (by decide) (by decide)).trans (Lv_s0 q), ?_, e3, e4, e2, (d8 7 (by decide) (by decide) (by decide) (by decide) (by decide) (by decide) (by decide) (by decide)).trans (Lv_go q), ?_, ?_, ?_, ?_, ?_, fun i hi => absurd hi (Nat.not_lt_zero _), ?_, ?_, ?_, ?_, ?_, ?_, ?_⟩
    · rw [e9 1 (by decide) (by decide) (by decide), bgA_of (by omega) (by decide)]
      exact Lv_a1 q
    · rw [e8 11 (by decide) (by decide) (by decide) (by decide) (by decide) (by decide) (by decide), upd_at, rc]
    · rw [upN_of (by omega)]
      exact Lv_w0 q
    · rw [rc, upN_at]
      exact ⟨e5, e6⟩
    · intro i hi
      rw [rc] at hi
      rw [e9 20 (by decide) (by decide) (by decide), upN_of (by omega), bgA_20]
      by_cases c1 : i = m
      · rw [c1, upd_at]
        exact wr1
      · rw [upd_of c1]
        exact Lv_wa q i (by omega)
    · intro r h1 h3
      rw [rc] at h3
      by_cases c1 : r = m + 1
      · subst c1
        rw [Nat.add_sub_cancel, upN_at, upN_of (by omega), t1, j1]
        refine ⟨by omega, rfl, ?_⟩
        rw [e7]
        exact wps_hi
      · have z := tx r h1 (by omega)
        have zz := mono r m (by omega) (by omega)
        rw [upN_of (by omega), upN_of (by omega), told r h1 (by omega), jo]
        refine ⟨z.1, z.2.1, ?_⟩
        rw [e7]
        exact sl_lo z.2.2 (by omega)
    · have z := Lv_ac q
      refine ⟨(d8 24 (by decide) (by decide) (by decide) (by decide) (by decide) (by decide) (by decide) (by decide)).trans z.1, ?_⟩
      show 4 * ac ≤ xTc X + 1
      omega
    · refine ⟨(d8 32 (by decide) (by decide) (by decide) (by decide) (by decide) (by decide) (by decide) (by decide)).trans fr.1, (d8 33 (by decide) (by decide) (by decide) (by decide) (by decide) (by decide) (by decide) (by decide)).trans fr.2.1, (d8 51 (by decide) (by decide) (by decide) (by decide) (by decide) (by decide) (by decide) (by decide)).trans fr.2.2.1, fun k k1 => ?_⟩
      rw [e9 k (by omega) (by omega) (by omega), bgA_of (by omega) (by omega)]
      exact fr.2.2.2 k k1
    · intro r h1 h3
      rw [rc] at h3
      show upN (xTa X) (xRc X + 1) 0 r = 0
      by_cases c1 : r = xRc X + 1
      · rw [c1, upN_at]
      · rw [upN_of c1]
        exact Lv_ta q r h1 (by omega)
    · intro r h1 h3
      rw [rc] at h3
      show tkL (xNc X) _
      by_cases c1 : r = m + 1
      · subst c1
        rw [t1]
        exact hk
      · rw [told r h1 (by omega)]
        exact Lv_tl q r h1 (by omega)
    · intro z
      show upN (xBl X) (xRc X + 1) bl D'.1 = 0 ∧ ∃ kk : Nat, 3 ≤ kk ∧ kk ≤ 5 ∧ upd (xKi X) (xRc X + 1) K D'.1 = Int32.ofNat (kb kk)
      rw [hm]
      exact hbk z
    · intro r h1 h3
      have hac : ac ≤ 600 := by
        have z1 := (Lv_ac q).2
        have z2 := fi.2.1.2.1
        omega
      have rlt : ∀ r : Nat, r ≤ m → r ≠ xRc X + 1 := fun r hr => by omega
      refine RowOk_mono (A := A) (X := X) (fun k k1 k2 => ?_) (fun k k1 k2 j _ => ?_) (Nat.le_refl _) hac (told r h1 h3) ?_ ?_ (fun z => ?_) (Lv_rw q r h1 h3)
      · rw [e9 k (by omega) (by omega) (by omega)]
        exact bgA_lo (by omega)
      · rw [e9 k (by omega) (by omega) (by omega), bgA_of (by omega) (by omega)]
      · show upd (xKi X) (xRc X + 1) K r = xKi X r
        exact upd_of (rlt r h3)
      · show upN (xBl X) (xRc X + 1) bl r = xBl X r
        exact upN_of (rlt r h3)
      · show upN (xBl X) (xRc X + 1) bl (xBl X r) = xBl X (xBl X r)
        exact upN_of (rlt _ (by omega))
    · rw [rc]
      omega
  · show xRc X + 1 = m + 1
    rw [hm]
  · show upd (xKi X) (xRc X + 1) K (m + 1) = K
    rw [hm]
    exact upd_at
  · show upN (xBl X) (xRc X + 1) bl (m + 1) = bl
    rw [hm]
    exact upN_at
