/-! A ROW BEGUN BY ITS WORD; A BLOCK'S END -/
def tb (kk j k : Nat) : Bool := [(0, 0, 1), (0, 1, 2), (0, 2, 3), (0, 4, 4), (0, 13, 5), (3, 3, 6), (4, 5, 7), (4, 6, 8), (4, 7, 9), (4, 8, 10), (5, 4, 11), (5, 14, 12)].contains (kk, j, k)
def foK (k : Nat) : Nat := if k = 1 then 3 else if k = 2 then 4 else if k ≤ 5 then 5 else if k = 10 then 6 else if k = 12 then 7 else 8
def kbz (kk : Nat) : Int32 := if kk = 0 then Int32.ofNat 0 else Int32.ofNat (kb kk)
theorem k_tb0 : ∀ kk : Nat, kk < 6 → ∀ j : Nat, j < 16 → ∀ k : Nat, k < 14 → tb kk j k = true → ¬ (Int32.ofNat (2 ^ j) &&& wIn (kbz kk) = Int32.ofNat 0) := by decide +kernel
theorem k_tb1a : ∀ kk : Nat, kk < 6 → ∀ j : Nat, j < 16 → ∀ k : Nat, k < 14 → tb kk j k = true → 1 ≤ k := by decide +kernel
theorem k_tb1b : ∀ kk : Nat, kk < 6 → ∀ j : Nat, j < 16 → ∀ k : Nat, k < 14 → tb kk j k = true → k ≤ 12 := by decide +kernel
theorem k_tb1c : ∀ kk : Nat, kk < 6 → ∀ j : Nat, j < 16 → ∀ k : Nat, k < 14 → tb kk j k = true → (decide (k ≤ 5) = decide (kk = 0)) := by decide +kernel
theorem k_tb2 : ∀ kk : Nat, kk < 6 → ∀ j : Nat, j < 16 → ∀ k : Nat, k < 14 → tb kk j k = true → (if Int32.ofNat (2 ^ j) = Int32.ofNat 16 ∧ kk ≠ 0 then Int32.ofNat 65536 else Int32.ofNat (2 ^ j)) = Int32.ofNat (kb k) := by decide +kernel
theorem k_tb3 : ∀ kk : Nat, kk < 6 → ∀ j : Nat, j < 16 → ∀ k : Nat, k < 14 → tb kk j k = true → ((Int32.ofNat (kb k) &&& Int32.ofNat 8212 = Int32.ofNat 0) ↔ ¬ (3 ≤ k ∧ k ≤ 5)) := by decide +kernel
theorem k_tb4 : ∀ kk : Nat, kk < 6 → ∀ j : Nat, j < 16 → ∀ k : Nat, k < 14 → tb kk j k = true → fOf (Int32.ofNat (kb k)) = foK k := by decide +kernel
theorem k_tb : ∀ kk : Nat, kk < 6 → ∀ j : Nat, j < 16 → ∀ k : Nat, k < 14 → tb kk j k = true → ¬ (Int32.ofNat (2 ^ j) &&& wIn (kbz kk) = Int32.ofNat 0) ∧ 1 ≤ k ∧ k ≤ 12 ∧ (k ≤ 5 ↔ kk = 0) ∧ (if Int32.ofNat (2 ^ j) = Int32.ofNat 16 ∧ kk ≠ 0 then Int32.ofNat 65536 else Int32.ofNat (2 ^ j)) = Int32.ofNat (kb k) ∧ ((Int32.ofNat (kb k) &&& Int32.ofNat 8212 = Int32.ofNat 0) ↔ ¬ (3 ≤ k ∧ k ≤ 5)) ∧ fOf (Int32.ofNat (kb k)) = foK k := fun kk h1 j h2 k h3 h4 => ⟨k_tb0 kk h1 j h2 k h3 h4, k_tb1a kk h1 j h2 k h3 h4, k_tb1b kk h1 j h2 k h3 h4, decide_eq_decide.mp (k_tb1c kk h1 j h2 k h3 h4), k_tb2 kk h1 j h2 k h3 h4, k_tb3 kk h1 j h2 k h3 h4, k_tb4 kk h1 j h2 k h3 h4⟩
theorem k_tn : ∀ kk : Nat, kk < 6 → kk ≠ 1 → kk ≠ 2 → ∀ j : Nat, j < 16 → (∀ k : Nat, k < 14 → tb kk j k = false) → Int32.ofNat (2 ^ j) &&& wIn (kbz kk) = Int32.ofNat 0 := by decide +kernel
/-- the block that is read, and its kind -/
def bK (A : Nat → Nat → Int32) (m bl kk : Nat) : Prop := bl = 0 ∧ kk = 0 ∨ 1 ≤ bl ∧ bl ≤ m ∧ 3 ≤ kk ∧ kk ≤ 5 ∧ A 4 (bl - 1) = Int32.ofNat kk
theorem kd_eq {A : Nat → Nat → Int32} {X : jX} {m ac bl kk : Nat} (hm : xRc X = m) (hr : ∀ r : Nat, 1 ≤ r → r ≤ m → RowOk A X ac r) (h : bK A m bl kk) : xkind X bl = kbz kk := by
  unfold xkind kbz
  rcases h with ⟨e1, e2⟩ | ⟨e1, e2, e3, e4, e5⟩
  · rw [if_pos (by omega), if_pos e2]
  · rw [if_neg (by omega), if_neg (by omega)]
    obtain ⟨k, k1, k2, k3, k4, -⟩ := hr bl e1 e2
    rw [e5, i_eq (by omega) (by omega)] at k4
    rw [k3, k4]
theorem bK_z {A : Nat → Nat → Int32} {m bl kk : Nat} (h : bK A m bl kk) : (bl = 0 ↔ kk = 0) ∧ kk < 6 ∧ kk ≠ 1 ∧ kk ≠ 2 ∧ bl ≤ m := by
  unfold bK at h
  omega
theorem bgw {G : jx_Gv} {h : jx_H} {b : Nat} {wn : Nat → Int64} {f : Nat → Int32} {len : Nat} {R : Bool × jS × jR × jX} {S0 : Nat → Int32} {A0 : Nat → Nat → Int32} (hw : wnOk wn) (hO : fOct f len) (hl : len ≤ 2000) {N bl m ac kk j k : Nat} {S : Nat → Int32} {A : Nat → Nat → Int32} (q : Bt wn f len R S0 A0 (N + 1) bl m ac S A) (h31 : S 31 = jm bl) (hK : bK A m bl kk) (hj : j < 16) (hk : k < 14) (ht : tb kk j k = true) (h4 : S 4 = Int32.ofNat 1) (h5 : S 5 = Int32.ofNat (j + 1)) : ∃ S' A' m' T, jE G (83, 0, [some (.ref b), some (.int (Int32.ofNat k))], [], hR h b S A) = some (none, hR h b S' A') ∧ MD wn f len R S0 A0 (N + 1) k bl m' ac T (if 3 ≤ k ∧ k ≤ 5 then m' + 1 else bl, foK k, 0, 0, false) [(Int32.ofNat 1, Int32.ofNat (2 ^ j))] S' A' ∧ S' 31 = S 31 ∧ (S' 7 = Int32.ofNat 1 → m' = m ∧ bgF A' m k bl ac) := by
  obtain ⟨n, c, X, ws, D, n1, q2, q3, q4, q5, q6⟩ := q
  have tk := Lv_tk q2
  have go := Lv_go q2
  have fi := Lv_fi q2
  have z1 := rk_eq (by decide) (by decide) (tk.2.1.symm.trans h4)
  obtain ⟨i, i1, i2, i3, i4⟩ := tk.2.2.2.1 z1
  have ij : i = j := by
    rw [i3, i_eq (by omega) (by omega)] at h5
    omega
  subst ij
  obtain ⟨bz1, bz2, bz3, bz4, bz5⟩ := bK_z hK
  obtain ⟨t1, t2, t3, t4, t5, t6, t7⟩ := k_tb kk bz2 i hj k hk ht
  have hkd := kd_eq q3 (Lv_rw q2) hK
  have m120 : m ≤ 120 := by have := fi.2.1.1; omega
  by_cases hm : m < 120
  · have eKi : tKi (adv wn f len c) D = Int32.ofNat (kb k) := by
      unfold tKi
      rw [i2, q5, ← t5]
      have : (bl ≠ 0) = (kk ≠ 0) := by rw [ne_eq, ne_eq, propext bz1]
      simp only [this]
    have est : tBe (adv wn f len c) D X = (true, (if 3 ≤ k ∧ k ≤ 5 then m + 1 else bl, foK k, 0, 0, false), xaddTok (xaddRow X (Int32.ofNat (kb k)) bl) (adv wn f len c).2.2.1 (Int32.ofNat (2 ^ i))) := by
      unfold tBe
      rw [if_neg (by omega), if_neg, if_pos, eKi, t7, q5, q6, q3, i2]
      · congr 2
        by_cases c3 : 3 ≤ k ∧ k ≤ 5
        · rw [if_pos c3, if_neg (fun z => t6.mp z c3)]
        · rw [if_neg c3, if_pos (t6.mpr c3)]
      · unfold sWd
        rw [decide_eq_true z1, i2, q5, hkd, decide_eq_false t1]
        rfl
      · rintro ⟨-, z⟩
        unfold sSg at z
        rw [z1, decide_eq_false kn14, Bool.false_and] at z
        exact absurd z (by decide)
    have nx : nxX (adv wn f len c) X = X := if_neg (by rw [z1]; decide)
    have tt := tk_text (v := Int32.ofNat (2 ^ i)) hw tk (by rw [nx]; exact fi.2.1.2.2.1) (Or.inl ⟨z1, i2.symm⟩)
    rw [nx] at tt
    have tw : tokW f (S 4) (S 5) (lback f (adv wn f len c).1) (adv wn f len c).1 = Wd i := by
      unfold tokW
      rw [h4, if_neg (by decide), if_neg (by decide)]
      exact i4
    obtain ⟨S', A', X', ws', g1, g2, g3, g4, g5, g6, g7, g8⟩ := lv_row (G := G) (h := h) (b := b) (x := Int32.ofNat k) hw hO hl q2 q3 hm q4 (by rw [z1]; decide) (by rw [z1]; decide) (by rw [z1]; decide) est (by
      show (if 3 ≤ k ∧ k ≤ 5 then m + 1 else bl) ≠ 0 → _
      show _ → upN (xBl X) (m + 1) bl (if 3 ≤ k ∧ k ≤ 5 then m + 1 else bl) = 0 ∧ ∃ kk : Nat, 3 ≤ kk ∧ kk ≤ 5 ∧ upd (xKi X) (m + 1) (Int32.ofNat (kb k)) (if 3 ≤ k ∧ k ≤ 5 then m + 1 else bl) = Int32.ofNat (kb kk)
      by_cases c3 : 3 ≤ k ∧ k ≤ 5
      · rw [if_pos c3]
        intro _
        rw [upN_at, upd_at]
        exact ⟨by omega, k, c3.1, c3.2, rfl⟩
      · rw [if_neg c3]
        intro z
        rw [upN_of (by omega), upd_of (by omega)]
        have := Lv_bk q2 (by rw [q5]; exact z)
        rw [q5] at this
        exact this) tt.1 (by rw [← tt.1, tw]; have := (k_Wd i hj).2.2.1; omega) (tt.2 (fun z => by rw [z1] at z; exact absurd z (by decide)))
    have ef : ∀ o : Nat, o ≠ 2 → o ≠ 3 → o ≠ 19 → A' o = bgA A S m (Int32.ofNat k) o := g4.2.2.2.2
    refine ⟨S', A', m, xSt X' (m + 1), g1, ⟨hm, by rw [g4.1, upd_at], Or.inl ⟨n - 1, _, X', ws', by omega, g2, g5, g6, g7, by rw [g8, z1], rfl⟩⟩, by rw [g4.2.2.1, upd_of (by decide)], fun _ => ⟨rfl, ?_⟩⟩
    unfold bgF
    rw [ef 4 (by decide) (by decide) (by decide), ef 5 (by decide) (by decide) (by decide), ef 6 (by decide) (by decide) (by decide), ef 7 (by decide) (by decide) (by decide), ef 13 (by decide) (by decide) (by decide), ef 14 (by decide) (by decide) (by decide), ef 15 (by decide) (by decide) (by decide), bgA_4, bgA_5, bgA_6, bgA_7, bgA_13, bgA_14, bgA_15, upd_at, upd_at, upd_at, upd_at, upd_at, upd_at, upd_at]
    exact ⟨rfl, h31, rfl, rfl, rfl, (Lv_ac q2).1, rfl⟩
  · have e120 : m = 120 := by omega
    have r11 : S 11 = Int32.ofNat 120 := by rw [Lv_ro q2, q3, e120]
    refine ⟨_, _, 119, 0, N_beginF go r11, ⟨by decide, by rw [upd_of (by decide)]; exact r11, Or.inr (Dd_of q2 (fun _ => ?_) (fun z => by rw [z1] at z; exact absurd z (by decide)))⟩, upd_of (by decide), fun z => by rw [upd_at] at z; exact absurd z (by decide)⟩
    rw [q4, cond_true]
    unfold tBe
    rw [if_pos (by omega)]
theorem bgc {G : jx_Gv} {h : jx_H} {b : Nat} {wn : Nat → Int64} {f : Nat → Int32} {len : Nat} {R : Bool × jS × jR × jX} {S0 : Nat → Int32} {A0 : Nat → Nat → Int32} (hw : wnOk wn) (hO : fOct f len) (hl : len ≤ 2000) {N bl m ac kk : Nat} {S : Nat → Int32} {A : Nat → Nat → Int32} (q : Bt wn f len R S0 A0 (N + 1) bl m ac S A) (h31 : S 31 = jm bl) (hK : bK A m bl kk) (hb : bl ≠ 0) (h4 : S 4 = Int32.ofNat 4) (h5 : S 5 = Int32.ofNat 125) : ∃ S' A', jE G (83, 0, [some (.ref b), some (.int (Int32.ofNat 13))], [], hR h b S A) = some (none, hR h b S' A') ∧ (Bt wn f len R S0 A0 N 0 (m + 1) ac S' A' ∨ Dd R S0 A0 S' A') := by
  obtain ⟨n, c, X, ws, D, n1, q2, q3, q4, q5, q6⟩ := q
  have tk := Lv_tk q2
  have go := Lv_go q2
  have fi := Lv_fi q2
  have z1 := rk_eq (by decide) (by decide) (tk.2.1.symm.trans h4)
  have z2 : (adv wn f len c).2.2.2.1 = Int32.ofNat 125 := (tk.2.2.2.2.2.2.1 z1).symm.trans h5
  have m120 : m ≤ 120 := by have := fi.2.1.1; omega
  obtain ⟨bz1, bz2, bz3, bz4, bz5⟩ := bK_z hK
  by_cases hm : m < 120
  · have est : tBe (adv wn f len c) D X = (true, (0, D.2), xaddTok (xaddRow X (Int32.ofNat 131072) bl) (adv wn f len c).2.2.1 (Int32.ofNat 125)) := by
      unfold tBe
      rw [if_neg (by omega), if_pos, q5]
      refine ⟨by rw [q5]; exact hb, ?_⟩
      unfold sSg
      rw [decide_eq_true z1, decide_eq_true z2]
      rfl
    have nx : nxX (adv wn f len c) X = X := if_neg (by rw [z1]; decide)
    have tt := tk_text (v := Int32.ofNat 125) hw tk (by rw [nx]; exact fi.2.1.2.2.1) (Or.inr (Or.inr (Or.inr ⟨z1, z2.symm⟩)))
    rw [nx] at tt
    obtain ⟨S', A', X', ws', g1, g2, g3, g4, g5, g6, g7, g8⟩ := lv_row (G := G) (h := h) (b := b) (x := Int32.ofNat 13) hw hO hl q2 q3 hm q4 (by rw [z1]; decide) (by rw [z1]; decide) (by rw [z1]; decide) est (fun z => absurd rfl z) tt.1 (by rw [z1]; exact Nat.le_refl 1) (tt.2 (fun _ => by decide))
    have ef : ∀ o : Nat, o ≠ 2 → o ≠ 3 → o ≠ 19 → A' o = bgA A S m (Int32.ofNat 13) o := g4.2.2.2.2
    have a4 : A' 4 m = Int32.ofNat 13 := by rw [ef 4 (by decide) (by decide) (by decide), bgA_4, upd_at]
    have a5 : A' 5 m = jm bl := by rw [ef 5 (by decide) (by decide) (by decide), bgA_5, upd_at]; exact h31
    have a6 : A' 6 m = Int32.ofNat 0 := by rw [ef 6 (by decide) (by decide) (by decide), bgA_6, upd_at]
    have a14 : A' 14 m = Int32.ofNat ac := by rw [ef 14 (by decide) (by decide) (by decide), bgA_14, upd_at]; exact (Lv_ac q2).1
    have a15 : A' 15 m = Int32.ofNat 0 := by rw [ef 15 (by decide) (by decide) (by decide), bgA_15, upd_at]
    have q5' : D.1 ≠ 0 := by rw [q5]; exact hb
    have bb := (Lv_bk q2 q5').1
    rw [q5] at bb
    have bb' : xBl X' bl = 0 := by
      have rwb := Lv_rw g2 bl (by omega) (by omega)
      obtain ⟨k', y1, y2, y3, y4, y5, y6, y7, -⟩ := rwb
      have rwa := Lv_rw q2 bl (by omega) (by omega)
      obtain ⟨k'', w1, w2, w3, w4, w5, w6, w7, -⟩ := rwa
      have e4 : A' 4 (bl - 1) = A 4 (bl - 1) := by
        rw [ef 4 (by decide) (by decide) (by decide)]
        exact bgA_lo (by omega)
      rw [e4, w4, i_eq (by omega) (by omega)] at y4
      subst y4
      exact y7.mp (w7.mpr bb)
    refine ⟨S', A', g1, Or.inl ⟨n - 1, adv wn f len c, X', ws', (0, D.2), by omega, ?_, g5, q4, rfl, q6⟩⟩
    refine ⟨Lv_fl g2, Lv_fu g2, Lv_fi g2, Lv_s0 g2, Lv_a1 g2, Lv_ln g2, Lv_pl g2, Lv_tk g2, Lv_go g2, Lv_ro g2, Lv_w0 g2, Lv_wr g2, Lv_wa g2, Lv_tx g2, Lv_xe g2, Lv_ac g2, Lv_fr g2, Lv_ta g2, Lv_tl g2, Lv_bk g2, fun r y1 y2 => ?_, by omega⟩
    by_cases c1 : r = m + 1
    · subst c1
      refine row_ok (k := 13) (bl := bl) (aa := ac) (am := 0) (by decide) (by decide) g6 g7 g8 (by omega) (fun _ => bb') ⟨fun w => by omega, fun w => absurd w hb⟩ a4 a5 a14 a15 (Nat.le_refl _) ?_ (fun w => absurd w (by decide)) (fun w => absurd w (by decide)) (by rw [z1]; rfl)
      refine ⟨fun w => absurd w (by decide), fun _ => a6, fun w => absurd w (by decide), fun w => absurd w (by decide), fun w => absurd w (by decide), fun w => absurd w (by decide)⟩
    · exact Lv_rw g2 r y1 (by omega)
  · have e120 : m = 120 := by omega
    have r11 : S 11 = Int32.ofNat 120 := by rw [Lv_ro q2, q3, e120]
    refine ⟨_, _, N_beginF go r11, Or.inr (Dd_of q2 (fun _ => ?_) (fun z => by rw [z1] at z; exact absurd z (by decide)))⟩
    rw [q4, cond_true]
    unfold tBe
    rw [if_pos (by omega)]
/-- no row begins here: both stop -/
theorem bgn {wn : Nat → Int64} {f : Nat → Int32} {len : Nat} {R : Bool × jS × jR × jX} {S0 : Nat → Int32} {A0 : Nat → Nat → Int32} {N bl m ac kk : Nat} {S : Nat → Int32} {A : Nat → Nat → Int32} (q : Bt wn f len R S0 A0 N bl m ac S A) (hK : bK A m bl kk) (hz : bl = 0 → S 4 ≠ Int32.ofNat 0) (hc : bl ≠ 0 → ¬ (S 4 = Int32.ofNat 4 ∧ S 5 = Int32.ofNat 125)) (hn : ∀ j : Nat, j < 16 → S 4 = Int32.ofNat 1 → S 5 = Int32.ofNat (j + 1) → ∀ k : Nat, k < 14 → tb kk j k = false) : Dd R S0 A0 (upd S 7 (Int32.ofNat 0)) A := by
  obtain ⟨n, c, X, ws, D, n1, q2, q3, q4, q5, q6⟩ := q
  have tk := Lv_tk q2
  have hkd := kd_eq q3 (Lv_rw q2) hK
  obtain ⟨bz1, bz2, bz3, bz4, bz5⟩ := bK_z hK
  refine Dd_of q2 (fun h6 => ?_) (fun h6 => ?_)
  · rw [q4, cond_true]
    unfold tBe
    by_cases c1 : 120 ≤ xRc X
    · rw [if_pos c1]
    · rw [if_neg c1, if_neg, if_neg]
      · intro z
        unfold sWd at z
        rw [Bool.and_eq_true, Bool.not_eq_true'] at z
        have z1 := of_decide_eq_true z.1
        have z2 := of_decide_eq_false z.2
        obtain ⟨i, i1, i2, i3, i4⟩ := tk.2.2.2.1 z1
        apply z2
        rw [i2, q5, hkd]
        exact k_tn kk bz2 bz3 bz4 i i1 (hn i i1 (by rw [tk.2.1]; exact rk_of (by decide) z1) i3)
      · rintro ⟨y1, z⟩
        rw [q5] at y1
        unfold sSg at z
        rw [Bool.and_eq_true] at z
        have z1 := of_decide_eq_true z.1
        have z2 := of_decide_eq_true z.2
        exact hc y1 ⟨by rw [tk.2.1]; exact rk_of (by decide) z1, by rw [tk.2.2.2.2.2.2.1 z1]; exact z2⟩
  · rw [q5]
    by_cases c1 : bl = 0
    · exfalso
      apply hz c1
      rw [tk.2.1]
      unfold rk
      rw [if_pos h6]
    · rw [decide_eq_false c1, Bool.false_and]
