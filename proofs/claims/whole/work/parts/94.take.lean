/-! A TOKEN OF A ROW, TAKEN OR REFUSED -/
theorem kn12 : ¬ Int32.ofNat 1 = Int32.ofNat 2 := by decide
theorem kn13 : ¬ Int32.ofNat 1 = Int32.ofNat 3 := by decide
theorem kn14 : ¬ Int32.ofNat 1 = Int32.ofNat 4 := by decide
theorem kn21 : ¬ Int32.ofNat 2 = Int32.ofNat 1 := by decide
theorem kn23 : ¬ Int32.ofNat 2 = Int32.ofNat 3 := by decide
theorem kn24 : ¬ Int32.ofNat 2 = Int32.ofNat 4 := by decide
theorem kn31 : ¬ Int32.ofNat 3 = Int32.ofNat 1 := by decide
theorem kn32 : ¬ Int32.ofNat 3 = Int32.ofNat 2 := by decide
theorem kn34 : ¬ Int32.ofNat 3 = Int32.ofNat 4 := by decide
theorem kn41 : ¬ Int32.ofNat 4 = Int32.ofNat 1 := by decide
theorem kn42 : ¬ Int32.ofNat 4 = Int32.ofNat 2 := by decide
theorem kn43 : ¬ Int32.ofNat 4 = Int32.ofNat 3 := by decide
theorem rk_eq {s : Int32} {k : Nat} (hk : 1 ≤ k) (hk2 : k ≤ 5) (h : rk s = Int32.ofNat k) : s = Int32.ofNat k := by
  unfold rk at h
  by_cases c : s = Int32.ofNat 6
  · rw [if_pos c, i_eq (by decide) (by omega)] at h
    omega
  · rw [if_neg c] at h
    exact h
theorem rk_of {s : Int32} {k : Nat} (hk2 : k ≤ 5) (h : s = Int32.ofNat k) : rk s = Int32.ofNat k := by
  unfold rk
  rw [h, if_neg (by rw [i_eq (by omega) (by decide)]; omega)]
theorem tk_text {wn : Nat → Int64} {f : Nat → Int32} {p : Nat} {q : jS} {X : jX} {S : Nat → Int32} {A : Nat → Nat → Int32} (hw : wnOk wn) (hK : Tk f p q X S A) (hn : xNc (nxX q X) ≤ 1000) {v : Int32} (hv : q.2.2.1 = Int32.ofNat 1 ∧ v = q.2.2.2.1 ∨ q.2.2.1 = Int32.ofNat 2 ∧ v = Int32.ofNat (xnn X q.2.2.2.2).1 ∨ q.2.2.1 = Int32.ofNat 3 ∧ v = q.2.2.2.1 ∨ q.2.2.1 = Int32.ofNat 4 ∧ v = q.2.2.2.1) : tokW f (S 4) (S 5) (lback f q.1) q.1 = tkt wn (nxX q X) (q.2.2.1, v) ∧ ((q.2.2.1 = Int32.ofNat 4 → v ≠ Int32.ofNat 45) → tkL (xNc (nxX q X)) [(q.2.2.1, v)]) := by
  obtain ⟨t1, t2, t3, t4, t5, t6, t7, t8, t9⟩ := hK
  unfold tokW tkt tkL
  rcases hv with ⟨e, ev⟩ | ⟨e, ev⟩ | ⟨e, ev⟩ | ⟨e, ev⟩
  · obtain ⟨j, j1, j2, j3, j4⟩ := t4 e
    have k := k_Wd j j1
    rw [t2, rk_of (by decide) e, if_neg (by decide), if_neg (by decide)]
    simp only [e, ev, j2, if_true, wname_at j1, hw j j1]
    rw [noR_lcd (Wd_aln j1) k.2.1 k.2.2.2, ← j4]
    refine ⟨rfl, fun h45 t ht => ?_⟩
    rw [List.mem_singleton.mp ht]
    exact ⟨fun z => absurd z kn12, fun z => absurd z kn13, fun _ => ⟨j, j1, rfl⟩, fun z => absurd z kn14, Or.inl rfl⟩
  · obtain ⟨z1, z2, l, l1, l2, l3, l4, l5⟩ := t5 e
    have ex : nxX q X = (xnn X q.2.2.2.2).2 := if_pos e
    rw [ex] at hn ⊢
    have nn := xnn_name (X := X) (y := q.2.2.2.2) z1
    rw [t2, rk_of (by decide) e, if_neg (by decide), if_neg (by decide)]
    simp only [e, ev, if_true]
    rw [if_neg (by decide), xnameR_ok nn.1 nn.2.1 hn, nn.2.2.1, l4, noR_lcd l2 l3 l1]
    refine ⟨l5, fun h45 t ht => ?_⟩
    rw [List.mem_singleton.mp ht]
    exact ⟨fun _ => ⟨(xnn X (Int64.ofNat (lcd l))).1, by rw [← l4]; exact nn.1, by rw [← l4]; exact nn.2.1, rfl⟩, fun z => absurd z kn23, fun z => absurd z kn21, fun z => absurd z kn24, Or.inr (Or.inl rfl)⟩
  · obtain ⟨z1, m, m1, m2, m3⟩ := t6 e
    rw [t2, rk_of (by decide) e, if_pos rfl, z1]
    simp only [e, ev, m2, if_true]
    rw [if_neg (by decide), if_neg (by decide)]
    unfold numO
    rw [if_neg (by rw [i_lt (by omega) (by decide)]; omega)]
    refine ⟨rfl, fun h45 t ht => ?_⟩
    rw [List.mem_singleton.mp ht]
    exact ⟨fun z => absurd z kn32, fun _ => ⟨m, m1, Or.inl rfl⟩, fun z => absurd z kn31, fun z => absurd z kn34, Or.inr (Or.inr (Or.inl rfl))⟩
  · have z1 := t7 e
    rw [t2, rk_of (by decide) e, if_neg (by decide), if_pos rfl, z1]
    simp only [e, ev]
    rw [if_neg (by decide), if_neg (by decide), if_neg (by decide)]
    refine ⟨rfl, fun h45 t ht => ?_⟩
    rw [List.mem_singleton.mp ht]
    exact ⟨fun z => absurd z kn42, fun z => absurd z kn43, fun z => absurd z kn41, fun _ => ⟨t9 e, h45 trivial⟩, Or.inr (Or.inr (Or.inr rfl))⟩
theorem numO_pos (v : Int32) : 1 ≤ (numO v).length := by
  unfold numO
  split
  · exact Nat.le_add_left 1 _
  · exact dg_pos _
/-- nxX keeps the inner order -/
theorem xI_nx {q : jS} {X : jX} (h : xI X) : xI (nxX q X) := by
  unfold nxX
  split
  · exact (xI_nn (y := q.2.2.2.2) h).1
  · exact h
section TOK
variable {Y : jX} {s v : Int32} {wn : Nat → Int64} {t : Int32 × Int32}
theorem tok_Na : xNa (xaddTok Y s v) = xNa Y := rfl
theorem tok_Nc : xNc (xaddTok Y s v) = xNc Y := rfl
theorem tok_Rc : xRc (xaddTok Y s v) = xRc Y := rfl
theorem tok_Tc : xTc (xaddTok Y s v) = xTc Y + 1 := rfl
theorem tok_Ki : xKi (xaddTok Y s v) = xKi Y := rfl
theorem tok_Bl : xBl (xaddTok Y s v) = xBl Y := rfl
theorem tok_Ta : xTa (xaddTok Y s v) = xTa Y := rfl
theorem tok_St : xSt (xaddTok Y s v) = xSt Y := rfl
theorem tkt_tok : tkt wn (xaddTok Y s v) t = tkt wn Y t := rfl
theorem jjn_tok {L : List (Int32 × Int32)} : jjn wn (xaddTok Y s v) L = jjn wn Y L := jjn_congr L (fun _ _ => rfl)
end TOK
theorem lv_take {G : jx_Gv} {h : jx_H} {b : Nat} {wn : Nat → Int64} {f : Nat → Int32} {len : Nat} {R : Bool × jS × jR × jX} {S0 : Nat → Int32} {A0 : Nat → Nat → Int32} (hw : wnOk wn) (hO : fOct f len) (hl : len ≤ 2000) {S : Nat → Int32} {A : Nat → Nat → Int32} {n : Nat} {c : jS} {D : jR} {X : jX} {ws : Nat → Nat} {ex : List Int32} {m ac : Nat} (q : Lv wn f len R S0 A0 S A n c D X ws ex m ac) (hm : xRc X = m + 1) (hd : dOv D = false) (h5 : (adv wn f len c).2.2.1 ≠ Int32.ofNat 5) (h6 : (adv wn f len c).2.2.1 ≠ Int32.ofNat 6) {D' : jR} {v : Int32} (hst : tSt (adv wn f len c) D X = (true, D', xaddTok (nxX (adv wn f len c) X) (adv wn f len c).2.2.1 v)) (ht : ex ++ Int32.ofNat 32 :: tokW f (S 4) (S 5) (lback f (adv wn f len c).1) (adv wn f len c).1 = Int32.ofNat 32 :: tkt wn (nxX (adv wn f len c) X) ((adv wn f len c).2.2.1, v)) (hk : tkL (xNc (nxX (adv wn f len c) X)) [((adv wn f len c).2.2.1, v)]) : ∃ S' A' X' ws', jE G (82, 0, [some (.ref b)], [], hR h b S A) = some (some (.int (Int32.ofNat 1)), hR h b S' A') ∧ Lv wn f len R S0 A0 S' A' (n - 1) (adv wn f len c) D' X' ws' [] m ac ∧ n - 1 < n ∧ Frm S A S' A' ∧ xRc X' = m + 1 ∧ xKi X' = xKi X ∧ xBl X' = xBl X ∧ tks X' (m + 1) = tks X (m + 1) ++ [((adv wn f len c).2.2.1, v)] ∧ xSt X' = xSt X := by
  have fi := Lv_fi q
  have tk := Lv_tk q
  have tx := Lv_tx q (m + 1) (by omega) (by omega)
  rw [Nat.add_sub_cancel] at tx
  obtain ⟨n1, n2, n3, n4, n5, n6⟩ := nxX_eq (q := adv wn f len c) (X := X)
  have n7 := nxX_st (q := adv wn f len c) (X := X)
  have i1 := xI_nx (q := adv wn f len c) fi.2.1
  have rc1 : xRc (nxX (adv wn f len c) X) = m + 1 := n5.trans hm
  have e0 : tks (xaddTok (nxX (adv wn f len c) X) (adv wn f len c).2.2.1 v) (m + 1) = tks X (m + 1) ++ [((adv wn f len c).2.2.1, v)] := by
    have z := tks_tok (s := (adv wn f len c).2.2.1) (v := v) i1 (by omega)
    rw [rc1, n6] at z
    exact z
  have nmX := (nmx_nx (q := adv wn f len c) (X := X) (fun e => (tk.2.2.2.2.1 e).1)).1
  have hn : xNc (nxX (adv wn f len c) X) ≤ 1000 := i1.2.2.1
  have Lne : tks X (m + 1) ≠ [] := by
    intro e
    rw [e] at tx
    have : ws (m + 1) = ws m + 0 := tx.2.1
    have := tx.1
    omega
  have jo : jjn wn (nxX (adv wn f len c) X) (tks X (m + 1)) = jjn wn X (tks X (m + 1)) := jjn_congr _ (tkt_ext nmX hn (Lv_tl q (m + 1) (by omega) (by omega)))
  have jnew : jjn wn (xaddTok (nxX (adv wn f len c) X) (adv wn f len c).2.2.1 v) (tks (xaddTok (nxX (adv wn f len c) X) (adv wn f len c).2.2.1 v) (m + 1)) = jjn wn X (tks X (m + 1)) ++ (Int32.ofNat 32 :: tkt wn (nxX (adv wn f len c) X) ((adv wn f len c).2.2.1, v)) := by
    rw [e0, jjn_tok, jjn_snoc Lne, jo]
  have told : ∀ r : Nat, 1 ≤ r → r ≤ m → tks (xaddTok (nxX (adv wn f len c) X) (adv wn f len c).2.2.1 v) r = tks X r := fun r h1 h2 => by rw [tks_old i1 h1 (by omega), n6]
  have tl' : tkL (xNc (nxX (adv wn f len c) X)) (tks X (m + 1) ++ [((adv wn f len c).2.2.1, v)]) := tkL_app (tkL_mono (Lv_tl q (m + 1) (by omega) (by omega)) nmX.1) hk
  have tc : xTc X ≤ xTc (xaddTok (nxX (adv wn f len c) X) (adv wn f len c).2.2.1 v) := by rw [tok_Tc, n1]; omega
  have txt : jjn wn (xaddTok (nxX (adv wn f len c) X) (adv wn f len c).2.2.1 v) (tks (xaddTok (nxX (adv wn f len c) X) (adv wn f len c).2.2.1 v) (m + 1)) ++ [] = jjn wn X (tks X (m + 1)) ++ (ex ++ Int32.ofNat 32 :: tokW f (S 4) (S 5) (lback f (adv wn f len c).1) (adv wn f len c).1) := by rw [jnew, List.append_nil, ht]
  have pos : 1 ≤ (jjn wn (xaddTok (nxX (adv wn f len c) X) (adv wn f len c).2.2.1 v) (tks (xaddTok (nxX (adv wn f len c) X) (adv wn f len c).2.2.1 v) (m + 1))).length := by
    rw [jnew, List.length_append, List.length_cons]
    omega
  have tkl : tkL (xNc (xaddTok (nxX (adv wn f len c) X) (adv wn f len c).2.2.1 v)) (tks (xaddTok (nxX (adv wn f len c) X) (adv wn f len c).2.2.1 v) (m + 1)) := by
    rw [e0, tok_Nc]
    exact tl'
  have r1 : xRc (xaddTok (nxX (adv wn f len c) X) (adv wn f len c).2.2.1 v) = xRc X := tok_Rc.trans n5
  have r4 : xKi (xaddTok (nxX (adv wn f len c) X) (adv wn f len c).2.2.1 v) = xKi X := tok_Ki.trans n2
  have r5 : xBl (xaddTok (nxX (adv wn f len c) X) (adv wn f len c).2.2.1 v) = xBl X := tok_Bl.trans n3
  have r6 : xTa (xaddTok (nxX (adv wn f len c) X) (adv wn f len c).2.2.1 v) = xTa X := tok_Ta.trans n4
  have r7 : xSt (xaddTok (nxX (adv wn f len c) X) (adv wn f len c).2.2.1 v) = xSt X := tok_St.trans n7
  have k1 : xNa (xaddTok (nxX (adv wn f len c) X) (adv wn f len c).2.2.1 v) = xNa (nxX (adv wn f len c) X) := tok_Na
  have k2 : xNc (xaddTok (nxX (adv wn f len c) X) (adv wn f len c).2.2.1 v) = xNc (nxX (adv wn f len c) X) := tok_Nc
  generalize xaddTok (nxX (adv wn f len c) X) (adv wn f len c).2.2.1 v = X' at *
  obtain ⟨S', A', ws', g1, g2, g3, g4, g5⟩ := lv_gen (G := G) (h := h) (b := b) hw hO hl q hm hd h5 h6 (ex' := []) hst k1 k2 r1 tc told r4 r5 r6 txt tkl pos
  exact ⟨S', A', X', ws', g1, g2, g3, g4, r1.trans hm, r4, r5, e0, r7⟩
/-- a fault was found; both stop there -/
def Dd (R : Bool × jS × jR × jX) (S0 : Nat → Int32) (A0 : Nat → Nat → Int32) (S : Nat → Int32) (A : Nat → Nat → Int32) : Prop := S 7 = Int32.ofNat 0 ∧ R.1 = false ∧ S 6 = Int32.ofNat R.2.1.2.1 ∧ Fr S A S0 A0 ∧ hLn A
theorem Fr_S {S S' : Nat → Int32} {A A' : Nat → Nat → Int32} {S0 : Nat → Int32} {A0 : Nat → Nat → Int32} (h : Fr S A S0 A0) (h1 : S' 32 = S 32) (h2 : S' 33 = S 33) (h3 : S' 51 = S 51) (h4 : ∀ k : Nat, 21 ≤ k → A' k = A k) : Fr S' A' S0 A0 := ⟨h1.trans h.1, h2.trans h.2.1, h3.trans h.2.2.1, fun k hk => (h4 k hk).trans (h.2.2.2 k hk)⟩
theorem Dd_of {R : Bool × jS × jR × jX} {S0 : Nat → Int32} {A0 : Nat → Nat → Int32} {wn : Nat → Int64} {f : Nat → Int32} {len : Nat} {S : Nat → Int32} {A : Nat → Nat → Int32} {n : Nat} {c : jS} {D : jR} {X : jX} {ws : Nat → Nat} {ex : List Int32} {m ac : Nat} (q : Lv wn f len R S0 A0 S A n c D X ws ex m ac) (hq : (adv wn f len c).2.2.1 ≠ Int32.ofNat 6 → (cond (dOv D) (tBe (adv wn f len c) D X) (tSt (adv wn f len c) D X)).1 = false) (h6 : (adv wn f len c).2.2.1 = Int32.ofNat 6 → (decide (D.1 = 0) && dOv D) = false) : Dd R S0 A0 (upd S 7 (Int32.ofNat 0)) A := by
  obtain ⟨r1, r2⟩ := fl_no (Lv_fl q) (Lv_fu q) (Lv_fi q).1 hq h6
  refine ⟨upd_at, r1, ?_, Fr_S (Lv_fr q) (upd_of (by decide)) (upd_of (by decide)) (upd_of (by decide)) (fun _ _ => rfl), Lv_ln q⟩
  rw [upd_of (by decide), r2]
  exact (Lv_tk q).1
/-- within a row, so many tokens of which are there; or stopped -/
def MD (wn : Nat → Int64) (f : Nat → Int32) (len : Nat) (R : Bool × jS × jR × jX) (S0 : Nat → Int32) (A0 : Nat → Nat → Int32) (N k bl m ac T : Nat) (D : jR) (L : List (Int32 × Int32)) (S : Nat → Int32) (A : Nat → Nat → Int32) : Prop := m < 120 ∧ S 11 = Int32.ofNat (m + 1) ∧ ((∃ n c X ws, n < N ∧ Lv wn f len R S0 A0 S A n c D X ws [] m ac ∧ xRc X = m + 1 ∧ xKi X (m + 1) = Int32.ofNat (kb k) ∧ xBl X (m + 1) = bl ∧ tks X (m + 1) = L ∧ xSt X (m + 1) = T) ∨ Dd R S0 A0 S A)
def dUp (D : jR) : jR := (D.1, D.2.1, D.2.2.1 + 1, D.2.2.2)
theorem tSt_eq {c : jS} {D : jR} {X : jX} : tSt c D X = tSw (tDue D) c (dUp D) X := rfl
theorem Frm_7 {S : Nat → Int32} {A : Nat → Nat → Int32} : Frm S A (upd S 7 (Int32.ofNat 0)) A := ⟨upd_of (by decide), upd_of (by decide), upd_of (by decide), fun z => by rw [upd_at] at z; exact absurd z (by decide), fun _ _ _ _ => rfl⟩
theorem dOv_row {D : jR} (h : dOv D = false) : (decide (D.1 = 0) && dOv D) = false := by rw [h, Bool.and_false]
