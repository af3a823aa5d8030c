/-! BOTH READ ON: what holds between two tokens -/
def Fr (S : Nat → Int32) (A : Nat → Nat → Int32) (S0 : Nat → Int32) (A0 : Nat → Nat → Int32) : Prop := S 32 = S0 32 ∧ S 33 = S0 33 ∧ S 51 = S0 51 ∧ ∀ k : Nat, 21 ≤ k → A k = A0 k
/-- what a step of the reference leaves as it was -/
def Frm (S : Nat → Int32) (A : Nat → Nat → Int32) (S' : Nat → Int32) (A' : Nat → Nat → Int32) : Prop := S' 11 = S 11 ∧ S' 24 = S 24 ∧ S' 31 = S 31 ∧ (S' 7 = Int32.ofNat 1 → S 7 = Int32.ofNat 1) ∧ ∀ k : Nat, k ≠ 2 → k ≠ 3 → k ≠ 19 → A' k = A k
theorem Frm_refl {S : Nat → Int32} {A : Nat → Nat → Int32} : Frm S A S A := ⟨rfl, rfl, rfl, id, fun _ _ _ _ => rfl⟩
theorem Frm_trans {S S' S'' : Nat → Int32} {A A' A'' : Nat → Nat → Int32} (h1 : Frm S A S' A') (h2 : Frm S' A' S'' A'') : Frm S A S'' A'' := ⟨h2.1.trans h1.1, h2.2.1.trans h1.2.1, h2.2.2.1.trans h1.2.2.1, fun e => h1.2.2.2.1 (h2.2.2.2.1 e), fun k k2 k3 k19 => (h2.2.2.2.2 k k2 k3 k19).trans (h1.2.2.2.2 k k2 k3 k19)⟩
def Lv (wn : Nat → Int64) (f : Nat → Int32) (len : Nat) (R : Bool × jS × jR × jX) (S0 : Nat → Int32) (A0 : Nat → Nat → Int32) (S : Nat → Int32) (A : Nat → Nat → Int32) (n : Nat) (c : jS) (D : jR) (X : jX) (ws : Nat → Nat) (ex : List Int32) (m ac : Nat) : Prop := (fl wn f len n c D X = R) ∧ (len < c.1 + n) ∧ (fI len c D X) ∧ (S 0 = Int32.ofNat len) ∧ (A 1 = f) ∧ (hLn A) ∧ (Pl f len c (xNc X)) ∧ (Tk f c.1 (adv wn f len c) X S A) ∧ (S 7 = Int32.ofNat 1) ∧ (S 11 = Int32.ofNat (xRc X)) ∧ (ws 0 = 0) ∧ (S 28 = Int32.ofNat (ws (xRc X) + ex.length) ∧ ws (xRc X) + ex.length ≤ 2 * c.1) ∧ (∀ i : Nat, i < xRc X → A 20 i = Int32.ofNat (ws i)) ∧ (∀ r : Nat, 1 ≤ r → r ≤ xRc X → ws (r - 1) < ws r ∧ ws r = ws (r - 1) + (jjn wn X (tks X r)).length ∧ sl (A 19) (ws (r - 1)) (jjn wn X (tks X r))) ∧ (sl (A 19) (ws (xRc X)) ex) ∧ (S 24 = Int32.ofNat ac ∧ 4 * ac ≤ xTc X) ∧ (Fr S A S0 A0) ∧ (∀ r : Nat, 1 ≤ r → r ≤ xRc X → xTa X r = 0) ∧ (∀ r : Nat, 1 ≤ r → r ≤ xRc X → tkL (xNc X) (tks X r)) ∧ (D.1 ≠ 0 → xBl X D.1 = 0 ∧ ∃ kk : Nat, 3 ≤ kk ∧ kk ≤ 5 ∧ xKi X D.1 = Int32.ofNat (kb kk)) ∧ (∀ r : Nat, 1 ≤ r → r ≤ m → RowOk A X ac r) ∧ (m ≤ xRc X)
theorem Lv_fl {wn : Nat → Int64} {f : Nat → Int32} {len : Nat} {R : Bool × jS × jR × jX} {S0 : Nat → Int32} {A0 : Nat → Nat → Int32} {S : Nat → Int32} {A : Nat → Nat → Int32} {n : Nat} {c : jS} {D : jR} {X : jX} {ws : Nat → Nat} {ex : List Int32} {m ac : Nat} (q_ : Lv wn f len R S0 A0 S A n c D X ws ex m ac) : fl wn f len n c D X = R := q_.1
theorem Lv_fu {wn : Nat → Int64} {f : Nat → Int32} {len : Nat} {R : Bool × jS × jR × jX} {S0 : Nat → Int32} {A0 : Nat → Nat → Int32} {S : Nat → Int32} {A : Nat → Nat → Int32} {n : Nat} {c : jS} {D : jR} {X : jX} {ws : Nat → Nat} {ex : List Int32} {m ac : Nat} (q_ : Lv wn f len R S0 A0 S A n c D X ws ex m ac) : len < c.1 + n := q_.2.1
theorem Lv_fi {wn : Nat → Int64} {f : Nat → Int32} {len : Nat} {R : Bool × jS × jR × jX} {S0 : Nat → Int32} {A0 : Nat → Nat → Int32} {S : Nat → Int32} {A : Nat → Nat → Int32} {n : Nat} {c : jS} {D : jR} {X : jX} {ws : Nat → Nat} {ex : List Int32} {m ac : Nat} (q_ : Lv wn f len R S0 A0 S A n c D X ws ex m ac) : fI len c D X := q_.2.2.1
theorem Lv_s0 {wn : Nat → Int64} {f : Nat → Int32} {len : Nat} {R : Bool × jS × jR × jX} {S0 : Nat → Int32} {A0 : Nat → Nat → Int32} {S : Nat → Int32} {A : Nat → Nat → Int32} {n : Nat} {c : jS} {D : jR} {X : jX} {ws : Nat → Nat} {ex : List Int32} {m ac : Nat} (q_ : Lv wn f len R S0 A0 S A n c D X ws ex m ac) : S 0 = Int32.ofNat len := q_.2.2.2.1
theorem Lv_a1 {wn : Nat → Int64} {f : Nat → Int32} {len : Nat} {R : Bool × jS × jR × jX} {S0 : Nat → Int32} {A0 : Nat → Nat → Int32} {S : Nat → Int32} {A : Nat → Nat → Int32} {n : Nat} {c : jS} {D : jR} {X : jX} {ws : Nat → Nat} {ex : List Int32} {m ac : Nat} (q_ : Lv wn f len R S0 A0 S A n c D X ws ex m ac) : A 1 = f := q_.2.2.2.2.1
theorem Lv_ln {wn : Nat → Int64} {f : Nat → Int32} {len : Nat} {R : Bool × jS × jR × jX} {S0 : Nat → Int32} {A0 : Nat → Nat → Int32} {S : Nat → Int32} {A : Nat → Nat → Int32} {n : Nat} {c : jS} {D : jR} {X : jX} {ws : Nat → Nat} {ex : List Int32} {m ac : Nat} (q_ : Lv wn f len R S0 A0 S A n c D X ws ex m ac) : hLn A := q_.2.2.2.2.2.1
theorem Lv_pl {wn : Nat → Int64} {f : Nat → Int32} {len : Nat} {R : Bool × jS × jR × jX} {S0 : Nat → Int32} {A0 : Nat → Nat → Int32} {S : Nat → Int32} {A : Nat → Nat → Int32} {n : Nat} {c : jS} {D : jR} {X : jX} {ws : Nat → Nat} {ex : List Int32} {m ac : Nat} (q_ : Lv wn f len R S0 A0 S A n c D X ws ex m ac) : Pl f len c (xNc X) := q_.2.2.2.2.2.2.1
theorem Lv_tk {wn : Nat → Int64} {f : Nat → Int32} {len : Nat} {R : Bool × jS × jR × jX} {S0 : Nat → Int32} {A0 : Nat → Nat → Int32} {S : Nat → Int32} {A : Nat → Nat → Int32} {n : Nat} {c : jS} {D : jR} {X : jX} {ws : Nat → Nat} {ex : List Int32} {m ac : Nat} (q_ : Lv wn f len R S0 A0 S A n c D X ws ex m ac) : Tk f c.1 (adv wn f len c) X S A := q_.2.2.2.2.2.2.2.1
theorem Lv_go {wn : Nat → Int64} {f : Nat → Int32} {len : Nat} {R : Bool × jS × jR × jX} {S0 : Nat → Int32} {A0 : Nat → Nat → Int32} {S : Nat → Int32} {A : Nat → Nat → Int32} {n : Nat} {c : jS} {D : jR} {X : jX} {ws : Nat → Nat} {ex : List Int32} {m ac : Nat} (q_ : Lv wn f len R S0 A0 S A n c D X ws ex m ac) : S 7 = Int32.ofNat 1 := q_.2.2.2.2.2.2.2.2.1
theorem Lv_ro {wn : Nat → Int64} {f : Nat → Int32} {len : Nat} {R : Bool × jS × jR × jX} {S0 : Nat → Int32} {A0 : Nat → Nat → Int32} {S : Nat → Int32} {A : Nat → Nat → Int32} {n : Nat} {c : jS} {D : jR} {X : jX} {ws : Nat → Nat} {ex : List Int32} {m ac : Nat} (q_ : Lv wn f len R S0 A0 S A n c D X ws ex m ac) : S 11 = Int32.ofNat (xRc X) := q_.2.2.2.2.2.2.2.2.2.1
theorem Lv_w0 {wn : Nat → Int64} {f : Nat → Int32} {len : Nat} {R : Bool × jS × jR × jX} {S0 : Nat → Int32} {A0 : Nat → Nat → Int32} {S : Nat → Int32} {A : Nat → Nat → Int32} {n : Nat} {c : jS} {D : jR} {X : jX} {ws : Nat → Nat} {ex : List Int32} {m ac : Nat} (q_ : Lv wn f len R S0 A0 S A n c D X ws ex m ac) : ws 0 = 0 := q_.2.2.2.2.2.2.2.2.2.2.1
theorem Lv_wr {wn : Nat → Int64} {f : Nat → Int32} {len : Nat} {R : Bool × jS × jR × jX} {S0 : Nat → Int32} {A0 : Nat → Nat → Int32} {S : Nat → Int32} {A : Nat → Nat → Int32} {n : Nat} {c : jS} {D : jR} {X : jX} {ws : Nat → Nat} {ex : List Int32} {m ac : Nat} (q_ : Lv wn f len R S0 A0 S A n c D X ws ex m ac) : S 28 = Int32.ofNat (ws (xRc X) + ex.length) ∧ ws (xRc X) + ex.length ≤ 2 * c.1 := q_.2.2.2.2.2.2.2.2.2.2.2.1
theorem Lv_wa {wn : Nat → Int64} {f : Nat → Int32} {len : Nat} {R : Bool × jS × jR × jX} {S0 : Nat → Int32} {A0 : Nat → Nat → Int32} {S : Nat → Int32} {A : Nat → Nat → Int32} {n : Nat} {c : jS} {D : jR} {X : jX} {ws : Nat → Nat} {ex : List Int32} {m ac : Nat} (q_ : Lv wn f len R S0 A0 S A n c D X ws ex m ac) : ∀ i : Nat, i < xRc X → A 20 i = Int32.ofNat (ws i) := q_.2.2.2.2.2.2.2.2.2.2.2.2.1
theorem Lv_tx {wn : Nat → Int64} {f : Nat → Int32} {len : Nat} {R : Bool × jS × jR × jX} {S0 : Nat → Int32} {A0 : Nat → Nat → Int32} {S : Nat → Int32} {A : Nat → Nat → Int32} {n : Nat} {c : jS} {D : jR} {X : jX} {ws : Nat → Nat} {ex : List Int32} {m ac : Nat} (q_ : Lv wn f len R S0 A0 S A n c D X ws ex m ac) : ∀ r : Nat, 1 ≤ r → r ≤ xRc X → ws (r - 1) < ws r ∧ ws r = ws (r - 1) + (jjn wn X (tks X r)).length ∧ sl (A 19) (ws (r - 1)) (jjn wn X (tks X r)) := q_.2.2.2.2.2.2.2.2.2.2.2.2.2.1
theorem Lv_xe {wn : Nat → Int64} {f : Nat → Int32} {len : Nat} {R : Bool × jS × jR × jX} {S0 : Nat → Int32} {A0 : Nat → Nat → Int32} {S : Nat → Int32} {A : Nat → Nat → Int32} {n : Nat} {c : jS} {D : jR} {X : jX} {ws : Nat → Nat} {ex : List Int32} {m ac : Nat} (q_ : Lv wn f len R S0 A0 S A n c D X ws ex m ac) : sl (A 19) (ws (xRc X)) ex := q_.2.2.2.2.2.2.2.2.2.2.2.2.2.2.1
theorem Lv_ac {wn : Nat → Int64} {f : Nat → Int32} {len : Nat} {R : Bool × jS × jR × jX} {S0 : Nat → Int32} {A0 : Nat → Nat → Int32} {S : Nat → Int32} {A : Nat → Nat → Int32} {n : Nat} {c : jS} {D : jR} {X : jX} {ws : Nat → Nat} {ex : List Int32} {m ac : Nat} (q_ : Lv wn f len R S0 A0 S A n c D X ws ex m ac) : S 24 = Int32.ofNat ac ∧ 4 * ac ≤ xTc X := q_.2.2.2.2.2.2.2.2.2.2.2.2.2.2.2.1
theorem Lv_fr {wn : Nat → Int64} {f : Nat → Int32} {len : Nat} {R : Bool × jS × jR × jX} {S0 : Nat → Int32} {A0 : Nat → Nat → Int32} {S : Nat → Int32} {A : Nat → Nat → Int32} {n : Nat} {c : jS} {D : jR} {X : jX} {ws : Nat → Nat} {ex : List Int32} {m ac : Nat} (q_ : Lv wn f len R S0 A0 S A n c D X ws ex m ac) : Fr S A S0 A0 := q_.2.2.2.2.2.2.2.2.2.2.2.2.2.2.2.2.1
theorem Lv_ta {wn : Nat → Int64} {f : Nat → Int32} {len : Nat} {R : Bool × jS × jR × jX} {S0 : Nat → Int32} {A0 : Nat → Nat → Int32} {S : Nat → Int32} {A : Nat → Nat → Int32} {n : Nat} {c : jS} {D : jR} {X : jX} {ws : Nat → Nat} {ex : List Int32} {m ac : Nat} (q_ : Lv wn f len R S0 A0 S A n c D X ws ex m ac) : ∀ r : Nat, 1 ≤ r → r ≤ xRc X → xTa X r = 0 := q_.2.2.2.2.2.2.2.2.2.2.2.2.2.2.2.2.2.1
theorem Lv_tl {wn : Nat → Int64} {f : Nat → Int32} {len : Nat} {R : Bool × jS × jR × jX} {S0 : Nat → Int32} {A0 : Nat → Nat → Int32} {S : Nat → Int32} {A : Nat → Nat → Int32} {n : Nat} {c : jS} {D : jR} {X : jX} {ws : Nat → Nat} {ex : List Int32} {m ac : Nat} (q_ : Lv wn f len R S0 A0 S A n c D X ws ex m ac) : ∀ r : Nat, 1 ≤ r → r ≤ xRc X → tkL (xNc X) (tks X r) := q_.2.2.2.2.2.2.2.2.2.2.2.2.2.2.2.2.2.2.1
theorem Lv_bk {wn : Nat → Int64} {f : Nat → Int32} {len : Nat} {R : Bool × jS × jR × jX} {S0 : Nat → Int32} {A0 : Nat → Nat → Int32} {S : Nat → Int32} {A : Nat → Nat → Int32} {n : Nat} {c : jS} {D : jR} {X : jX} {ws : Nat → Nat} {ex : List Int32} {m ac : Nat} (q_ : Lv wn f len R S0 A0 S A n c D X ws ex m ac) : D.1 ≠ 0 → xBl X D.1 = 0 ∧ ∃ kk : Nat, 3 ≤ kk ∧ kk ≤ 5 ∧ xKi X D.1 = Int32.ofNat (kb kk) := q_.2.2.2.2.2.2.2.2.2.2.2.2.2.2.2.2.2.2.2.1
theorem Lv_rw {wn : Nat → Int64} {f : Nat → Int32} {len : Nat} {R : Bool × jS × jR × jX} {S0 : Nat → Int32} {A0 : Nat → Nat → Int32} {S : Nat → Int32} {A : Nat → Nat → Int32} {n : Nat} {c : jS} {D : jR} {X : jX} {ws : Nat → Nat} {ex : List Int32} {m ac : Nat} (q_ : Lv wn f len R S0 A0 S A n c D X ws ex m ac) : ∀ r : Nat, 1 ≤ r → r ≤ m → RowOk A X ac r := q_.2.2.2.2.2.2.2.2.2.2.2.2.2.2.2.2.2.2.2.2.1
theorem Lv_mm {wn : Nat → Int64} {f : Nat → Int32} {len : Nat} {R : Bool × jS × jR × jX} {S0 : Nat → Int32} {A0 : Nat → Nat → Int32} {S : Nat → Int32} {A : Nat → Nat → Int32} {n : Nat} {c : jS} {D : jR} {X : jX} {ws : Nat → Nat} {ex : List Int32} {m ac : Nat} (q_ : Lv wn f len R S0 A0 S A n c D X ws ex m ac) : m ≤ xRc X := q_.2.2.2.2.2.2.2.2.2.2.2.2.2.2.2.2.2.2.2.2.2
theorem fl_yes {wn : Nat → Int64} {f : Nat → Int32} {len n : Nat} {c : jS} {D : jR} {X : jX} {R : Bool × jS × jR × jX} (e : fl wn f len n c D X = R) (hu : len < c.1 + n) (hc : c.1 ≤ len) (h6 : (adv wn f len c).2.2.1 ≠ Int32.ofNat 6) (hq : (cond (dOv D) (tBe (adv wn f len c) D X) (tSt (adv wn f len c) D X)).1 = true) : fl wn f len (n - 1) (adv wn f len c) (cond (dOv D) (tBe (adv wn f len c) D X) (tSt (adv wn f len c) D X)).2.1 (cond (dOv D) (tBe (adv wn f len c) D X) (tSt (adv wn f len c) D X)).2.2 = R := by
  obtain ⟨k, rfl⟩ : ∃ k, n = k + 1 := ⟨n - 1, by omega⟩
  rw [← e, fl, if_neg h6, if_pos hq]
  rfl
theorem fl_no {wn : Nat → Int64} {f : Nat → Int32} {len n : Nat} {c : jS} {D : jR} {X : jX} {R : Bool × jS × jR × jX} (e : fl wn f len n c D X = R) (hu : len < c.1 + n) (hc : c.1 ≤ len) (hq : (adv wn f len c).2.2.1 ≠ Int32.ofNat 6 → (cond (dOv D) (tBe (adv wn f len c) D X) (tSt (adv wn f len c) D X)).1 = false) (h6 : (adv wn f len c).2.2.1 = Int32.ofNat 6 → (decide (D.1 = 0) && dOv D) = false) : R.1 = false ∧ R.2.1.2.1 = (adv wn f len c).2.1 := by
  obtain ⟨k, rfl⟩ : ∃ k, n = k + 1 := ⟨n - 1, by omega⟩
  rw [← e, fl]
  by_cases c6 : (adv wn f len c).2.2.1 = Int32.ofNat 6
  · rw [if_pos c6]
    exact ⟨h6 c6, rfl⟩
  · rw [if_neg c6, if_neg (by rw [hq c6]; decide)]
    exact ⟨rfl, rfl⟩
theorem sl_split {g : Nat → Int32} {p : Nat} {l m : List Int32} (h : sl g p (l ++ m)) : sl g p l ∧ sl g (p + l.length) m := by
  constructor
  · intro i hi
    have := h i (by rw [List.length_append]; omega)
    rw [gD_app hi] at this
    exact this
  · intro i hi
    have := h (l.length + i) (by rw [List.length_append]; omega)
    rw [gD_app_r (by omega), Nat.add_sub_cancel_left] at this
    rw [Nat.add_assoc]
    exact this
theorem ws_mono {wn : Nat → Int64} {X : jX} {ws : Nat → Nat} {g : Nat → Int32} {N : Nat} (h : ∀ r : Nat, 1 ≤ r → r ≤ N → ws (r - 1) < ws r ∧ ws r = ws (r - 1) + (jjn wn X (tks X r)).length ∧ sl g (ws (r - 1)) (jjn wn X (tks X r))) {r : Nat} : ∀ s : Nat, r ≤ s → s ≤ N → ws r ≤ ws s
  | 0, h1, _ => by rw [show r = 0 by omega]; exact Nat.le_refl _
  | s + 1, h1, h2 => by
    by_cases e : r = s + 1
    · rw [e]; exact Nat.le_refl _
    · have := ws_mono (r := r) h s (by omega) (by omega)
      have h3 := (h (s + 1) (by omega) h2).1
      rw [Nat.add_sub_cancel] at h3
      omega
/-- a token within a row is taken by both -/
theorem lv_gen {G : jx_Gv} {h : jx_H} {b : Nat} {wn : Nat → Int64} {f : Nat → Int32} {len : Nat} {R : Bool × jS × jR × jX} {S0 : Nat → Int32} {A0 : Nat → Nat → Int32} (hw : wnOk wn) (hO : fOct f len) (hl : len ≤ 2000) {S : Nat → Int32} {A : Nat → Nat → Int32} {n : Nat} {c : jS} {D : jR} {X : jX} {ws : Nat → Nat} {ex : List Int32} {m ac : Nat} (q : Lv wn f len R S0 A0 S A n c D X ws ex m ac) (hm : xRc X = m + 1) (hd : dOv D = false) (h5 : (adv wn f len c).2.2.1 ≠ Int32.ofNat 5) (h6 : (adv wn f len c).2.2.1 ≠ Int32.ofNat 6) {D' : jR} {X' : jX} {ex' : List Int32} (hst : tSt (adv wn f len c) D X = (true, D', X')) (hn1 : xNa X' = xNa (nxX (adv wn f len c) X)) (hn2 : xNc X' = xNc (nxX (adv wn f len c) X)) (r1 : xRc X' = xRc X) (r2 : xTc X ≤ xTc X') (r3 : ∀ r : Nat, 1 ≤ r → r ≤ m → tks X' r = tks X r) (r4 : xKi X' = xKi X) (r5 : xBl X' = xBl X) (r6 : xTa X' = xTa X) (ht : jjn wn X' (tks X' (m + 1)) ++ ex' = jjn wn X (tks X (m + 1)) ++ (ex ++ Int32.ofNat 32 :: tokW f (S 4) (S 5) (lback f (adv wn f len c).1) (adv wn f len c).1)) (hk : tkL (xNc X') (tks X' (m + 1))) (hp : 1 ≤ (jjn wn X' (tks X' (m + 1))).length) : ∃ S' A' ws', jE G (82, 0, [some (.ref b)], [], hR h b S A) = some (some (.int (Int32.ofNat 1)), hR h b S' A') ∧ Lv wn f len R S0 A0 S' A' (n - 1) (adv wn f len c) D' X' ws' ex' m ac ∧ n - 1 < n ∧ Frm S A S' A' ∧ S' 7 = S 7 := by
  have fi := Lv_fi q
  have tk := Lv_tk q
  have tx := Lv_tx q
  have wr := Lv_wr q
  have hc : c.1 ≤ len := fi.1
  have hrc : xRc X ≤ 120 := fi.2.1.1
  have hwm := (tx (m + 1) (by omega) (by omega)).1
  rw [Nat.add_sub_cancel] at hwm
  have hcd : cond (dOv D) (tBe (adv wn f len c) D X) (tSt (adv wn f len c) D X) = (true, D', X') := by rw [hd, cond_false, hst]
  have wr1 := wr.1
  have wr2 := wr.2
  rw [hm] at wr1 wr2
  obtain ⟨S', A', e1, e2, e3, e4, e5, e6, e7, e8, e9⟩ := ac_ok (G := G) (h := h) (b := b) (X' := X') (m := m) (wa := ws m) (w := ws (m + 1) + ex.length) hw hO hl (Lv_s0 q) (Lv_a1 q) (Lv_ln q) (Lv_pl q) tk h5 h6 (by rw [Lv_ro q, hm]) (by omega) (Lv_wa q m (by omega)) (by omega) wr1 wr2 hn1 hn2
  rw [if_pos (show ws m < ws (m + 1) + ex.length by omega)] at e5 e6 e7
  have hfl := fl_yes (Lv_fl q) (Lv_fu q) hc h6 (by rw [hcd])
  rw [hcd] at hfl
  have hfi := fI_step (wn := wn) hO hl fi h6 (by rw [hcd])
  rw [hcd] at hfi
  have hlt : c.1 < (adv wn f len c).1 := (tk.2.2.2.2.2.2.2.1 h5 h6).2
  have hn : xNc X' ≤ 1000 := hfi.2.1.2.2.1
  have nmX : nmx X X' := by
    have z := nmx_nx (q := adv wn f len c) (X := X) (fun e => (tk.2.2.2.2.1 e).1)
    unfold nmx
    rw [hn1, hn2]
    exact z.1
  generalize hT : [Int32.ofNat 32] ++ tokW f (S 4) (S 5) (lback f (adv wn f len c).1) (adv wn f len c).1 = t at *
  have hT' : Int32.ofNat 32 :: tokW f (S 4) (S 5) (lback f (adv wn f len c).1) (adv wn f len c).1 = t := hT
  rw [hT'] at ht
  have oldj : ∀ r : Nat, 1 ≤ r → r ≤ m + 1 → jjn wn X' (tks X r) = jjn wn X (tks X r) := fun r h1 h2 => jjn_congr _ (tkt_ext nmX hn (Lv_tl q r h1 (by omega)))
  have mono := fun r s h1 h2 => ws_mono (r := r) tx s h1 h2
  have s1 : sl (A' 19) (ws m) (jjn wn X (tks X (m + 1)) ++ (ex ++ t)) := by
    have z := tx (m + 1) (by omega) (by omega)
    rw [Nat.add_sub_cancel] at z
    rw [e7]
    refine sl_app (sl_lo z.2.2 (by omega)) ?_
    rw [← z.2.1]
    refine sl_app (sl_lo ?_ (Nat.le_refl _)) wps_hi
    have := Lv_xe q
    rw [hm] at this
    exact this
  rw [← ht] at s1
  obtain ⟨s2, s3⟩ := sl_split s1
  have lens := congrArg List.length ht
  rw [List.length_append, List.length_append, List.length_append] at lens
  have z0 := (tx (m + 1) (by omega) (by omega)).2.1
  rw [Nat.add_sub_cancel] at z0
  refine ⟨S', A', upN ws (m + 1) (ws m + (jjn wn X' (tks X' (m + 1))).length), e1, ?_, by have := Lv_fu q; omega, ⟨e8 11 (by decide) (by decide) (by decide) (by decide) (by decide) (by decide) (by decide), e8 24 (by decide) (by decide) (by decide) (by decide) (by decide) (by decide) (by decide), e8 31 (by decide) (by decide) (by decide) (by decide) (by decide) (by decide) (by decide), fun z => (e8 7 (by decide) (by decide) (by decide) (by decide) (by decide) (by decide) (by decide)).symm.trans z, e9⟩, e8 7 (by decide) (by decide) (by decide) (by decide) (by decide) (by decide) (by decide)⟩
  have fr := Lv_fr q
  refine ⟨hfl, by have := Lv_fu q; omega, hfi, ?_, ?_, e3, e4, e2, ?_, ?_, ?_, ?_, ?_, ?_, ?_, ?_, ?_, ?_, ?_, ?_, ?_, ?_⟩
  · rw [e8 0 (by decide) (by decide) (by decide) (by decide) (by decide) (by decide) (by decide)]
    exact Lv_s0 q
  · rw [e9 1 (by decide) (by decide) (by decide)]
    exact Lv_a1 q
  · rw [e8 7 (by decide) (by decide) (by decide) (by decide) (by decide) (by decide) (by decide)]
    exact Lv_go q
  · rw [e8 11 (by decide) (by decide) (by decide) (by decide) (by decide) (by decide) (by decide), r1]
    exact Lv_ro q
  · rw [upN_of (by omega)]
    exact Lv_w0 q
  · rw [r1, hm, upN_at, e5]
    refine ⟨?_, by omega⟩
    congr 1
    omega
  · intro i hi
    rw [r1, hm] at hi
    rw [e9 20 (by decide) (by decide) (by decide), upN_of (by omega)]
    exact Lv_wa q i (by omega)
  · intro r h1 h2
    rw [r1, hm] at h2
    by_cases c1 : r = m + 1
    · subst c1
      rw [Nat.add_sub_cancel, upN_at, upN_of (by omega)]
      exact ⟨by omega, rfl, s2⟩
    · have z := tx r h1 (by omega)
      have zz := mono r (m + 1) (by omega) (by omega)
      rw [upN_of (by omega), upN_of (by omega), r3 r h1 (by omega), oldj r h1 (by omega)]
      refine ⟨z.1, z.2.1, ?_⟩
      rw [e7]
      exact sl_lo z.2.2 (by omega)
  · rw [r1, hm, upN_at]
    exact s3
  · rw [e8 24 (by decide) (by decide) (by decide) (by decide) (by decide) (by decide) (by decide)]
    have := Lv_ac q
    exact ⟨this.1, by omega⟩
  · refine ⟨?_, ?_, ?_, fun k k1 => ?_⟩
    · rw [e8 32 (by decide) (by decide) (by decide) (by decide) (by decide) (by decide) (by decide)]; exact fr.1
    · rw [e8 33 (by decide) (by decide) (by decide) (by decide) (by decide) (by decide) (by decide)]; exact fr.2.1
    · rw [e8 51 (by decide) (by decide) (by decide) (by decide) (by decide) (by decide) (by decide)]; exact fr.2.2.1
    · rw [e9 k (by omega) (by omega) (by omega)]; exact fr.2.2.2 k k1
  · rw [r1, r6]
    exact Lv_ta q
  · intro r h1 h2
    rw [r1, hm] at h2
    by_cases c1 : r = m + 1
    · subst c1
      exact hk
    · rw [r3 r h1 (by omega)]
      exact tkL_mono (Lv_tl q r h1 (by omega)) nmX.1
  · have d1 : D'.1 = D.1 := by
      have z := tSt_ok (c := adv wn f len c) (D := D) (X := X) fi.2.1 (by omega) (by have := fi.2.2.2.2.2.2.1; have := e4.1; omega) fi.2.2.2.1 (by have := of_decide_eq_false hd; have := jlen_le D.2.1 fi.2.2.2.1; omega) fi.2.2.2.2.2.1
      have z1 := z.1
      rw [hst] at z1
      exact z1
    rw [d1, r5, r4]
    exact Lv_bk q
  · intro r h1 h2
    have hac : ac ≤ 600 := by
      have z1 := (Lv_ac q).2
      have z2 := fi.2.1.2.1
      omega
    exact RowOk_mono (A := A) (X := X) (fun k k1 k2 => by rw [e9 k (by omega) (by omega) (by omega)]) (fun k k1 k2 j _ => by rw [e9 k (by omega) (by omega) (by omega)]) (Nat.le_refl _) hac (r3 r h1 h2) (by rw [r4]) (by rw [r5]) (fun _ => by rw [r5]) (Lv_rw q r h1 h2)
  · rw [r1]
    exact Lv_mm q
