/-! BETWEEN TWO CALLS -/
section CONG
variable {f g : Nat → Int32} {len : Nat} {wn : Nat → Int64}
theorem toc_cg (h : ∀ p : Nat, p < len → f p = g p) : toc f len = toc g len := by
  funext i
  unfold toc
  by_cases c : i < len
  · rw [if_pos c, if_pos c, h i c]
  · rw [if_neg c, if_neg c]
theorem lsk_cg (h : ∀ p : Nat, p < len → f p = g p) : ∀ d p l : Nat, lsk f len d p l = lsk g len d p l
  | 0, _, _ => rfl
  | d + 1, p, l => by
    unfold lsk
    by_cases c : p < len
    · rw [h p c, lsk_cg h d (p + 1)]
    · rw [if_neg (fun z => c z.1), if_neg (fun z => c z.1)]
theorem lnm_cg (h : ∀ p : Nat, p < len → f p = g p) : ∀ (d p : Nat) (y z : Int64), lnm f len d p y z = lnm g len d p y z
  | 0, _, _, _ => rfl
  | d + 1, p, y, z => by
    unfold lnm
    rw [toc_cg h, lnm_cg h d (p + 1)]
theorem lnb_cg (h : ∀ p : Nat, p < len → f p = g p) : ∀ (d p : Nat) (v : Int32), lnb f len d p v = lnb g len d p v
  | 0, _, _ => rfl
  | d + 1, p, v => by
    unfold lnb
    rw [toc_cg h, lnb_cg h d (p + 1)]
theorem adv_cg (h : ∀ p : Nat, p < len → f p = g p) (c : jS) : adv wn f len c = adv wn g len c := by
  unfold adv scF scU
  rw [lsk_cg h, toc_cg h, lnm_cg h, lnb_cg h]
theorem fl_cg (h : ∀ p : Nat, p < len → f p = g p) : ∀ (n : Nat) (c : jS) (D : jR) (X : jX), fl wn f len n c D X = fl wn g len n c D X
  | 0, _, _, _ => rfl
  | n + 1, c, D, X => by
    unfold fl
    rw [adv_cg (wn := wn) h c, fl_cg h n]
end CONG
/-- how many of the first are marked -/
def cb (al : Nat → Bool) : Nat → Nat
  | 0 => 0
  | n + 1 => cb al n + cond (al n) 1 0
theorem cb_le {al : Nat → Bool} : ∀ n : Nat, cb al n ≤ n
  | 0 => Nat.le_refl _
  | n + 1 => by
    have := cb_le (al := al) n
    unfold cb
    cases al n <;> simp only [cond_true, cond_false] <;> omega
def upB (al : Nat → Bool) (i : Nat) : Nat → Bool := fun j => if j = i then true else al j
theorem cb_set {al : Nat → Bool} {i : Nat} (h : al i = false) : ∀ n : Nat, cb (upB al i) n = cb al n + (if i < n then 1 else 0)
  | 0 => rfl
  | n + 1 => by
    unfold cb
    rw [cb_set h n]
    by_cases c : n = i
    · subst c
      have e : upB al n n = true := if_pos rfl
      rw [e, h, cond_true, cond_false, if_neg (by omega), if_pos (by omega)]
    · have e : upB al i n = al n := if_neg c
      rw [e]
      by_cases c2 : i < n
      · rw [if_pos c2, if_pos (by omega)]; omega
      · rw [if_neg c2, if_neg (by omega)]; omega
def Iv (G : jx_Gv) (o : Nat) (H : jx_H) (kp : Nat) (hand : Int32) (T : jTt) (c : jS) (D : jR) (f0 : Nat → Int32) (al : Nat → Bool) (ed : Nat → Nat) (xs : Nat → jX) (S : Nat → Int32) (A : Nat → Nat → Int32) : Prop := (jPt H o (o + 3) (o + 5) (o + 7) (o + 8) (o + 10) (Int32.ofNat kp) hand) ∧ (jWd H (o + 1) wn0) ∧ (jTx H (o + 3) T.1 T.2.1 T.2.2) ∧ (H.2.2 (o + 5) = some (rdc (o + 6) (dG G D))) ∧ (H.2.2 (o + 6) = some (scl (o + 3) (o + 1) c)) ∧ (jWr H (o + 7) (o + 3) (o + 1)) ∧ (jRl H (o + 8) f0) ∧ (jSl H (o + 10) (fun i => cond (al i) (some (ed i)) none)) ∧ (H.2.2 (o + 11) = some (.inl (8, rfs (o + 11) S))) ∧ (∀ k : Nat, 1 ≤ k → k ≤ 42 → H.2.2 (o + 11 + k) = some (rcl (o + 11) A k)) ∧ (∀ i : Nat, i < 10 → al i = true → jEd H (ed i) (xs i) ∧ o + 54 ≤ ed i ∧ ed i + 9 ≤ H.1) ∧ (∀ i j : Nat, i < 10 → j < 10 → i ≠ j → al i = true → al j = true → ed i + 9 ≤ ed j ∨ ed j + 9 ≤ ed i) ∧ (D.2.2.2.1 ≤ 8) ∧ (H.1 = o + 54 + 9 * cb al 10) ∧ (H.2.1 ≤ 90000 + 5616 * cb al 10)
theorem Iv_pt {G : jx_Gv} {o : Nat} {H : jx_H} {kp : Nat} {hand : Int32} {T : jTt} {c : jS} {D : jR} {f0 : Nat → Int32} {al : Nat → Bool} {ed : Nat → Nat} {xs : Nat → jX} {S : Nat → Int32} {A : Nat → Nat → Int32} (q_ : Iv G o H kp hand T c D f0 al ed xs S A) : jPt H o (o + 3) (o + 5) (o + 7) (o + 8) (o + 10) (Int32.ofNat kp) hand := q_.1
theorem Iv_wd {G : jx_Gv} {o : Nat} {H : jx_H} {kp : Nat} {hand : Int32} {T : jTt} {c : jS} {D : jR} {f0 : Nat → Int32} {al : Nat → Bool} {ed : Nat → Nat} {xs : Nat → jX} {S : Nat → Int32} {A : Nat → Nat → Int32} (q_ : Iv G o H kp hand T c D f0 al ed xs S A) : jWd H (o + 1) wn0 := q_.2.1
theorem Iv_tx {G : jx_Gv} {o : Nat} {H : jx_H} {kp : Nat} {hand : Int32} {T : jTt} {c : jS} {D : jR} {f0 : Nat → Int32} {al : Nat → Bool} {ed : Nat → Nat} {xs : Nat → jX} {S : Nat → Int32} {A : Nat → Nat → Int32} (q_ : Iv G o H kp hand T c D f0 al ed xs S A) : jTx H (o + 3) T.1 T.2.1 T.2.2 := q_.2.2.1
theorem Iv_rd {G : jx_Gv} {o : Nat} {H : jx_H} {kp : Nat} {hand : Int32} {T : jTt} {c : jS} {D : jR} {f0 : Nat → Int32} {al : Nat → Bool} {ed : Nat → Nat} {xs : Nat → jX} {S : Nat → Int32} {A : Nat → Nat → Int32} (q_ : Iv G o H kp hand T c D f0 al ed xs S A) : H.2.2 (o + 5) = some (rdc (o + 6) (dG G D)) := q_.2.2.2.1
theorem Iv_sc {G : jx_Gv} {o : Nat} {H : jx_H} {kp : Nat} {hand : Int32} {T : jTt} {c : jS} {D : jR} {f0 : Nat → Int32} {al : Nat → Bool} {ed : Nat → Nat} {xs : Nat → jX} {S : Nat → Int32} {A : Nat → Nat → Int32} (q_ : Iv G o H kp hand T c D f0 al ed xs S A) : H.2.2 (o + 6) = some (scl (o + 3) (o + 1) c) := q_.2.2.2.2.1
theorem Iv_wr {G : jx_Gv} {o : Nat} {H : jx_H} {kp : Nat} {hand : Int32} {T : jTt} {c : jS} {D : jR} {f0 : Nat → Int32} {al : Nat → Bool} {ed : Nat → Nat} {xs : Nat → jX} {S : Nat → Int32} {A : Nat → Nat → Int32} (q_ : Iv G o H kp hand T c D f0 al ed xs S A) : jWr H (o + 7) (o + 3) (o + 1) := q_.2.2.2.2.2.1
theorem Iv_rl {G : jx_Gv} {o : Nat} {H : jx_H} {kp : Nat} {hand : Int32} {T : jTt} {c : jS} {D : jR} {f0 : Nat → Int32} {al : Nat → Bool} {ed : Nat → Nat} {xs : Nat → jX} {S : Nat → Int32} {A : Nat → Nat → Int32} (q_ : Iv G o H kp hand T c D f0 al ed xs S A) : jRl H (o + 8) f0 := q_.2.2.2.2.2.2.1
theorem Iv_sl {G : jx_Gv} {o : Nat} {H : jx_H} {kp : Nat} {hand : Int32} {T : jTt} {c : jS} {D : jR} {f0 : Nat → Int32} {al : Nat → Bool} {ed : Nat → Nat} {xs : Nat → jX} {S : Nat → Int32} {A : Nat → Nat → Int32} (q_ : Iv G o H kp hand T c D f0 al ed xs S A) : jSl H (o + 10) (fun i => cond (al i) (some (ed i)) none) := q_.2.2.2.2.2.2.2.1
theorem Iv_r0 {G : jx_Gv} {o : Nat} {H : jx_H} {kp : Nat} {hand : Int32} {T : jTt} {c : jS} {D : jR} {f0 : Nat → Int32} {al : Nat → Bool} {ed : Nat → Nat} {xs : Nat → jX} {S : Nat → Int32} {A : Nat → Nat → Int32} (q_ : Iv G o H kp hand T c D f0 al ed xs S A) : H.2.2 (o + 11) = some (.inl (8, rfs (o + 11) S)) := q_.2.2.2.2.2.2.2.2.1
theorem Iv_rk {G : jx_Gv} {o : Nat} {H : jx_H} {kp : Nat} {hand : Int32} {T : jTt} {c : jS} {D : jR} {f0 : Nat → Int32} {al : Nat → Bool} {ed : Nat → Nat} {xs : Nat → jX} {S : Nat → Int32} {A : Nat → Nat → Int32} (q_ : Iv G o H kp hand T c D f0 al ed xs S A) : ∀ k : Nat, 1 ≤ k → k ≤ 42 → H.2.2 (o + 11 + k) = some (rcl (o + 11) A k) := q_.2.2.2.2.2.2.2.2.2.1
theorem Iv_ed {G : jx_Gv} {o : Nat} {H : jx_H} {kp : Nat} {hand : Int32} {T : jTt} {c : jS} {D : jR} {f0 : Nat → Int32} {al : Nat → Bool} {ed : Nat → Nat} {xs : Nat → jX} {S : Nat → Int32} {A : Nat → Nat → Int32} (q_ : Iv G o H kp hand T c D f0 al ed xs S A) : ∀ i : Nat, i < 10 → al i = true → jEd H (ed i) (xs i) ∧ o + 54 ≤ ed i ∧ ed i + 9 ≤ H.1 := q_.2.2.2.2.2.2.2.2.2.2.1
theorem Iv_dj {G : jx_Gv} {o : Nat} {H : jx_H} {kp : Nat} {hand : Int32} {T : jTt} {c : jS} {D : jR} {f0 : Nat → Int32} {al : Nat → Bool} {ed : Nat → Nat} {xs : Nat → jX} {S : Nat → Int32} {A : Nat → Nat → Int32} (q_ : Iv G o H kp hand T c D f0 al ed xs S A) : ∀ i j : Nat, i < 10 → j < 10 → i ≠ j → al i = true → al j = true → ed i + 9 ≤ ed j ∨ ed j + 9 ≤ ed i := q_.2.2.2.2.2.2.2.2.2.2.2.1
theorem Iv_dn {G : jx_Gv} {o : Nat} {H : jx_H} {kp : Nat} {hand : Int32} {T : jTt} {c : jS} {D : jR} {f0 : Nat → Int32} {al : Nat → Bool} {ed : Nat → Nat} {xs : Nat → jX} {S : Nat → Int32} {A : Nat → Nat → Int32} (q_ : Iv G o H kp hand T c D f0 al ed xs S A) : D.2.2.2.1 ≤ 8 := q_.2.2.2.2.2.2.2.2.2.2.2.2.1
theorem Iv_sz {G : jx_Gv} {o : Nat} {H : jx_H} {kp : Nat} {hand : Int32} {T : jTt} {c : jS} {D : jR} {f0 : Nat → Int32} {al : Nat → Bool} {ed : Nat → Nat} {xs : Nat → jX} {S : Nat → Int32} {A : Nat → Nat → Int32} (q_ : Iv G o H kp hand T c D f0 al ed xs S A) : H.1 = o + 54 + 9 * cb al 10 := q_.2.2.2.2.2.2.2.2.2.2.2.2.2.1
theorem Iv_sm {G : jx_Gv} {o : Nat} {H : jx_H} {kp : Nat} {hand : Int32} {T : jTt} {c : jS} {D : jR} {f0 : Nat → Int32} {al : Nat → Bool} {ed : Nat → Nat} {xs : Nat → jX} {S : Nat → Int32} {A : Nat → Nat → Int32} (q_ : Iv G o H kp hand T c D f0 al ed xs S A) : H.2.1 ≤ 90000 + 5616 * cb al 10 := q_.2.2.2.2.2.2.2.2.2.2.2.2.2.2
def Kp (A : Nat → Nat → Int32) (Z : jX) (e : Nat) : Prop := ∃ C vs, Hd wn0 Z C vs ∧ A 38 e = Int32.ofNat (xRc Z) ∧ (∀ i : Nat, i < xRc Z → A 39 (120 * e + i) = jm (xBl Z (i + 1))) ∧ (∀ i : Nat, i ≤ xRc Z → A 40 (121 * e + i) = Int32.ofNat (vs i)) ∧ ∀ i : Nat, i < vs (xRc Z) → A 41 (6000 * e + i) = C 19 i
def Rl (kp : Nat) (hand : Int32) (T : jTt) (al : Nat → Bool) (xs : Nat → jX) (S : Nat → Int32) (A : Nat → Nat → Int32) (E : Nat) : Prop := (S 51 = Int32.ofNat E) ∧ (kp = min E 8) ∧ (S 0 = Int32.ofNat T.2.1) ∧ (∀ i : Nat, i < T.2.1 → A 1 i = T.1 i) ∧ (fOct T.1 T.2.1) ∧ (hLn A) ∧ ((E = 0 ∧ hand = -(Int32.ofNat 1) ∧ S 32 = Int32.ofNat 0 ∧ S 33 = Int32.ofNat 0) ∨ (1 ≤ E ∧ ∃ i ws, i < 10 ∧ hand = Int32.ofNat i ∧ al i = true ∧ (kp < 8 → i < kp) ∧ S 32 = Int32.ofNat 1 ∧ S 33 = Int32.ofNat (xRc (xs i)) ∧ Hd wn0 (xs i) (hv A) ws)) ∧ (∀ e : Nat, e < kp → al e = true ∧ Kp A (xs e) e)
theorem Rl_e {kp : Nat} {hand : Int32} {T : jTt} {al : Nat → Bool} {xs : Nat → jX} {S : Nat → Int32} {A : Nat → Nat → Int32} {E : Nat} (q_ : Rl kp hand T al xs S A E) : S 51 = Int32.ofNat E := q_.1
theorem Rl_kp {kp : Nat} {hand : Int32} {T : jTt} {al : Nat → Bool} {xs : Nat → jX} {S : Nat → Int32} {A : Nat → Nat → Int32} {E : Nat} (q_ : Rl kp hand T al xs S A E) : kp = min E 8 := q_.2.1
theorem Rl_s0 {kp : Nat} {hand : Int32} {T : jTt} {al : Nat → Bool} {xs : Nat → jX} {S : Nat → Int32} {A : Nat → Nat → Int32} {E : Nat} (q_ : Rl kp hand T al xs S A E) : S 0 = Int32.ofNat T.2.1 := q_.2.2.1
theorem Rl_a1 {kp : Nat} {hand : Int32} {T : jTt} {al : Nat → Bool} {xs : Nat → jX} {S : Nat → Int32} {A : Nat → Nat → Int32} {E : Nat} (q_ : Rl kp hand T al xs S A E) : ∀ i : Nat, i < T.2.1 → A 1 i = T.1 i := q_.2.2.2.1
theorem Rl_oc {kp : Nat} {hand : Int32} {T : jTt} {al : Nat → Bool} {xs : Nat → jX} {S : Nat → Int32} {A : Nat → Nat → Int32} {E : Nat} (q_ : Rl kp hand T al xs S A E) : fOct T.1 T.2.1 := q_.2.2.2.2.1
theorem Rl_ln {kp : Nat} {hand : Int32} {T : jTt} {al : Nat → Bool} {xs : Nat → jX} {S : Nat → Int32} {A : Nat → Nat → Int32} {E : Nat} (q_ : Rl kp hand T al xs S A E) : hLn A := q_.2.2.2.2.2.1
theorem Rl_hd {kp : Nat} {hand : Int32} {T : jTt} {al : Nat → Bool} {xs : Nat → jX} {S : Nat → Int32} {A : Nat → Nat → Int32} {E : Nat} (q_ : Rl kp hand T al xs S A E) : (E = 0 ∧ hand = -(Int32.ofNat 1) ∧ S 32 = Int32.ofNat 0 ∧ S 33 = Int32.ofNat 0) ∨ (1 ≤ E ∧ ∃ i ws, i < 10 ∧ hand = Int32.ofNat i ∧ al i = true ∧ (kp < 8 → i < kp) ∧ S 32 = Int32.ofNat 1 ∧ S 33 = Int32.ofNat (xRc (xs i)) ∧ Hd wn0 (xs i) (hv A) ws) := q_.2.2.2.2.2.2.1
theorem Rl_ke {kp : Nat} {hand : Int32} {T : jTt} {al : Nat → Bool} {xs : Nat → jX} {S : Nat → Int32} {A : Nat → Nat → Int32} {E : Nat} (q_ : Rl kp hand T al xs S A E) : ∀ e : Nat, e < kp → al e = true ∧ Kp A (xs e) e := q_.2.2.2.2.2.2.2
def St (G : jx_Gv) (o E : Nat) (H : jx_H) : Prop := ∃ kp hand T c D f0 al ed xs S A, Iv G o H kp hand T c D f0 al ed xs S A ∧ Rl kp hand T al xs S A E
theorem hR_id {H : jx_H} {b : Nat} {S : Nat → Int32} {A : Nat → Nat → Int32} (h0 : H.2.2 b = some (.inl (8, rfs b S))) (hk : ∀ k : Nat, 1 ≤ k → k ≤ 42 → H.2.2 (b + k) = some (rcl b A k)) : hR H b S A = H := by
  have e : (fun q => if q = b then some (.inl (8, rfs b S)) else if b < q ∧ q ≤ b + 42 then some (rcl b A (q - b)) else H.2.2 q) = H.2.2 := by
    funext q
    by_cases c1 : q = b
    · rw [if_pos c1, c1, h0]
    · rw [if_neg c1]
      by_cases c2 : b < q ∧ q ≤ b + 42
      · rw [if_pos c2]
        have z := hk (q - b) (by omega) (by omega)
        rw [show b + (q - b) = q by omega] at z
        exact z.symm
      · rw [if_neg c2]
  unfold hR
  rw [e]
section IV
variable {G : jx_Gv} {o : Nat} {H : jx_H} {kp : Nat} {hand : Int32} {T : jTt} {c : jS} {D : jR} {f0 : Nat → Int32} {al : Nat → Bool} {ed : Nat → Nat} {xs : Nat → jX} {S : Nat → Int32} {A : Nat → Nat → Int32}
theorem Iv_hR (q : Iv G o H kp hand T c D f0 al ed xs S A) : hR H (o + 11) S A = H := hR_id (Iv_r0 q) (Iv_rk q)
/-- the reference's cells are changed -/
theorem Iv_ref (q : Iv G o H kp hand T c D f0 al ed xs S A) {S' : Nat → Int32} {A' : Nat → Nat → Int32} : Iv G o (hR H (o + 11) S' A') kp hand T c D f0 al ed xs S' A' := by
  have n : ∀ p : Nat, p < o + 11 ∨ o + 11 + 42 < p → (hR H (o + 11) S' A').2.2 p = H.2.2 p := fun p hp => hR_ne hp
  refine ⟨?_, ⟨?_, ?_⟩, ⟨?_, ?_, (Iv_tx q).2.2⟩, ?_, ?_, ?_, ⟨?_, ?_⟩, ?_, hR_b, fun k h1 h2 => hR_k h1 h2, fun i h1 h2 => ?_, Iv_dj q, Iv_dn q, (Iv_sz q : H.1 = o + 54 + 9 * cb al 10), (Iv_sm q : H.2.1 ≤ 90000 + 5616 * cb al 10)⟩
  · unfold jPt; rw [n _ (by omega)]; exact Iv_pt q
  · rw [n _ (by omega)]; exact (Iv_wd q).1
  · rw [n _ (by omega)]; exact (Iv_wd q).2
  · rw [n _ (by omega)]; exact (Iv_tx q).1
  · rw [n _ (by omega)]; exact (Iv_tx q).2.1
  · rw [n _ (by omega)]; exact Iv_rd q
  · rw [n _ (by omega)]; exact Iv_sc q
  · unfold jWr; rw [n _ (by omega)]; exact Iv_wr q
  · rw [n _ (by omega)]; exact (Iv_rl q).1
  · rw [n _ (by omega)]; exact (Iv_rl q).2
  · unfold jSl; rw [n _ (by omega)]; exact Iv_sl q
  · obtain ⟨⟨e0, e1, e2, e3, e4, e5, e6, e7, e8⟩, l1, l2⟩ := Iv_ed q i h1 h2
    refine ⟨⟨?_, ?_, ?_, ?_, ?_, ?_, ?_, ?_, ?_⟩, l1, l2⟩
    all_goals rw [n _ (by omega)]
    all_goals assumption
/-- the text is changed -/
theorem Iv_text (q : Iv G o H kp hand T c D f0 al ed xs S A) {T' : jTt} (hl : T'.2.1 ≤ 2000) : Iv G o (hT H (o + 3) T') kp hand T' c D f0 al ed xs S A := by
  have n : ∀ p : Nat, p ≠ o + 3 → p ≠ o + 4 → (hT H (o + 3) T').2.2 p = H.2.2 p := fun p h1 h2 => hT_ne h1 h2
  refine ⟨?_, ⟨?_, ?_⟩, hT_tx hl, ?_, ?_, ?_, ⟨?_, ?_⟩, ?_, ?_, fun k h1 h2 => ?_, fun i h1 h2 => ?_, Iv_dj q, Iv_dn q, (Iv_sz q : H.1 = o + 54 + 9 * cb al 10), (Iv_sm q : H.2.1 ≤ 90000 + 5616 * cb al 10)⟩
  · unfold jPt; rw [n _ (by omega) (by omega)]; exact Iv_pt q
  · rw [n _ (by omega) (by omega)]; exact (Iv_wd q).1
  · rw [n _ (by omega) (by omega)]; exact (Iv_wd q).2
  · rw [n _ (by omega) (by omega)]; exact Iv_rd q
  · rw [n _ (by omega) (by omega)]; exact Iv_sc q
  · unfold jWr; rw [n _ (by omega) (by omega)]; exact Iv_wr q
  · rw [n _ (by omega) (by omega)]; exact (Iv_rl q).1
  · rw [n _ (by omega) (by omega)]; exact (Iv_rl q).2
  · unfold jSl; rw [n _ (by omega) (by omega)]; exact Iv_sl q
  · rw [n _ (by omega) (by omega)]; exact Iv_r0 q
  · rw [n _ (by omega) (by omega)]; exact Iv_rk q k h1 h2
  · obtain ⟨⟨e0, e1, e2, e3, e4, e5, e6, e7, e8⟩, l1, l2⟩ := Iv_ed q i h1 h2
    refine ⟨⟨?_, ?_, ?_, ?_, ?_, ?_, ?_, ?_, ?_⟩, l1, l2⟩
    all_goals rw [n _ (by omega) (by omega)]
    all_goals assumption
/-- the rules' own array is changed -/
theorem Iv_rule (q : Iv G o H kp hand T c D f0 al ed xs S A) {f1 : Nat → Int32} : Iv G o (hr H (o + 8) f1) kp hand T c D f1 al ed xs S A := by
  have n : ∀ p : Nat, p ≠ o + 9 → (hr H (o + 8) f1).2.2 p = H.2.2 p := fun p h1 => hs_ne h1
  refine ⟨?_, ⟨?_, ?_⟩, ⟨?_, ?_, (Iv_tx q).2.2⟩, ?_, ?_, ?_, ⟨?_, hs_eq _ _ _⟩, ?_, ?_, fun k h1 h2 => ?_, fun i h1 h2 => ?_, Iv_dj q, Iv_dn q, (Iv_sz q : H.1 = o + 54 + 9 * cb al 10), (Iv_sm q : H.2.1 ≤ 90000 + 5616 * cb al 10)⟩
  · unfold jPt; rw [n _ (by omega)]; exact Iv_pt q
  · rw [n _ (by omega)]; exact (Iv_wd q).1
  · rw [n _ (by omega)]; exact (Iv_wd q).2
  · rw [n _ (by omega)]; exact (Iv_tx q).1
  · rw [n _ (by omega)]; exact (Iv_tx q).2.1
  · rw [n _ (by omega)]; exact Iv_rd q
  · rw [n _ (by omega)]; exact Iv_sc q
  · unfold jWr; rw [n _ (by omega)]; exact Iv_wr q
  · rw [n _ (by omega)]; exact (Iv_rl q).1
  · unfold jSl; rw [n _ (by omega)]; exact Iv_sl q
  · rw [n _ (by omega)]; exact Iv_r0 q
  · rw [n _ (by omega)]; exact Iv_rk q k h1 h2
  · obtain ⟨⟨e0, e1, e2, e3, e4, e5, e6, e7, e8⟩, l1, l2⟩ := Iv_ed q i h1 h2
    refine ⟨⟨?_, ?_, ?_, ?_, ?_, ?_, ?_, ?_, ?_⟩, l1, l2⟩
    all_goals rw [n _ (by omega)]
    all_goals assumption
theorem Iv_hand (q : Iv G o H kp hand T c D f0 al ed xs S A) {i : Nat} (hi : i < 10) (hh : hand = Int32.ofNat i) (ha : al i = true) : jE G (106, 0, [some (.ref o)], [], H) = some (some (.ref (ed i)), H) := by
  have z := Iv_pt q
  rw [hh] at z
  exact P_inHand1 z (Iv_sl q) hi (by rw [ha]; rfl)
theorem Iv_hand_b (q : Iv G o H kp hand T c D f0 al ed xs S A) {i : Nat} (hi : i < 10) (hh : hand = Int32.ofNat i) (ha : al i = true) {β_ : Type} {f_ : jx_R → Option β_} : (jE G (106, 0, [some (.ref o)], [], H)).bind f_ = f_ ((some (.ref (ed i)), H)) := bnd (Iv_hand q hi hh ha)
theorem Iv_rh (q : Iv G o H kp hand T c D f0 al ed xs S A) {n : Nat} (h32 : S 32 = Int32.ofNat 1) (h33 : S 33 = Int32.ofNat n) : jRh H (o + 11) (yA n (hv A)) := by
  have z := jRh_hR (h := H) (b := o + 11) (A := A) h32 h33
  rw [Iv_hR q] at z
  exact z
end IV
