/-! THE CLASS READS, FROM ITS SLOT TO ITS COUNT -/
def fsl (kp : Nat) (hand : Int32) : Nat := if kp < 8 then kp else if hand = Int32.ofNat 8 then 9 else 8
theorem P_freeSlot {G : jx_Gv} {h : jx_H} {o t d u l s kp : Nat} {hand : Int32} (hP : jPt h o t d u l s (Int32.ofNat kp) hand) (hk : kp ≤ 8) : jE G (21, 0, [some (.ref o)], [], h) = some (some (.int (Int32.ofNat (fsl kp hand))), h) := by
  unfold fsl
  by_cases c1 : kp < 8
  · rw [if_pos c1]
    simp (disch := omega) only [e_21_0, e_21_9, e_21_14, e_21_23, e_21_28, e_21_30, ↓pt_f5_b hP, ↓Option.bind_some, ↓jzo_0b, ↓jzo_1b, ↓jzo_bb, Option.toList_some, Option.toList_none, List.cons_append, List.nil_append, ↓reduceIte, jzo_0, jzo_1, jzo_b, jbi_t, jbi_f, i_add, ↓i_ltP, ↓i_ltN, ↓i_eqP, ↓i_eqN, i_lt, i_eq, jbi_0, pt_lt, pf_lt, pt_eq, pf_eq, pt_le, pf_le, Nat.reduceEqDiff, eq_self, true_or, or_true, false_or, or_false, true_and, and_true, false_and, and_false, jE_sw, jE_sw0]
  · rw [if_neg c1]
    by_cases c2 : hand = Int32.ofNat 8
    · rw [if_pos c2]
      simp (disch := omega) only [e_21_0, e_21_9, e_21_14, e_21_23, e_21_28, e_21_30, ↓pt_f5_b hP, ↓pt_f6_b hP, c2, ↓Option.bind_some, ↓jzo_0b, ↓jzo_1b, ↓jzo_bb, Option.toList_some, Option.toList_none, List.cons_append, List.nil_append, ↓reduceIte, jzo_0, jzo_1, jzo_b, jbi_t, jbi_f, i_add, ↓i_ltP, ↓i_ltN, ↓i_eqP, ↓i_eqN, i_lt, i_eq, jbi_0, pt_lt, pf_lt, pt_eq, pf_eq, pt_le, pf_le, Nat.reduceEqDiff, eq_self, true_or, or_true, false_or, or_false, true_and, and_true, false_and, and_false, jE_sw, jE_sw0]
    · rw [if_neg c2]
      simp (disch := omega) only [e_21_0, e_21_9, e_21_14, e_21_23, e_21_28, e_21_30, ↓pt_f5_b hP, ↓pt_f6_b hP, c2, ↓Option.bind_some, ↓jzo_0b, ↓jzo_1b, ↓jzo_bb, Option.toList_some, Option.toList_none, List.cons_append, List.nil_append, ↓reduceIte, jzo_0, jzo_1, jzo_b, jbi_t, jbi_f, i_add, ↓i_ltP, ↓i_ltN, ↓i_eqP, ↓i_eqN, i_lt, i_eq, jbi_0, pt_lt, pf_lt, pt_eq, pf_eq, pt_le, pf_le, Nat.reduceEqDiff, eq_self, true_or, or_true, false_or, or_false, true_and, and_true, false_and, and_false, jE_sw, jE_sw0]
theorem P_freeSlot_b {G : jx_Gv} {h : jx_H} {o t d u l s kp : Nat} {hand : Int32} (hP : jPt h o t d u l s (Int32.ofNat kp) hand) (hk : kp ≤ 8) {β_ : Type} {f_ : jx_R → Option β_} : (jE G (21, 0, [some (.ref o)], [], h)).bind f_ = f_ ((some (.int (Int32.ofNat (fsl kp hand))), h)) := bnd (P_freeSlot hP hk)
def upX (xs : Nat → jX) (i : Nat) (X : jX) : Nat → jX := fun j => if j = i then X else xs j
theorem upX_at {xs : Nat → jX} {i : Nat} {X : jX} : upX xs i X i = X := if_pos rfl
theorem upX_of {xs : Nat → jX} {i j : Nat} {X : jX} (h : j ≠ i) : upX xs i X j = xs j := if_neg h
theorem upB_at {al : Nat → Bool} {i : Nat} : upB al i i = true := if_pos rfl
theorem upB_of {al : Nat → Bool} {i j : Nat} (h : j ≠ i) : upB al i j = al j := if_neg h
theorem sl_s {h : jx_H} {s i x : Nat} {g : Nat → Option Nat} {fs : List Value} (q : jSl h s g) (hx : h.2.2 x = some (.inl (7, fs))) (hi : i < 10) : jx_sA h 4 s (Int32.ofNat i) 7 x = some (hs h s (.inr (4, 10, .inr (.inr (.inr (.inr (fun j => if j = i then some x else g j))))))) := by
  unfold jx_sA
  rw [hx]
  have q' : h.2.2 s = some (.inr (4, 10, .inr (.inr (.inr (.inr g))))) := q
  simp only [q', i_inB hi (by decide), i_cl (show i < 2147483648 by omega), and_self, if_true]
  rfl
theorem sl_s_b {h : jx_H} {s i x : Nat} {g : Nat → Option Nat} {fs : List Value} (q : jSl h s g) (hx : h.2.2 x = some (.inl (7, fs))) (hi : i < 10) {β_ : Type} {f_ : jx_H → Option β_} : (jx_sA h 4 s (Int32.ofNat i) 7 x).bind f_ = f_ ((hs h s (.inr (4, 10, .inr (.inr (.inr (.inr (fun j => if j = i then some x else g j)))))))) := bnd (sl_s q hx hi)
section IVE
variable {G : jx_Gv} {o : Nat} {H : jx_H} {kp : Nat} {hand : Int32} {T : jTt} {c : jS} {D : jR} {f0 : Nat → Int32} {al : Nat → Bool} {ed : Nat → Nat} {xs : Nat → jX} {S : Nat → Int32} {A : Nat → Nat → Int32}
theorem ed_new (q : Iv G o H kp hand T c D f0 al ed xs S A) {i : Nat} (hi : i < 10) (ha : al i = false) : Iv G o (hs (hA H (xcs H.1 x00) 5616) (o + 10) (.inr (4, 10, .inr (.inr (.inr (.inr (fun j => if j = i then some H.1 else cond (al j) (some (ed j)) none))))))) kp hand T c D f0 (upB al i) (upN ed i H.1) (upX xs i x00) S A := by
  have sz := Iv_sz q
  have n : ∀ p : Nat, p < H.1 → p ≠ o + 10 → (hs (hA H (xcs H.1 x00) 5616) (o + 10) (.inr (4, 10, .inr (.inr (.inr (.inr (fun j => if j = i then some H.1 else cond (al j) (some (ed j)) none))))))).2.2 p = H.2.2 p := fun p h1 h2 => by
    rw [hs_ne h2, hA_ne (Or.inl h1)]
  have m : ∀ k : Nat, k < 9 → (hs (hA H (xcs H.1 x00) 5616) (o + 10) (.inr (4, 10, .inr (.inr (.inr (.inr (fun j => if j = i then some H.1 else cond (al j) (some (ed j)) none))))))).2.2 (H.1 + k) = (xcs H.1 x00)[k]? := fun k hk => by
    rw [hs_ne (by omega), hA_at hk]
  refine ⟨?_, ⟨?_, ?_⟩, ⟨?_, ?_, (Iv_tx q).2.2⟩, ?_, ?_, ?_, ⟨?_, ?_⟩, ?_, ?_, fun k h1 h2 => ?_, fun j h1 h2 => ?_, fun j k h1 h2 h3 h4 h5 => ?_, Iv_dn q, ?_, ?_⟩
  · unfold jPt; rw [n _ (by omega) (by omega)]; exact Iv_pt q
  · rw [n _ (by omega) (by omega)]; exact (Iv_wd q).1
  · rw [n _ (by omega) (by omega)]; exact (Iv_wd q).2
  · rw [n _ (by omega) (by omega)]; exact (Iv_tx q).1
  · rw [n _ (by omega) (by omega)]; exact (Iv_tx q).2.1
  · rw [n _ (by omega) (by omega)]; exact Iv_rd q
  · rw [n _ (by omega) (by omega)]; exact Iv_sc q
  · unfold jWr; rw [n _ (by omega) (by omega)]; exact Iv_wr q
  · rw [n _ (by omega) (by omega)]; exact (Iv_rl q).1
  · rw [n _ (by omega) (by omega)]; exact (Iv_rl q).2
  · unfold jSl
    rw [hs_eq]
    congr 9
    funext j
    by_cases e : j = i
    · rw [if_pos e, e, upB_at, upN_at]; rfl
    · rw [if_neg e, upB_of e, upN_of e]
  · rw [n _ (by omega) (by omega)]; exact Iv_r0 q
  · rw [n _ (by omega) (by omega)]; exact Iv_rk q k h1 h2
  · by_cases e : j = i
    · subst e
      rw [upN_at, upX_at]
      refine ⟨⟨m 0 (by decide), m 1 (by decide), m 2 (by decide), m 3 (by decide), m 4 (by decide), m 5 (by decide), m 6 (by decide), m 7 (by decide), m 8 (by decide)⟩, by omega, Nat.le_refl _⟩
    · rw [upB_of e] at h2
      rw [upN_of e, upX_of e]
      obtain ⟨⟨e0, e1, e2, e3, e4, e5, e6, e7, e8⟩, l1, l2⟩ := Iv_ed q j h1 h2
      refine ⟨⟨?_, ?_, ?_, ?_, ?_, ?_, ?_, ?_, ?_⟩, l1, (show ed j + 9 ≤ H.1 + 9 by omega)⟩
      all_goals rw [n _ (by omega) (by omega)]
      all_goals assumption
  · by_cases e1 : j = i
    · subst e1
      have e2 : k ≠ j := fun z => h3 z.symm
      rw [upB_of e2] at h5
      rw [upN_at, upN_of e2]
      have := (Iv_ed q k h2 h5).2.2
      omega
    · rw [upB_of e1] at h4
      rw [upN_of e1]
      by_cases e2 : k = i
      · subst e2
        rw [upN_at]
        have := (Iv_ed q j h1 h4).2.2
        omega
      · rw [upB_of e2] at h5
        rw [upN_of e2]
        exact Iv_dj q j k h1 h2 h3 h4 h5
  · show H.1 + 9 = o + 54 + 9 * cb (upB al i) 10
    rw [cb_set ha, if_pos hi]
    omega
  · show H.2.1 + 5616 ≤ 90000 + 5616 * cb (upB al i) 10
    have := Iv_sm q
    rw [cb_set ha, if_pos hi]
    omega
/-- the edition into which is read -/
theorem ed_ready (q : Iv G o H kp hand T c D f0 al ed xs S A) {i : Nat} (hi : i < 10) : ∃ H1 a X, jE G (23, 0, [some (.ref o), some (.int (Int32.ofNat i))], [], H) = some (some (.ref a), H1) ∧ Iv G o H1 kp hand T c D f0 (upB al i) (upN ed i a) (upX xs i X) S A := by
  have pt := Iv_pt q
  have sl := Iv_sl q
  cases ha : al i
  · have iv1 := ed_new q hi ha
    have ei := E_init (G := G) (h := H)
    have ei' := fun {β : Type} {f : jx_R → Option β} => bnd (f := f) ei
    have sz := Iv_sz q
    have rv : jx_recv (jn H 11 (.inl (7, [.null, .null, .int 0, .null, .int 0, .null, .null, .null, .null, .null, .int 0]))) [.ref H.1] (some 7) = true := c_rv (jx_up_eq _ _ _)
    have sl1 : jSl (hA H (xcs H.1 x00) 5616) (o + 10) (fun i => cond (al i) (some (ed i)) none) := by
      unfold jSl
      rw [hA_ne (Or.inl (by omega))]
      exact sl
    have c1 : (hA H (xcs H.1 x00) 5616).2.2 H.1 = some (.inl (7, [.ref (H.1 + 1), .ref (H.1 + 2), .int (Int32.ofNat 0), .ref (H.1 + 3), .int (Int32.ofNat 0), .ref (H.1 + 4), .ref (H.1 + 5), .ref (H.1 + 6), .ref (H.1 + 7), .ref (H.1 + 8), .int (Int32.ofNat 0)])) := (hA_at (k := 0) (Nat.le_of_ble_eq_true rfl)).trans rfl
    have sa := sl_s (i := i) sl1 c1 hi
    have sa' := fun {β : Type} {f : jx_H → Option β} => bnd (f := f) sa
    have g0 : jx_aA H 4 (o + 10) (Int32.ofNat i) = some none := by
      rw [sl_a sl hi, ha]
      rfl
    have g0' := fun {β : Type} {f : Option Nat → Option β} => bnd (f := f) g0
    have g1 : jx_aA (hs (hA H (xcs H.1 x00) 5616) (o + 10) (.inr (4, 10, .inr (.inr (.inr (.inr (fun j => if j = i then some H.1 else cond (al j) (some (ed j)) none))))))) 4 (o + 10) (Int32.ofNat i) = some (some H.1) := by
      rw [sl_a (Iv_sl iv1) hi, upB_at, upN_at]
      rfl
    have g1' := fun {β : Type} {f : Option Nat → Option β} => bnd (f := f) g1
    refine ⟨_, H.1, x00, ?_, iv1⟩
    simp (disch := omega) only [e_23_0, e_23_4, e_23_13, e_23_15, e_23_24, e_23_36, e_23_37, ↓pt_f4_b pt, ↓sl_n_b sl, ↓g0', jk_n, rv, ↓ei', ↓sa', ↓pt_f4_b (Iv_pt iv1), ↓g1', jk_s, ↓Option.bind_some, ↓jzo_0b, ↓jzo_1b, ↓jzo_bb, Option.toList_some, Option.toList_none, List.cons_append, List.nil_append, ↓reduceIte, jzo_0, jzo_1, jzo_b, jbi_t, jbi_f, i_add, ↓i_ltP, ↓i_ltN, ↓i_eqP, ↓i_eqN, i_lt, i_eq, jbi_0, pt_lt, pf_lt, pt_eq, pf_eq, pt_le, pf_le, Nat.reduceEqDiff, eq_self, true_or, or_true, false_or, or_false, true_and, and_true, false_and, and_false, jE_sw, jE_sw0]
  · have e1 : upB al i = al := by
      funext j
      by_cases e : j = i
      · rw [e, upB_at, ha]
      · rw [upB_of e]
    have e2 : upN ed i (ed i) = ed := by
      funext j
      by_cases e : j = i
      · rw [e, upN_at]
      · rw [upN_of e]
    have e3 : upX xs i (xs i) = xs := by
      funext j
      by_cases e : j = i
      · rw [e, upX_at]
      · rw [upX_of e]
    have g0 : jx_aA H 4 (o + 10) (Int32.ofNat i) = some (some (ed i)) := by
      rw [sl_a sl hi, ha]
      rfl
    have g0' := fun {β : Type} {f : Option Nat → Option β} => bnd (f := f) g0
    refine ⟨H, ed i, xs i, ?_, by rw [e1, e2, e3]; exact q⟩
    simp (disch := omega) only [e_23_0, e_23_4, e_23_13, e_23_15, e_23_24, e_23_36, e_23_37, ↓pt_f4_b pt, ↓sl_n_b sl, ↓g0', jk_s, ↓Option.bind_some, ↓jzo_0b, ↓jzo_1b, ↓jzo_bb, Option.toList_some, Option.toList_none, List.cons_append, List.nil_append, ↓reduceIte, jzo_0, jzo_1, jzo_b, jbi_t, jbi_f, i_add, ↓i_ltP, ↓i_ltN, ↓i_eqP, ↓i_eqN, i_lt, i_eq, jbi_0, pt_lt, pf_lt, pt_eq, pf_eq, pt_le, pf_le, Nat.reduceEqDiff, eq_self, true_or, or_true, false_or, or_false, true_and, and_true, false_and, and_false, jE_sw, jE_sw0]
theorem hF_id {r t w a : Nat} {d : jR} {X : jX} (h1 : H.2.2 r = some (rdc (r + 1) d)) (h2 : H.2.2 (r + 1) = some (scl t w c)) (h3 : jEd H a X) : hF H r t w a c d X = H := by
  have e : (fun q => if q = r + 1 then some (scl t w c) else if q = r then some (rdc (r + 1) d) else if a ≤ q ∧ q < a + 9 then some (xcl a X (q - a)) else H.2.2 q) = H.2.2 := by
    funext q
    by_cases c1 : q = r + 1
    · rw [if_pos c1, c1, h2]
    rw [if_neg c1]
    by_cases c2 : q = r
    · rw [if_pos c2, c2, h1]
    rw [if_neg c2]
    by_cases c3 : a ≤ q ∧ q < a + 9
    · rw [if_pos c3]
      obtain ⟨e0, e1, e2, e3, e4, e5, e6, e7, e8⟩ := h3
      obtain ⟨k, rfl⟩ : ∃ k, q = a + k := ⟨q - a, by omega⟩
      rw [Nat.add_sub_cancel_left]
      have hk : k = 0 ∨ k = 1 ∨ k = 2 ∨ k = 3 ∨ k = 4 ∨ k = 5 ∨ k = 6 ∨ k = 7 ∨ k = 8 := by omega
      rcases hk with rfl | rfl | rfl | rfl | rfl | rfl | rfl | rfl | rfl
      · exact e0.symm
      · exact e1.symm
      · exact e2.symm
      · exact e3.symm
      · exact e4.symm
      · exact e5.symm
      · exact e6.symm
      · exact e7.symm
      · exact e8.symm
    · rw [if_neg c3]
  unfold hF
  rw [e]
theorem Iv_hF (q : Iv G o H kp hand T c D f0 al ed xs S A) {i : Nat} (hi : i < 10) (ha : al i = true) : hF H (o + 5) (o + 3) (o + 1) (ed i) c (dG G D) (xs i) = H := hF_id (Iv_rd q) (Iv_sc q) (Iv_ed q i hi ha).1
theorem Iv_fill (q : Iv G o H kp hand T c D f0 al ed xs S A) {i : Nat} (hi : i < 10) (ha : al i = true) {c' : jS} {D' : jR} {X' : jX} (hD : D'.2.2.2.1 ≤ 8) : Iv G o (hF H (o + 5) (o + 3) (o + 1) (ed i) c' (dG G D') X') kp hand T c' D' f0 al ed (upX xs i X') S A := by
  have l0 := (Iv_ed q i hi ha).2
  have n : ∀ p : Nat, p < o + 5 ∨ o + 5 + 1 < p ∧ p < ed i ∨ ed i + 8 < p → (hF H (o + 5) (o + 3) (o + 1) (ed i) c' (dG G D') X').2.2 p = H.2.2 p := fun p hp => hF_ne (by omega) hp
  refine ⟨?_, ⟨?_, ?_⟩, ⟨?_, ?_, (Iv_tx q).2.2⟩, hF_r, hF_s, ?_, ⟨?_, ?_⟩, ?_, ?_, fun k h1 h2 => ?_, fun j h1 h2 => ?_, Iv_dj q, hD, (Iv_sz q : H.1 = o + 54 + 9 * cb al 10), (Iv_sm q : H.2.1 ≤ 90000 + 5616 * cb al 10)⟩
  · unfold jPt; rw [n _ (by omega)]; exact Iv_pt q
  · rw [n _ (by omega)]; exact (Iv_wd q).1
  · rw [n _ (by omega)]; exact (Iv_wd q).2
  · rw [n _ (by omega)]; exact (Iv_tx q).1
  · rw [n _ (by omega)]; exact (Iv_tx q).2.1
  · unfold jWr; rw [n _ (by omega)]; exact Iv_wr q
  · rw [n _ (by omega)]; exact (Iv_rl q).1
  · rw [n _ (by omega)]; exact (Iv_rl q).2
  · unfold jSl; rw [n _ (by omega)]; exact Iv_sl q
  · rw [n _ (by omega)]; exact Iv_r0 q
  · rw [n _ (by omega)]; exact Iv_rk q k h1 h2
  · by_cases e : j = i
    · subst e
      rw [upX_at]
      exact ⟨hF_ed (by omega), l0⟩
    · rw [upX_of e]
      obtain ⟨⟨e0, e1, e2, e3, e4, e5, e6, e7, e8⟩, l1, l2⟩ := Iv_ed q j h1 h2
      have dj := Iv_dj q i j hi h1 (fun z => e z.symm) ha h2
      refine ⟨⟨?_, ?_, ?_, ?_, ?_, ?_, ?_, ?_, ?_⟩, l1, l2⟩
      all_goals rw [n _ (by omega)]
      all_goals assumption
/-- hand and count are changed -/
theorem Iv_obj (q : Iv G o H kp hand T c D f0 al ed xs S A) {kp' : Nat} {hand' : Int32} : Iv G o (hs H o (.inl (0, [.ref (o + 3), .ref (o + 5), .ref (o + 7), .ref (o + 8), .ref (o + 10), .int (Int32.ofNat kp'), .int hand']))) kp' hand' T c D f0 al ed xs S A := by
  have n : ∀ p : Nat, p ≠ o → (hs H o (.inl (0, [.ref (o + 3), .ref (o + 5), .ref (o + 7), .ref (o + 8), .ref (o + 10), .int (Int32.ofNat kp'), .int hand']))).2.2 p = H.2.2 p := fun p hp => hs_ne hp
  refine ⟨hs_eq _ _ _, ⟨?_, ?_⟩, ⟨?_, ?_, (Iv_tx q).2.2⟩, ?_, ?_, ?_, ⟨?_, ?_⟩, ?_, ?_, fun k h1 h2 => ?_, fun j h1 h2 => ?_, Iv_dj q, Iv_dn q, (Iv_sz q : H.1 = o + 54 + 9 * cb al 10), (Iv_sm q : H.2.1 ≤ 90000 + 5616 * cb al 10)⟩
  · rw [n _ (by omega)]; exact (Iv_wd q).1
  · rw [n _ (by omega)]; exact (Iv_wd q).2
  · rw [n _ (by omega)]; exact (Iv_tx q).1
  · rw [n _ (by omega)]; exact (Iv_tx q).2.1
  · rw [n _ (by omega)]; exact Iv_rd q
  · rw [n _ (by omega)]; exact Iv_sc q
  · unfold jWr; rw [n _ (by omega)]; exact Iv_wr q
  · rw [n _ (by omega)]; exact (Iv_rl q).1
  · rw [n _ (by omega)]; exact (Iv_rl q).2
  · unfold jSl; rw [n _ (by omega)]; exact Iv_sl q
  · rw [n _ (by omega)]; exact Iv_r0 q
  · rw [n _ (by omega)]; exact Iv_rk q k h1 h2
  · obtain ⟨⟨e0, e1, e2, e3, e4, e5, e6, e7, e8⟩, l1, l2⟩ := Iv_ed q j h1 h2
    refine ⟨⟨?_, ?_, ?_, ?_, ?_, ?_, ?_, ?_, ?_⟩, l1, l2⟩
    all_goals rw [n _ (by omega)]
    all_goals assumption
theorem Iv_p6 (q : Iv G o H kp hand T c D f0 al ed xs S A) {x : Int32} : jx_put H o 0 6 (.int x) = some (hs H o (.inl (0, [.ref (o + 3), .ref (o + 5), .ref (o + 7), .ref (o + 8), .ref (o + 10), .int (Int32.ofNat kp), .int x]))) := c_put (Iv_pt q) (Nat.le_of_ble_eq_true rfl)
theorem Iv_p6_b (q : Iv G o H kp hand T c D f0 al ed xs S A) {x : Int32} {β_ : Type} {f_ : jx_H → Option β_} : (jx_put H o 0 6 (.int x)).bind f_ = f_ ((hs H o (.inl (0, [.ref (o + 3), .ref (o + 5), .ref (o + 7), .ref (o + 8), .ref (o + 10), .int (Int32.ofNat kp), .int x])))) := bnd (Iv_p6 q)
theorem Iv_p5 (q : Iv G o H kp hand T c D f0 al ed xs S A) {n : Nat} : jx_put H o 0 5 (.int (Int32.ofNat n)) = some (hs H o (.inl (0, [.ref (o + 3), .ref (o + 5), .ref (o + 7), .ref (o + 8), .ref (o + 10), .int (Int32.ofNat n), .int hand]))) := c_put (Iv_pt q) (Nat.le_of_ble_eq_true rfl)
theorem Iv_p5_b (q : Iv G o H kp hand T c D f0 al ed xs S A) {n : Nat} {β_ : Type} {f_ : jx_H → Option β_} : (jx_put H o 0 5 (.int (Int32.ofNat n))).bind f_ = f_ ((hs H o (.inl (0, [.ref (o + 3), .ref (o + 5), .ref (o + 7), .ref (o + 8), .ref (o + 10), .int (Int32.ofNat n), .int hand])))) := bnd (Iv_p5 q)
end IVE
