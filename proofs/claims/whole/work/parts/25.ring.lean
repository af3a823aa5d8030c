/-! WHAT CAN BE REACHED: the rules' own array is written -/
def hs (h : jx_H) (a : Nat) (c : jx_C) : jx_H := (h.1, h.2.1, jx_up h.2.2 a c)
theorem hs_eq (h : jx_H) (a : Nat) (c : jx_C) : (hs h a c).2.2 a = some c := jx_up_eq _ _ _
theorem hs_ne {h : jx_H} {a q : Nat} {c : jx_C} (e : q ≠ a) : (hs h a c).2.2 q = h.2.2 q := jx_up_ne _ _ e
theorem hs_hs (h : jx_H) (a : Nat) (c c' : jx_C) : hs (hs h a c) a c' = hs h a c' := by
  unfold hs
  congr 2
  funext q
  by_cases e : q = a
  · simp only [jx_up, e, if_true]
  · simp only [jx_up, e, if_false]
theorem hs_id {h : jx_H} {a : Nat} {c : jx_C} (e : h.2.2 a = some c) : hs h a c = h := by
  obtain ⟨n, s, f⟩ := h
  unfold hs
  congr 2
  funext q
  by_cases e' : q = a
  · simp only [jx_up, e', if_true]; exact e.symm
  · simp only [jx_up, e', if_false]
theorem jEd_hs {h : jx_H} {a b : Nat} {X : jX} {c : jx_C} (q : jEd h a X) (hb : b < a) : jEd (hs h b c) a X := by
  refine ⟨?_, ?_, ?_, ?_, ?_, ?_, ?_, ?_, ?_⟩
  · rw [hs_ne (by omega)]; exact q.1
  · rw [hs_ne (by omega)]; exact q.2.1
  · rw [hs_ne (by omega)]; exact q.2.2.1
  · rw [hs_ne (by omega)]; exact q.2.2.2.1
  · rw [hs_ne (by omega)]; exact q.2.2.2.2.1
  · rw [hs_ne (by omega)]; exact q.2.2.2.2.2.1
  · rw [hs_ne (by omega)]; exact q.2.2.2.2.2.2.1
  · rw [hs_ne (by omega)]; exact q.2.2.2.2.2.2.2.1
  · rw [hs_ne (by omega)]; exact q.2.2.2.2.2.2.2.2
theorem c_sI {h : jx_H} {a t n i : Nat} {x : Int32} {f : Nat → Int32} (hc : h.2.2 a = some (.inr (t, n, .inl f))) (hn : n < 2147483648) (hi : i < n) : jx_sI h t a (Int32.ofNat i) x = some (hs h a (.inr (t, n, .inl (upd f i x)))) := by
  simp only [jx_sI, hc, i_inB hi hn, i_cl (Nat.lt_trans hi hn), and_self, if_true]
  rfl
theorem c_sI_b {h : jx_H} {a t n i : Nat} {x : Int32} {f : Nat → Int32} (hc : h.2.2 a = some (.inr (t, n, .inl f))) (hn : n < 2147483648) (hi : i < n) {β_ : Type} {f_ : jx_H → Option β_} : (jx_sI h t a (Int32.ofNat i) x).bind f_ = f_ ((hs h a (.inr (t, n, .inl (upd f i x))))) := bnd (c_sI hc hn hi)
/-- the rules' object, and its array -/
def jRl (h : jx_H) (u : Nat) (f : Nat → Int32) : Prop := h.2.2 u = some (.inl (6, [.ref (u + 1)])) ∧ h.2.2 (u + 1) = some (.inr (0, 120, .inl f))
section JRL
variable {h : jx_H} {u i : Nat} {f : Nat → Int32} {l : List Value} {x : Int32}
theorem rl_rv (q : jRl h u f) : jx_recv h (.ref u :: l) (some 6) = true := c_rv q.1
theorem rl_f (q : jRl h u f) : jx_fA h u 6 0 = some (u + 1) := c_fA q.1 rfl
theorem rl_f_b (q : jRl h u f) {β_ : Type} {f_ : Nat → Option β_} : (jx_fA h u 6 0).bind f_ = f_ ((u + 1)) := bnd (rl_f q)
theorem rl_n (q : jRl h u f) : jx_len h 0 (u + 1) = some 120 := c_len q.2
theorem rl_n_b (q : jRl h u f) {β_ : Type} {f_ : Nat → Option β_} : (jx_len h 0 (u + 1)).bind f_ = f_ (120) := bnd (rl_n q)
theorem rl_a (q : jRl h u f) (hi : i < 120) : jx_aI h 0 (u + 1) (Int32.ofNat i) = some (f i) := c_aI q.2 (by decide) hi
theorem rl_a_b (q : jRl h u f) (hi : i < 120) {β_ : Type} {f_ : Int32 → Option β_} : (jx_aI h 0 (u + 1) (Int32.ofNat i)).bind f_ = f_ ((f i)) := bnd (rl_a q hi)
theorem rl_s (q : jRl h u f) (hi : i < 120) : jx_sI h 0 (u + 1) (Int32.ofNat i) x = some (hs h (u + 1) (.inr (0, 120, .inl (upd f i x)))) := c_sI q.2 (by decide) hi
theorem rl_s_b (q : jRl h u f) (hi : i < 120) {β_ : Type} {f_ : jx_H → Option β_} : (jx_sI h 0 (u + 1) (Int32.ofNat i) x).bind f_ = f_ ((hs h (u + 1) (.inr (0, 120, .inl (upd f i x))))) := bnd (rl_s q hi)
theorem rl_hs (q : jRl h u f) (g : Nat → Int32) : jRl (hs h (u + 1) (.inr (0, 120, .inl g))) u g := ⟨by rw [hs_ne (by omega)]; exact q.1, hs_eq _ _ _⟩
end JRL
theorem getD_get {L : List Nat} {j : Nat} (h : j < L.length) : L.getD j 0 = L[j] := by
  rw [List.getD_eq_getElem?_getD, List.getElem?_eq_getElem h]
  rfl
def yre (p : Nat) (L : List Nat) : List Nat := if p = 0 ∨ 120 ≤ L.length ∨ p ∈ L then L else L ++ [p]
def yag (f : Nat → Int32) (L : List Nat) : Prop := L.length ≤ 120 ∧ (∀ i : Nat, i < L.length → f i = Int32.ofNat (L.getD i 0)) ∧ ∀ v ∈ L, v ≤ 120
theorem R_reach_loop {G : jx_Gv} {h : jx_H} {u : Nat} {f : Nat → Int32} {L : List Nat} {p : Nat} (hR : jRl h u f) (hL : yag f L) (hp : p ≤ 120) : ∀ d j : Nat, j + d = L.length → jE G (142, 17, [some (.ref u), some (.int (Int32.ofNat p)), some (.int (Int32.ofNat L.length)), some (.int (Int32.ofNat j))], [], h) = (if p ∈ L.drop j then some (some (.int (Int32.ofNat L.length)), h) else jE G (142, 17, [some (.ref u), some (.int (Int32.ofNat p)), some (.int (Int32.ofNat L.length)), some (.int (Int32.ofNat L.length))], [], h))
  | 0, j, hj => by
    rw [show L.drop j = [] from List.drop_eq_nil_of_le (by omega), show j = L.length by omega]
    rw [if_neg List.not_mem_nil]
  | d + 1, j, hj => by
    have h1 := hL.1
    have ih := R_reach_loop (G := G) hR hL hp d (j + 1) (by omega)
    have hjL : j < L.length := by omega
    have e1 : L.drop j = L.getD j 0 :: L.drop (j + 1) := by
      rw [List.drop_eq_getElem_cons hjL, getD_get hjL]
    have h2 : L.getD j 0 ≤ 120 := hL.2.2 _ (by rw [getD_get hjL]; exact List.getElem_mem hjL)
    have e2 := hL.2.1 j hjL
    rw [e1]
    by_cases c : L.getD j 0 = p
    · rw [if_pos (by rw [c]; exact List.mem_cons_self), e_142_17]
      simp (disch := omega) only [e_142_0, e_142_4, e_142_13, e_142_15, e_142_22, e_142_32, e_142_34, e_142_40, ↓Option.bind_some, ↓jzo_0b, ↓jzo_1b, ↓jzo_bb, Option.toList_some, Option.toList_none, List.cons_append, List.nil_append, ↓reduceIte, jzo_0, jzo_1, jzo_b, jbi_t, jbi_f, i_add, ↓i_ltP, ↓i_ltN, ↓i_eqP, ↓i_eqN, i_lt, i_eq, jbi_0, pt_lt, pf_lt, pt_eq, pf_eq, pt_le, pf_le, Nat.reduceEqDiff, eq_self, true_or, or_true, false_or, or_false, true_and, and_true, false_and, and_false, jE_sw, jE_sw0, ↓rl_f_b hR, ↓rl_a_b hR, e2, c]
    · have e3 : (p ∈ L.getD j 0 :: L.drop (j + 1)) = (p ∈ L.drop (j + 1)) := by
        refine propext ⟨fun q => ?_, fun q => List.mem_cons_of_mem _ q⟩
        rcases List.mem_cons.mp q with q | q
        · exact absurd q.symm c
        · exact q
      simp only [e3]
      rw [← ih, e_142_17]
      simp (disch := omega) only [e_142_0, e_142_4, e_142_13, e_142_15, e_142_22, e_142_32, e_142_34, e_142_40, ↓Option.bind_some, ↓jzo_0b, ↓jzo_1b, ↓jzo_bb, Option.toList_some, Option.toList_none, List.cons_append, List.nil_append, ↓reduceIte, jzo_0, jzo_1, jzo_b, jbi_t, jbi_f, i_add, ↓i_ltP, ↓i_ltN, ↓i_eqP, ↓i_eqN, i_lt, i_eq, jbi_0, pt_lt, pf_lt, pt_eq, pf_eq, pt_le, pf_le, Nat.reduceEqDiff, eq_self, true_or, or_true, false_or, or_false, true_and, and_true, false_and, and_false, jE_sw, jE_sw0, ↓rl_f_b hR, ↓rl_a_b hR, e2, c]
theorem R_reach {G : jx_Gv} {h : jx_H} {u : Nat} {f : Nat → Int32} {L : List Nat} {p : Nat} (hR : jRl h u f) (hL : yag f L) (hp : p ≤ 120) : ∃ f', yag f' (yre p L) ∧ jE G (142, 0, [some (.ref u), some (.int (Int32.ofNat p)), some (.int (Int32.ofNat L.length)), none], [], h) = some (some (.int (Int32.ofNat (yre p L).length)), hs h (u + 1) (.inr (0, 120, .inl f'))) := by
  have h1 := hL.1
  by_cases c1 : p = 0
  · refine ⟨f, ?_, ?_⟩
    · rw [yre, if_pos (Or.inl c1)]; exact hL
    · rw [yre, if_pos (Or.inl c1), hs_id hR.2]
      simp (disch := omega) only [e_142_0, e_142_4, e_142_13, e_142_15, e_142_22, e_142_32, e_142_34, e_142_40, ↓Option.bind_some, ↓jzo_0b, ↓jzo_1b, ↓jzo_bb, Option.toList_some, Option.toList_none, List.cons_append, List.nil_append, ↓reduceIte, jzo_0, jzo_1, jzo_b, jbi_t, jbi_f, i_add, ↓i_ltP, ↓i_ltN, ↓i_eqP, ↓i_eqN, i_lt, i_eq, jbi_0, pt_lt, pf_lt, pt_eq, pf_eq, pt_le, pf_le, Nat.reduceEqDiff, eq_self, true_or, or_true, false_or, or_false, true_and, and_true, false_and, and_false, jE_sw, jE_sw0, ↓rl_f_b hR, ↓rl_n_b hR, c1]
  by_cases c2 : 120 ≤ L.length
  · refine ⟨f, ?_, ?_⟩
    · rw [yre, if_pos (Or.inr (Or.inl c2))]; exact hL
    · rw [yre, if_pos (Or.inr (Or.inl c2)), hs_id hR.2]
      simp (disch := omega) only [e_142_0, e_142_4, e_142_13, e_142_15, e_142_22, e_142_32, e_142_34, e_142_40, ↓Option.bind_some, ↓jzo_0b, ↓jzo_1b, ↓jzo_bb, Option.toList_some, Option.toList_none, List.cons_append, List.nil_append, ↓reduceIte, jzo_0, jzo_1, jzo_b, jbi_t, jbi_f, i_add, ↓i_ltP, ↓i_ltN, ↓i_eqP, ↓i_eqN, i_lt, i_eq, jbi_0, pt_lt, pf_lt, pt_eq, pf_eq, pt_le, pf_le, Nat.reduceEqDiff, eq_self, true_or, or_true, false_or, or_false, true_and, and_true, false_and, and_false, jE_sw, jE_sw0, ↓rl_f_b hR, ↓rl_n_b hR, c1]
  have q := R_reach_loop (G := G) hR hL hp L.length 0 (by omega)
  rw [List.drop_zero] at q
  by_cases c3 : p ∈ L
  · refine ⟨f, ?_, ?_⟩
    · rw [yre, if_pos (Or.inr (Or.inr c3))]; exact hL
    · rw [yre, if_pos (Or.inr (Or.inr c3)), hs_id hR.2]
      rw [if_pos c3] at q
      simp (disch := omega) only [e_142_0, e_142_4, e_142_13, e_142_15, e_142_22, e_142_32, e_142_34, e_142_40, ↓Option.bind_some, ↓jzo_0b, ↓jzo_1b, ↓jzo_bb, Option.toList_some, Option.toList_none, List.cons_append, List.nil_append, ↓reduceIte, jzo_0, jzo_1, jzo_b, jbi_t, jbi_f, i_add, ↓i_ltP, ↓i_ltN, ↓i_eqP, ↓i_eqN, i_lt, i_eq, jbi_0, pt_lt, pf_lt, pt_eq, pf_eq, pt_le, pf_le, Nat.reduceEqDiff, eq_self, true_or, or_true, false_or, or_false, true_and, and_true, false_and, and_false, jE_sw, jE_sw0, ↓rl_f_b hR, ↓rl_n_b hR, c1]
      exact q
  · have c4 : ¬ (p = 0 ∨ 120 ≤ L.length ∨ p ∈ L) := fun q => by
      rcases q with q | q | q
      · exact c1 q
      · exact c2 q
      · exact c3 q
    refine ⟨upd f L.length (Int32.ofNat p), ?_, ?_⟩
    · rw [yre, if_neg c4]
      refine ⟨by simp; omega, fun i hi => ?_, fun v hv => ?_⟩
      · by_cases e : i = L.length
        · subst e; simp [upd]
        · have hi' : i < L.length := by simp at hi; omega
          rw [show upd f L.length (Int32.ofNat p) i = f i by simp [upd, e], hL.2.1 i hi', List.getD_eq_getElem?_getD, List.getD_eq_getElem?_getD, List.getElem?_append_left hi']
      · rcases List.mem_append.mp hv with hv | hv
        · exact hL.2.2 v hv
        · rw [List.mem_singleton.mp hv]; exact hp
    · rw [yre, if_neg c4]
      rw [if_neg c3] at q
      simp (disch := omega) only [e_142_0, e_142_4, e_142_13, e_142_15, e_142_22, e_142_32, e_142_34, e_142_40, ↓Option.bind_some, ↓jzo_0b, ↓jzo_1b, ↓jzo_bb, Option.toList_some, Option.toList_none, List.cons_append, List.nil_append, ↓reduceIte, jzo_0, jzo_1, jzo_b, jbi_t, jbi_f, i_add, ↓i_ltP, ↓i_ltN, ↓i_eqP, ↓i_eqN, i_lt, i_eq, jbi_0, pt_lt, pf_lt, pt_eq, pf_eq, pt_le, pf_le, Nat.reduceEqDiff, eq_self, true_or, or_true, false_or, or_false, true_and, and_true, false_and, and_false, jE_sw, jE_sw0, ↓rl_f_b hR, ↓rl_n_b hR, c1]
      refine q.trans ?_
      rw [e_142_17]
      simp (disch := omega) only [e_142_0, e_142_4, e_142_13, e_142_15, e_142_22, e_142_32, e_142_34, e_142_40, ↓Option.bind_some, ↓jzo_0b, ↓jzo_1b, ↓jzo_bb, Option.toList_some, Option.toList_none, List.cons_append, List.nil_append, ↓reduceIte, jzo_0, jzo_1, jzo_b, jbi_t, jbi_f, i_add, ↓i_ltP, ↓i_ltN, ↓i_eqP, ↓i_eqN, i_lt, i_eq, jbi_0, pt_lt, pf_lt, pt_eq, pf_eq, pt_le, pf_le, Nat.reduceEqDiff, eq_self, true_or, or_true, false_or, or_false, true_and, and_true, false_and, and_false, jE_sw, jE_sw0, ↓rl_f_b hR, ↓rl_s_b hR, List.length_append, List.length_singleton]
