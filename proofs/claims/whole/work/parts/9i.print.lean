/-! BOTH PRINT ALIKE -/
theorem sl_cpy {g : Nat → Int32} {p : Nat} {l : List Int32} (h : sl g p l) : cpy g l.length p = l := by
  refine list_ext0 (cpy_len _ _) fun k hk => ?_
  rw [cpy_len] at hk
  rw [cpy_get _ _ _ hk]
  exact h k hk
theorem prows_eq {wn : Nat → Int64} {X : jX} {B : Nat → Nat → Int32} {ws : Nat → Nat} (q : Hd wn X B ws) : ∀ d j : Nat, j + d = xRc X → prows (B 19) ws d j = rowsO wn X d j
  | 0, _, _ => rfl
  | d + 1, j, hj => by
    obtain ⟨t1, t2, t3⟩ := Hd_tx q (j + 1) (by omega) (by omega)
    rw [Nat.add_sub_cancel] at t1 t2 t3
    have e : ws (j + 1) - ws j = (rowO wn X (j + 1)).length := by omega
    unfold prows rowsO
    rw [e, sl_cpy t3, prows_eq q d (j + 1) (by omega)]
theorem rowsO_len {wn : Nat → Int64} {X : jX} {B : Nat → Nat → Int32} {ws : Nat → Nat} (q : Hd wn X B ws) : ∀ d j : Nat, j + d = xRc X → (rowsO wn X d j).length + ws j = ws (xRc X) + d
  | 0, j, hj => by
    have e : j = xRc X := by omega
    subst e
    exact Nat.zero_add _
  | d + 1, j, hj => by
    obtain ⟨t1, t2, t3⟩ := Hd_tx q (j + 1) (by omega) (by omega)
    rw [Nat.add_sub_cancel] at t1 t2 t3
    have ih := rowsO_len q d (j + 1) (by omega)
    unfold rowsO
    rw [List.length_append, List.length_append]
    show (rowO wn X (j + 1)).length + 1 + (rowsO wn X d (j + 1)).length + ws j = _
    omega
theorem tputs_wps : ∀ (l : List Int32) (T : jTt), T.2.1 + l.length ≤ 2000 → tputs T l = ((wps (T.1, T.2.1) l).1, T.2.1 + l.length, T.2.2)
  | [], T, _ => rfl
  | x :: l, T, h => by
    have h' : T.2.1 + (l.length + 1) ≤ 2000 := h
    have e : tput T x = (upd T.1 T.2.1 x, T.2.1 + 1, T.2.2) := if_pos (by omega)
    have ih := tputs_wps l (tput T x) (by rw [e]; show T.2.1 + 1 + l.length ≤ 2000; omega)
    show tputs (tput T x) l = ((wps (wp (T.1, T.2.1) x) l).1, T.2.1 + (l.length + 1), T.2.2)
    rw [ih, e]
    show ((wps (upd T.1 T.2.1 x, T.2.1 + 1) l).1, T.2.1 + 1 + l.length, T.2.2) = ((wps (upd T.1 T.2.1 x, T.2.1 + 1) l).1, T.2.1 + (l.length + 1), T.2.2)
    rw [show T.2.1 + 1 + l.length = T.2.1 + (l.length + 1) by omega]
theorem tputs_st : ∀ (l : List Int32) (T : jTt), T.2.2 = true → (tputs T l).2.2 = true
  | [], T, h => h
  | x :: l, T, h => by
    show (tputs (tput T x) l).2.2 = true
    refine tputs_st l _ ?_
    unfold tput
    split
    · exact h
    · rfl
theorem tputs_ov : ∀ (l : List Int32) (T : jTt), 2000 < T.2.1 + l.length → (tputs T l).2.2 = true ∨ 2000 < T.2.1
  | [], T, h => Or.inr h
  | x :: l, T, h => by
    have h' : 2000 < T.2.1 + (l.length + 1) := h
    by_cases c : T.2.1 < 2000
    · have e : tput T x = (upd T.1 T.2.1 x, T.2.1 + 1, T.2.2) := if_pos c
      have ih := tputs_ov l (tput T x) (by rw [e]; show 2000 < T.2.1 + 1 + l.length; omega)
      rcases ih with z | z
      · exact Or.inl z
      · rw [e] at z
        have z' : 2000 < T.2.1 + 1 := z
        omega
    · refine Or.inl ?_
      show (tputs (tput T x) l).2.2 = true
      have e : tput T x = (T.1, T.2.1, true) := if_neg c
      rw [e]
      exact tputs_st l _ rfl
/-- what the class prints, told by the reference's places -/
theorem pr_class {wn : Nat → Int64} {X : jX} {B : Nat → Nat → Int32} {ws : Nat → Nat} (q : Hd wn X B ws) {g : Nat → Int32} : (2000 < ws (xRc X) + xRc X → (tputs (g, 0, false) (rowsO wn X (xRc X) 0)).2.2 = true) ∧ (¬ 2000 < ws (xRc X) + xRc X → tputs (g, 0, false) (rowsO wn X (xRc X) 0) = ((wps (g, 0) (prows (B 19) ws (xRc X) 0)).1, ws (xRc X) + xRc X, false) ∧ (wps (g, 0) (prows (B 19) ws (xRc X) 0)).2 = ws (xRc X) + xRc X) := by
  have le := rowsO_len q (xRc X) 0 (by omega)
  have w0 := Hd_w0 q
  rw [w0, Nat.add_zero] at le
  constructor
  · intro h
    rcases tputs_ov (rowsO wn X (xRc X) 0) (g, 0, false) (by show 2000 < 0 + _; omega) with z | z
    · exact z
    · have z' : 2000 < 0 := z
      omega
  · intro h
    rw [prows_eq q (xRc X) 0 (by omega)]
    have e := tputs_wps (rowsO wn X (xRc X) 0) (g, 0, false) (by show 0 + _ ≤ 2000; omega)
    have e2 : (wps (g, 0) (rowsO wn X (xRc X) 0)).2 = 0 + (rowsO wn X (xRc X) 0).length := wps_len
    rw [e, e2, le]
    exact ⟨by rw [show ((g, 0, false) : jTt).2.1 + (ws (xRc X) + xRc X) = ws (xRc X) + xRc X from Nat.zero_add _], Nat.zero_add _⟩
