/-! THE TEXT IS WRITTEN -/
theorem hs_comm {h : jx_H} {a b : Nat} {c d : jx_C} (e : a ≠ b) : hs (hs h a c) b d = hs (hs h b d) a c := by
  unfold hs
  congr 2
  funext q
  show (if q = b then some d else if q = a then some c else h.2.2 q) = (if q = a then some c else if q = b then some d else h.2.2 q)
  by_cases e1 : q = a
  · subst e1
    rw [if_neg e, if_pos rfl, if_pos rfl]
  · by_cases e2 : q = b
    · subst e2
      rw [if_pos rfl, if_neg e1, if_pos rfl]
    · rw [if_neg e2, if_neg e1, if_neg e1, if_neg e2]
theorem c_put {h : jx_H} {a ci k : Nat} {fs : List Value} {v : Value} (hc : h.2.2 a = some (.inl (ci, fs))) (hk : k < fs.length) : jx_put h a ci k v = some (hs h a (.inl (ci, fs.set k v))) := by
  simp only [jx_put, hc, hk, and_self, if_true]
  rfl
theorem c_put_b {h : jx_H} {a ci k : Nat} {fs : List Value} {v : Value} (hc : h.2.2 a = some (.inl (ci, fs))) (hk : k < fs.length) {β_ : Type} {f_ : jx_H → Option β_} : (jx_put h a ci k v).bind f_ = f_ ((hs h a (.inl (ci, fs.set k v)))) := bnd (c_put hc hk)
abbrev jTt : Type := (Nat → Int32) × Nat × Bool
def tcell (t : Nat) (T : jTt) : jx_C := .inl (1, [.ref (t + 1), .int (Int32.ofNat T.2.1), .int (jbi T.2.2)])
def hT (h : jx_H) (t : Nat) (T : jTt) : jx_H := hs (hs h (t + 1) (.inr (0, 2000, .inl T.1))) t (tcell t T)
theorem hT_hT {h : jx_H} {t : Nat} {T T' : jTt} : hT (hT h t T) t T' = hT h t T' := by
  unfold hT
  rw [hs_comm (a := t) (b := t + 1) (by omega), hs_hs, hs_hs]
theorem hT_ne {h : jx_H} {t q : Nat} {T : jTt} (h1 : q ≠ t) (h2 : q ≠ t + 1) : (hT h t T).2.2 q = h.2.2 q := by
  unfold hT
  rw [hs_ne h1, hs_ne h2]
theorem hT_tx {h : jx_H} {t : Nat} {T : jTt} (hl : T.2.1 ≤ 2000) : jTx (hT h t T) t T.1 T.2.1 T.2.2 := by
  refine ⟨hs_eq _ _ _, ?_, hl⟩
  unfold hT
  rw [hs_ne (by omega)]
  exact hs_eq _ _ _
theorem hT_id {h : jx_H} {t : Nat} {f : Nat → Int32} {len : Nat} {ov : Bool} (q : jTx h t f len ov) : hT h t (f, len, ov) = h := by
  unfold hT
  rw [hs_id q.2.1]
  exact hs_id q.1
theorem jEd_hT {h : jx_H} {a t : Nat} {X : jX} {T : jTt} (q : jEd h a X) (ht : t + 1 < a) : jEd (hT h t T) a X := jEd_hs (jEd_hs q ht) (by omega)
def tput (T : jTt) (x : Int32) : jTt := if T.2.1 < 2000 then (upd T.1 T.2.1 x, T.2.1 + 1, T.2.2) else (T.1, T.2.1, true)
def tputs (T : jTt) (l : List Int32) : jTt := l.foldl tput T
theorem tput_le {T : jTt} {x : Int32} (h : T.2.1 ≤ 2000) : (tput T x).2.1 ≤ 2000 := by
  unfold tput
  split
  · show T.2.1 + 1 ≤ 2000; omega
  · exact h
theorem tputs_le {l : List Int32} : ∀ {T : jTt}, T.2.1 ≤ 2000 → (tputs T l).2.1 ≤ 2000 := by
  induction l with
  | nil => intro T h; exact h
  | cons x l ih => intro T h; exact ih (tput_le h)
theorem tputs_app {T : jTt} {l m : List Int32} : tputs (tputs T l) m = tputs T (l ++ m) := (List.foldl_append ..).symm
theorem tputs_1 {T : jTt} {x : Int32} : tput T x = tputs T [x] := rfl
theorem tputs_0 {T : jTt} : tputs T [] = T := rfl
theorem T_add {G : jx_Gv} {h : jx_H} {t : Nat} {T : jTt} {x : Int32} (hl : T.2.1 ≤ 2000) : jE G (18, 0, [some (.ref t), some (.int x)], [], hT h t T) = some (none, hT h t (tput T x)) := by
  have hT1 := hT_tx (h := h) (t := t) hl
  unfold tput
  by_cases c : T.2.1 < 2000
  · have w1 := c_sI (x := x) hT1.2.1 (by decide) c
    have e1 : (hs (hT h t T) (t + 1) (.inr (0, 2000, .inl (upd T.1 T.2.1 x)))).2.2 t = some (tcell t T) := by rw [hs_ne (by omega)]; exact hT1.1
    have r1 : jx_fI (hs (hT h t T) (t + 1) (.inr (0, 2000, .inl (upd T.1 T.2.1 x)))) t 1 1 = some (Int32.ofNat T.2.1) := c_fI e1 rfl
    have w2 := c_put (k := 1) (v := .int (Int32.ofNat (T.2.1 + 1))) e1 (Nat.le_of_ble_eq_true rfl)
    rw [if_pos c]
    have e2 : hT h t (upd T.1 T.2.1 x, T.2.1 + 1, T.2.2) = hs (hs (hT h t T) (t + 1) (.inr (0, 2000, .inl (upd T.1 T.2.1 x)))) t (.inl (1, [.ref (t + 1), .int (Int32.ofNat (T.2.1 + 1)), .int (jbi T.2.2)])) := (hT_hT (T := T)).symm
    rw [e2]
    simp (disch := omega) only [e_18_0, e_18_12, e_18_18, ↓tx_f0_b hT1, ↓tx_f1_b hT1, ↓tx_n_b hT1, w1, r1, w2, ↓Option.bind_some, ↓jzo_0b, ↓jzo_1b, ↓jzo_bb, Option.toList_some, Option.toList_none, List.cons_append, List.nil_append, ↓reduceIte, jzo_0, jzo_1, jzo_b, jbi_t, jbi_f, i_add, ↓i_ltP, ↓i_ltN, ↓i_eqP, ↓i_eqN, i_lt, i_eq, jbi_0, pt_lt, pf_lt, pt_eq, pf_eq, pt_le, pf_le, Nat.reduceEqDiff, eq_self, true_or, or_true, false_or, or_false, true_and, and_true, false_and, and_false, jE_sw, jE_sw0, List.set]
  · have w2 := c_put (k := 2) (v := .int (Int32.ofNat 1)) hT1.1 (Nat.le_of_ble_eq_true rfl)
    rw [if_neg c]
    have e2 : hT h t (T.1, T.2.1, true) = hs (hT h t T) t (.inl (1, [.ref (t + 1), .int (Int32.ofNat T.2.1), .int (Int32.ofNat 1)])) := by
      rw [← hT_hT (T := T)]
      show hs (hs (hT h t T) (t + 1) (.inr (0, 2000, .inl T.1))) t _ = _
      rw [hs_id hT1.2.1]
      rfl
    rw [e2]
    simp (disch := omega) only [e_18_0, e_18_12, e_18_18, ↓tx_f0_b hT1, ↓tx_f1_b hT1, ↓tx_n_b hT1, w2, ↓Option.bind_some, ↓jzo_0b, ↓jzo_1b, ↓jzo_bb, Option.toList_some, Option.toList_none, List.cons_append, List.nil_append, ↓reduceIte, jzo_0, jzo_1, jzo_b, jbi_t, jbi_f, i_add, ↓i_ltP, ↓i_ltN, ↓i_eqP, ↓i_eqN, i_lt, i_eq, jbi_0, pt_lt, pf_lt, pt_eq, pf_eq, pt_le, pf_le, Nat.reduceEqDiff, eq_self, true_or, or_true, false_or, or_false, true_and, and_true, false_and, and_false, jE_sw, jE_sw0, List.set]
theorem T_add_b {G : jx_Gv} {h : jx_H} {t : Nat} {T : jTt} {x : Int32} (hl : T.2.1 ≤ 2000) {β_ : Type} {f_ : jx_R → Option β_} : (jE G (18, 0, [some (.ref t), some (.int x)], [], hT h t T)).bind f_ = f_ ((none, hT h t (tput T x))) := bnd (T_add hl)
theorem T_clear {G : jx_Gv} {h : jx_H} {t : Nat} {T : jTt} (hl : T.2.1 ≤ 2000) : jE G (61, 0, [some (.ref t)], [], hT h t T) = some (none, hT h t (T.1, 0, false)) := by
  have hT1 := hT_tx (h := h) (t := t) hl
  have w1 := c_put (k := 1) (v := .int (Int32.ofNat 0)) hT1.1 (Nat.le_of_ble_eq_true rfl)
  have w2 := c_put (h := hs (hT h t T) t (.inl (1, [.ref (t + 1), .int (Int32.ofNat 0), .int (jbi T.2.2)]))) (a := t) (k := 2) (v := .int (Int32.ofNat 0)) (hs_eq _ _ _) (Nat.le_of_ble_eq_true rfl)
  have e2 : hT h t (T.1, 0, false) = hs (hs (hT h t T) t (.inl (1, [.ref (t + 1), .int (Int32.ofNat 0), .int (jbi T.2.2)]))) t (.inl (1, [.ref (t + 1), .int (Int32.ofNat 0), .int (Int32.ofNat 0)])) := by
    rw [hs_hs, ← hT_hT (T := T)]
    show hs (hs (hT h t T) (t + 1) (.inr (0, 2000, .inl T.1))) t _ = _
    rw [hs_id hT1.2.1]
    rfl
  rw [e2]
  simp (disch := omega) only [e_61_0, w1, w2, ↓Option.bind_some, ↓jzo_0b, ↓jzo_1b, ↓jzo_bb, Option.toList_some, Option.toList_none, List.cons_append, List.nil_append, ↓reduceIte, jzo_0, jzo_1, jzo_b, jbi_t, jbi_f, i_add, ↓i_ltP, ↓i_ltN, ↓i_eqP, ↓i_eqN, i_lt, i_eq, jbi_0, pt_lt, pf_lt, pt_eq, pf_eq, pt_le, pf_le, Nat.reduceEqDiff, eq_self, true_or, or_true, false_or, or_false, true_and, and_true, false_and, and_false, jE_sw, jE_sw0, List.set]

theorem T_clear_b {G : jx_Gv} {h : jx_H} {t : Nat} {T : jTt} (hl : T.2.1 ≤ 2000) {β_ : Type} {f_ : jx_R → Option β_} : (jE G (61, 0, [some (.ref t)], [], hT h t T)).bind f_ = f_ ((none, hT h t (T.1, 0, false))) := bnd (T_clear hl)