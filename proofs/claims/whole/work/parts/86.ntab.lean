/-! BOTH KEEP THE SAME NAMES -/
theorem gD_in {α : Type} {l : List α} {d : α} {k : Nat} (h : k < l.length) : l.getD k d = l[k] := by
  rw [List.getD_eq_getElem?_getD, List.getElem?_eq_getElem h]
  rfl
theorem gD_out {α : Type} {l : List α} {d : α} {k : Nat} (h : l.length ≤ k) : l.getD k d = d := by
  rw [List.getD_eq_getElem?_getD, List.getElem?_eq_none h]
  rfl
theorem gD_app {α : Type} {l m : List α} {d : α} {k : Nat} (h : k < l.length) : (l ++ m).getD k d = l.getD k d := by
  rw [List.getD_eq_getElem?_getD, List.getD_eq_getElem?_getD, List.getElem?_append_left h]
theorem gD_app_r {α : Type} {l m : List α} {d : α} {k : Nat} (h : l.length ≤ k) : (l ++ m).getD k d = m.getD (k - l.length) d := by
  rw [List.getD_eq_getElem?_getD, List.getD_eq_getElem?_getD, List.getElem?_append_right h]
/-- a name is no word, and a letter stands first -/
def nmG (l : List Int32) : Prop := wix l = 0 ∧ wlet (l.getD 0 0) = true
def nTab (A : Nat → Nat → Int32) (X : jX) : Prop := ∀ i : Nat, i < xNc X → ∃ l : List Int32, l ≠ [] ∧ aln l ∧ l.length ≤ 12 ∧ nmG l ∧ xNa X i = Int64.ofNat (lcd l) ∧ A 2 (i + 1) = Int32.ofNat l.length ∧ ∀ k : Nat, k < l.length → A 3 (12 * (i + 1) + k) = l.getD k 0
theorem jall_iff {P : Nat → Bool} : ∀ d j : Nat, jall P d j = true ↔ ∀ k : Nat, j ≤ k → k < j + d → P k = true
  | 0, j => ⟨fun _ k h1 h2 => by omega, fun _ => rfl⟩
  | d + 1, j => by
    unfold jall
    rw [Bool.and_eq_true, jall_iff d (j + 1)]
    constructor
    · rintro ⟨h1, h2⟩ k h3 h4
      by_cases e : k = j
      · rw [e]; exact h1
      · exact h2 k (by omega) (by omega)
    · intro h
      exact ⟨h j (Nat.le_refl _) (by omega), fun k h1 h2 => h k (by omega) (by omega)⟩
theorem list_ext0 {l m : List Int32} (h : l.length = m.length) (e : ∀ k : Nat, k < l.length → l.getD k 0 = m.getD k 0) : l = m := by
  apply List.ext_getElem h
  intro k h1 h2
  have := e k h1
  rw [gD_in h1, gD_in h2] at this
  exact this
theorem nmq_eq {A : Nat → Nat → Int32} {X : jX} {fr ln i : Nat} (hT : nTab A X) (hi : i < xNc X) (h1 : 1 ≤ ln) (hl : ln ≤ 12) (ha : aln (cpy (A 1) ln fr)) : nmq A fr ln (i + 1) = decide (xNa X i = Int64.ofNat (lcd (cpy (A 1) ln fr))) := by
  obtain ⟨l, n1, n2, n3, nw, n4, n5, n6⟩ := hT i hi
  have hlen : (cpy (A 1) ln fr).length = ln := cpy_len ln fr
  rw [Bool.eq_iff_iff, decide_eq_true_iff, n4, l_eq (lcd_big n2 n3) (lcd_big ha (by rw [hlen]; exact hl))]
  unfold nmq
  rw [Bool.and_eq_true, decide_eq_true_iff, n5, i_eq (by omega) (by omega), jall_iff]
  constructor
  · rintro ⟨e1, e2⟩
    congr 1
    refine list_ext0 (by rw [e1, hlen]) fun k hk => ?_
    rw [cpy_get ln fr k (by omega), ← n6 k hk]
    exact of_decide_eq_true (e2 k (Nat.zero_le _) (by omega))
  · intro e
    have el := lcd_inj n2 ha n3 (by rw [hlen]; exact hl) e
    refine ⟨by rw [el, hlen], fun k _ hk => decide_eq_true ?_⟩
    have hk2 : k < l.length := by rw [el, hlen]; omega
    rw [n6 k hk2, el, cpy_get ln fr k (by omega)]
theorem nmf_eq {A : Nat → Nat → Int32} {X : jX} {fr ln : Nat} (hT : nTab A X) (h1 : 1 ≤ ln) (hl : ln ≤ 12) (ha : aln (cpy (A 1) ln fr)) : ∀ d i : Nat, i + d = xNc X → nmf A fr ln d (i + 1) = (xnf X (Int64.ofNat (lcd (cpy (A 1) ln fr))) d i).map (· + 1)
  | 0, i, _ => rfl
  | d + 1, i, hi => by
    unfold nmf xnf
    rw [nmq_eq hT (by omega) h1 hl ha]
    by_cases c : xNa X i = Int64.ofNat (lcd (cpy (A 1) ln fr))
    · rw [decide_eq_true c, if_pos c]
      rfl
    · rw [decide_eq_false c, if_neg c]
      exact nmf_eq hT h1 hl ha d (i + 1) (by omega)
theorem xnf_spec {X : jX} {y : Int64} : ∀ d i : Nat, match xnf X y d i with
    | some j => i ≤ j ∧ j < i + d ∧ xNa X j = y
    | none => ∀ j : Nat, i ≤ j → j < i + d → xNa X j ≠ y
  | 0, i => fun j h1 h2 => by omega
  | d + 1, i => by
    unfold xnf
    by_cases c : xNa X i = y
    · rw [if_pos c]
      exact ⟨Nat.le_refl _, by omega, c⟩
    · rw [if_neg c]
      have ih := xnf_spec (X := X) (y := y) d (i + 1)
      generalize xnf X y d (i + 1) = z at *
      cases z with
      | some j => exact ⟨by have := ih.1; omega, by have := ih.2.1; omega, ih.2.2⟩
      | none =>
        intro j h1 h2
        by_cases e : j = i
        · rw [e]; exact c
        · exact ih j (by omega) (by omega)
theorem cpo_in {f : Nat → Int32} {fr base : Nat} : ∀ (d k : Nat) (g : Nat → Int32) (j : Nat), k ≤ j → j < k + d → cpo f fr base d k g (base + j) = f (fr + j)
  | 0, k, g, j, h1, h2 => by omega
  | d + 1, k, g, j, h1, h2 => by
    unfold cpo
    by_cases e : j = k
    · subst e
      by_cases c0 : d = 0
      · subst c0
        exact upd_at
      · have : ∀ (d k : Nat) (g : Nat → Int32), j < k → cpo f fr base d k g (base + j) = g (base + j) := by
          intro d
          induction d with
          | zero => intro k g _; rfl
          | succ d ih =>
            intro k g hk
            unfold cpo
            rw [ih (k + 1) _ (by omega), upd_of (by omega)]
        rw [this d (j + 1) _ (by omega), upd_at]
    · exact cpo_in d (k + 1) _ j (by omega) (by omega)
theorem cpo_out {f : Nat → Int32} {fr base i : Nat} : ∀ (d k : Nat) (g : Nat → Int32), i < base + k → cpo f fr base d k g i = g i
  | 0, k, g, h => rfl
  | d + 1, k, g, h => by
    unfold cpo
    rw [cpo_out d (k + 1) _ (by omega), upd_of (by omega)]
def hLn (A : Nat → Nat → Int32) : Prop := ∀ n : Nat, n ≤ 1000 → ∃ m : Nat, m ≤ 12 ∧ A 2 n = Int32.ofNat m
/-- a name is looked up or entered, in both -/
theorem nm_step {S : Nat → Int32} {A : Nat → Nat → Int32} {X : jX} {fr ln : Nat} (hT : nTab A X) (hA : hLn A) (h8 : S 8 = Int32.ofNat (xNc X)) (hN : xNc X < 1000) (h1 : 1 ≤ ln) (hl : ln ≤ 12) (ha : aln (cpy (A 1) ln fr)) (hx : nmG (cpy (A 1) ln fr)) : (nmR S A fr ln (xNc X)).1 = (xnn X (Int64.ofNat (lcd (cpy (A 1) ln fr)))).1 ∧ nTab (nmR S A fr ln (xNc X)).2.2 (xnn X (Int64.ofNat (lcd (cpy (A 1) ln fr)))).2 ∧ hLn (nmR S A fr ln (xNc X)).2.2 ∧ (nmR S A fr ln (xNc X)).2.1 8 = Int32.ofNat (xNc (xnn X (Int64.ofNat (lcd (cpy (A 1) ln fr)))).2) ∧ (∀ j : Nat, j ≠ 8 → (nmR S A fr ln (xNc X)).2.1 j = S j) ∧ ∀ k : Nat, k ≠ 2 → k ≠ 3 → (nmR S A fr ln (xNc X)).2.2 k = A k := by
  have hlen : (cpy (A 1) ln fr).length = ln := cpy_len ln fr
  have e := nmf_eq hT h1 hl ha (xNc X) 0 (by omega)
  unfold nmR xnn
  rw [e]
  generalize xnf X (Int64.ofNat (lcd (cpy (A 1) ln fr))) (xNc X) 0 = z
  cases z with
  | some j => exact ⟨rfl, hT, hA, h8, fun _ _ => rfl, fun _ _ _ => rfl⟩
  | none =>
    simp only [if_pos hN, Option.map_none]
    refine ⟨trivial, ?_, ?_, upd_at, fun j hj => upd_of hj, fun k k2 k3 => ?_⟩
    · intro i hi
      have hi' : i < xNc X + 1 := hi
      show ∃ l : List Int32, l ≠ [] ∧ aln l ∧ l.length ≤ 12 ∧ nmG l ∧ upL (xNa X) (xNc X) (Int64.ofNat (lcd (cpy (A 1) ln fr))) i = Int64.ofNat (lcd l) ∧ upd (A 2) (xNc X + 1) (Int32.ofNat ln) (i + 1) = Int32.ofNat l.length ∧ ∀ k : Nat, k < l.length → cpo (A 1) fr (12 * (xNc X + 1)) ln 0 (A 3) (12 * (i + 1) + k) = l.getD k 0
      by_cases c : i = xNc X
      · subst c
        refine ⟨cpy (A 1) ln fr, ?_, ha, by omega, hx, if_pos rfl, by rw [upd_at, hlen], fun k hk => ?_⟩
        · intro q
          rw [q] at hlen
          have : 0 = ln := hlen
          omega
        · rw [cpo_in ln 0 (A 3) k (Nat.zero_le _) (by omega), cpy_get ln fr k (by omega)]
      · obtain ⟨l, n1, n2, n3, nw, n4, n5, n6⟩ := hT i (by omega)
        refine ⟨l, n1, n2, n3, nw, ?_, ?_, fun k hk => ?_⟩
        · rw [← n4]; exact if_neg c
        · rw [upd_of (by omega), n5]
        · rw [cpo_out ln 0 (A 3) (by omega), n6 k hk]
    · intro n hn
      show ∃ m : Nat, m ≤ 12 ∧ upd (A 2) (xNc X + 1) (Int32.ofNat ln) n = Int32.ofNat m
      by_cases c : n = xNc X + 1
      · exact ⟨ln, hl, by rw [c, upd_at]⟩
      · rw [upd_of c]
        exact hA n hn
    · show upA (upA A 2 _) 3 _ k = A k
      rw [upA_of k3, upA_of k2]
/-- the number that a name has stands for it -/
theorem xnn_name {X : jX} {y : Int64} (hN : xNc X < 1000) : 1 ≤ (xnn X y).1 ∧ (xnn X y).1 ≤ xNc (xnn X y).2 ∧ xNa (xnn X y).2 ((xnn X y).1 - 1) = y ∧ xNc X ≤ xNc (xnn X y).2 ∧ xNc (xnn X y).2 ≤ xNc X + 1 ∧ ∀ i : Nat, i < xNc X → xNa (xnn X y).2 i = xNa X i := by
  have q := xnf_spec (X := X) (y := y) (xNc X) 0
  unfold xnn
  generalize xnf X y (xNc X) 0 = z at *
  cases z with
  | some j => exact ⟨by show 1 ≤ j + 1; omega, by have := q.2.1; show j + 1 ≤ xNc X; omega, q.2.2, Nat.le_refl _, Nat.le_succ _, fun _ _ => rfl⟩
  | none =>
    simp only [if_pos hN]
    refine ⟨by omega, Nat.le_refl _, if_pos rfl, Nat.le_succ _, Nat.le_refl _, fun i hi => if_neg (by omega)⟩
