/-! A ROW AS A LIST OF TOKENS, AND ITS TEXT -/
def tks (X : jX) (r : Nat) : List (Int32 × Int32) := (List.range (xLe X r)).map fun k => (xSo X (xSt X r + k), xVa X (xSt X r + k))
def ls (L : List (Int32 × Int32)) (k : Nat) : Int32 := (L.getD k (Int32.ofNat 6, Int32.ofNat 0)).1
def lv (L : List (Int32 × Int32)) (k : Nat) : Int32 := (L.getD k (Int32.ofNat 6, Int32.ofNat 0)).2
def lw (L : List (Int32 × Int32)) (k : Nat) : Int32 := if ls L k = Int32.ofNat 1 then lv L k else Int32.ofNat 0
theorem tks_len {X : jX} {r : Nat} : (tks X r).length = xLe X r := by
  unfold tks
  rw [List.length_map, List.length_range]
theorem tks_get {X : jX} {r k : Nat} : (tks X r).getD k (Int32.ofNat 6, Int32.ofNat 0) = if xLe X r ≤ k then (Int32.ofNat 6, Int32.ofNat 0) else (xSo X (xSt X r + k), xVa X (xSt X r + k)) := by
  by_cases c : xLe X r ≤ k
  · rw [if_pos c]
    exact gD_out (by rw [tks_len]; exact c)
  · rw [if_neg c, gD_in (by rw [tks_len]; omega)]
    simp only [tks, List.getElem_map, List.getElem_range]
theorem xlen_in {X : jX} {r : Nat} (h1 : 1 ≤ r) (h2 : r ≤ xRc X) : xlen X r = xLe X r := if_neg (by omega)
theorem xlen_tks {X : jX} {r : Nat} (h1 : 1 ≤ r) (h2 : r ≤ xRc X) : xlen X r = (tks X r).length := by rw [xlen_in h1 h2, tks_len]
theorem xsort_tks {X : jX} {r k : Nat} (h1 : 1 ≤ r) (h2 : r ≤ xRc X) : xsort X r k = ls (tks X r) k := by
  unfold xsort ls
  rw [tks_get, xlen_in h1 h2]
  by_cases c : xLe X r ≤ k
  · rw [if_pos c, if_pos c]
  · rw [if_neg c, if_neg c]
theorem xval_tks {X : jX} {r k : Nat} (h1 : 1 ≤ r) (h2 : r ≤ xRc X) : xval X r k = lv (tks X r) k := by
  unfold xval lv
  rw [tks_get, xlen_in h1 h2]
  by_cases c : xLe X r ≤ k
  · rw [if_pos c, if_pos c]
  · rw [if_neg c, if_neg c]
theorem xword_tks {X : jX} {r k : Nat} (h1 : 1 ≤ r) (h2 : r ≤ xRc X) : xword X r k = lw (tks X r) k := by
  unfold xword lw
  rw [xsort_tks h1 h2, xval_tks h1 h2]
theorem tks_tok {X : jX} {s v : Int32} (hI : xI X) (h1 : 1 ≤ xRc X) : tks (xaddTok X s v) (xRc X) = tks X (xRc X) ++ [(s, v)] := by
  have a5 := hI.2.2.2.2 h1
  show (List.range (upN (xLe X) (xRc X) (xLe X (xRc X) + 1) (xRc X))).map (fun k => (upd (xSo X) (xTc X) s (xSt X (xRc X) + k), upd (xVa X) (xTc X) v (xSt X (xRc X) + k))) = _
  rw [upN_at, List.range_succ, List.map_append]
  congr 1
  · refine List.map_congr_left fun k hk => ?_
    have hk' := List.mem_range.mp hk
    rw [upd_of (by omega), upd_of (by omega)]
  · show [(upd (xSo X) (xTc X) s (xSt X (xRc X) + xLe X (xRc X)), upd (xVa X) (xTc X) v (xSt X (xRc X) + xLe X (xRc X)))] = [(s, v)]
    rw [a5, upd_at, upd_at]
theorem tks_old {X : jX} {s v : Int32} {r : Nat} (hI : xI X) (h1 : 1 ≤ r) (h2 : r < xRc X) : tks (xaddTok X s v) r = tks X r := by
  have a4 := hI.2.2.2.1 r h1 (by omega)
  show (List.range (upN (xLe X) (xRc X) (xLe X (xRc X) + 1) r)).map (fun k => (upd (xSo X) (xTc X) s (xSt X r + k), upd (xVa X) (xTc X) v (xSt X r + k))) = _
  rw [upN_of (by omega)]
  refine List.map_congr_left fun k hk => ?_
  have hk' := List.mem_range.mp hk
  rw [upd_of (by omega), upd_of (by omega)]
theorem tks_rold {X : jX} {k : Int32} {b r : Nat} (h2 : r ≤ xRc X) : tks (xaddRow X k b) r = tks X r := by
  show (List.range (upN (xLe X) (xRc X + 1) 0 r)).map (fun j => (xSo X (upN (xSt X) (xRc X + 1) (xTc X) r + j), xVa X (upN (xSt X) (xRc X + 1) (xTc X) r + j))) = _
  rw [upN_of (by omega), upN_of (by omega)]
  rfl
theorem tks_rnew {X : jX} {k : Int32} {b : Nat} : tks (xaddRow X k b) (xRc X + 1) = [] := by
  show (List.range (upN (xLe X) (xRc X + 1) 0 (xRc X + 1))).map (fun j => (xSo X (upN (xSt X) (xRc X + 1) (xTc X) (xRc X + 1) + j), xVa X (upN (xSt X) (xRc X + 1) (xTc X) (xRc X + 1) + j))) = _
  rw [show upN (xLe X) (xRc X + 1) 0 (xRc X + 1) = 0 from upN_at]
  rfl
theorem xnn_eq {X : jX} {y : Int64} : xSo (xnn X y).2 = xSo X ∧ xVa (xnn X y).2 = xVa X ∧ xTc (xnn X y).2 = xTc X ∧ xKi (xnn X y).2 = xKi X ∧ xBl (xnn X y).2 = xBl X ∧ xSt (xnn X y).2 = xSt X ∧ xLe (xnn X y).2 = xLe X ∧ xTa (xnn X y).2 = xTa X ∧ xRc (xnn X y).2 = xRc X := by
  unfold xnn
  generalize xnf X y (xNc X) 0 = z
  cases z with
  | some j => exact ⟨rfl, rfl, rfl, rfl, rfl, rfl, rfl, rfl, rfl⟩
  | none =>
    by_cases c : xNc X < 1000
    · simp only [if_pos c]
      exact ⟨rfl, rfl, rfl, rfl, rfl, rfl, rfl, rfl, rfl⟩
    · simp only [if_neg c, and_self]
theorem nxX_eq {q : jS} {X : jX} : xTc (nxX q X) = xTc X ∧ xKi (nxX q X) = xKi X ∧ xBl (nxX q X) = xBl X ∧ xTa (nxX q X) = xTa X ∧ xRc (nxX q X) = xRc X ∧ ∀ r : Nat, tks (nxX q X) r = tks X r := by
  unfold nxX
  split
  · obtain ⟨e1, e2, e3, e4, e5, e6, e7, e8, e9⟩ := xnn_eq (X := X) (y := q.2.2.2.2)
    refine ⟨e3, e4, e5, e8, e9, fun r => ?_⟩
    unfold tks
    rw [e1, e2, e6, e7]
  · exact ⟨rfl, rfl, rfl, rfl, rfl, fun _ => rfl⟩
theorem nxX_st {q : jS} {X : jX} : xSt (nxX q X) = xSt X := by
  unfold nxX
  split
  · exact (xnn_eq (X := X) (y := q.2.2.2.2)).2.2.2.2.2.1
  · rfl
/-- a token's octets -/
def tkt (wn : Nat → Int64) (X : jX) (t : Int32 × Int32) : List Int32 := if t.1 = Int32.ofNat 1 then noR (wname wn t.2) else if t.1 = Int32.ofNat 2 then noR (xnameR X t.2) else if t.1 = Int32.ofNat 3 then numO t.2 else [t.2]
def jt (wn : Nat → Int64) (X : jX) : List (Int32 × Int32) → List Int32
  | [] => []
  | t :: L => Int32.ofNat 32 :: (tkt wn X t ++ jt wn X L)
def jjn (wn : Nat → Int64) (X : jX) : List (Int32 × Int32) → List Int32
  | [] => []
  | t :: L => tkt wn X t ++ jt wn X L
theorem jt_snoc {wn : Nat → Int64} {X : jX} {t : Int32 × Int32} : ∀ L : List (Int32 × Int32), jt wn X (L ++ [t]) = jt wn X L ++ Int32.ofNat 32 :: tkt wn X t
  | [] => by
    show Int32.ofNat 32 :: (tkt wn X t ++ []) = Int32.ofNat 32 :: tkt wn X t
    rw [List.append_nil]
  | u :: L => by
    show Int32.ofNat 32 :: (tkt wn X u ++ jt wn X (L ++ [t])) = Int32.ofNat 32 :: (tkt wn X u ++ jt wn X L) ++ Int32.ofNat 32 :: tkt wn X t
    rw [jt_snoc L, List.cons_append, List.append_assoc]
theorem jjn_snoc {wn : Nat → Int64} {X : jX} {t : Int32 × Int32} {L : List (Int32 × Int32)} (h : L ≠ []) : jjn wn X (L ++ [t]) = jjn wn X L ++ Int32.ofNat 32 :: tkt wn X t := by
  cases L with
  | nil => exact absurd rfl h
  | cons u L =>
    show tkt wn X u ++ jt wn X (L ++ [t]) = tkt wn X u ++ jt wn X L ++ Int32.ofNat 32 :: tkt wn X t
    rw [jt_snoc L, List.append_assoc]
theorem jjn_one {wn : Nat → Int64} {X : jX} {t : Int32 × Int32} : jjn wn X [t] = tkt wn X t := List.append_nil _
theorem jt_congr {wn : Nat → Int64} {X X' : jX} : ∀ L : List (Int32 × Int32), (∀ t, t ∈ L → tkt wn X' t = tkt wn X t) → jt wn X' L = jt wn X L
  | [], _ => rfl
  | u :: L, h => by
    show Int32.ofNat 32 :: (tkt wn X' u ++ jt wn X' L) = Int32.ofNat 32 :: (tkt wn X u ++ jt wn X L)
    rw [h u (List.mem_cons_self ..), jt_congr L fun t ht => h t (List.mem_cons_of_mem _ ht)]
theorem jjn_congr {wn : Nat → Int64} {X X' : jX} (L : List (Int32 × Int32)) (h : ∀ t, t ∈ L → tkt wn X' t = tkt wn X t) : jjn wn X' L = jjn wn X L := by
  cases L with
  | nil => rfl
  | cons u L =>
    show tkt wn X' u ++ jt wn X' L = tkt wn X u ++ jt wn X L
    rw [h u (List.mem_cons_self ..), jt_congr L fun t ht => h t (List.mem_cons_of_mem _ ht)]
theorem tokO_tkt {wn : Nat → Int64} {X : jX} {r k : Nat} (h1 : 1 ≤ r) (h2 : r ≤ xRc X) (hk : k < (tks X r).length) : tokO wn X r k = tkt wn X ((tks X r)[k]) := by
  have e : (tks X r)[k] = (xsort X r k, xval X r k) := by
    rw [xsort_tks h1 h2, xval_tks h1 h2]
    unfold ls lv
    rw [gD_in hk]
  rw [e]
  rfl
theorem rowT_jt {wn : Nat → Int64} {X : jX} {r : Nat} (h1 : 1 ≤ r) (h2 : r ≤ xRc X) : ∀ d k : Nat, k + d = (tks X r).length → 1 ≤ k → rowT wn X r d k = jt wn X ((tks X r).drop k)
  | 0, k, hk, _ => by
    rw [List.drop_eq_nil_of_le (by omega)]
    rfl
  | d + 1, k, hk, h => by
    unfold rowT
    rw [if_neg (by omega), List.drop_eq_getElem_cons (by omega), tokO_tkt h1 h2 (by omega), rowT_jt h1 h2 d (k + 1) (by omega) (by omega)]
    rfl
theorem rowO_jjn {wn : Nat → Int64} {X : jX} {r : Nat} (h1 : 1 ≤ r) (h2 : r ≤ xRc X) : rowO wn X r = jjn wn X (tks X r) := by
  unfold rowO
  rw [xlen_tks h1 h2]
  by_cases c : (tks X r).length = 0
  · rw [c, List.length_eq_zero_iff.mp c]
    rfl
  · obtain ⟨d, hd⟩ : ∃ d, (tks X r).length = d + 1 := ⟨(tks X r).length - 1, by omega⟩
    have e := List.drop_eq_getElem_cons (l := tks X r) (i := 0) (by omega)
    rw [List.drop_zero] at e
    rw [hd]
    unfold rowT
    rw [if_pos rfl, List.nil_append, tokO_tkt h1 h2 (by omega), rowT_jt h1 h2 d (0 + 1) (by omega) (by omega)]
    conv => rhs; rw [e]
    rfl
/-- names and numbers of a row are in order -/
def tkL (N : Nat) (L : List (Int32 × Int32)) : Prop := ∀ t, t ∈ L → (t.1 = Int32.ofNat 2 → ∃ i : Nat, 1 ≤ i ∧ i ≤ N ∧ t.2 = Int32.ofNat i) ∧ (t.1 = Int32.ofNat 3 → numK t.2) ∧ (t.1 = Int32.ofNat 1 → ∃ j : Nat, j < 16 ∧ t.2 = Int32.ofNat (2 ^ j)) ∧ (t.1 = Int32.ofNat 4 → rsg t.2 = true ∧ t.2 ≠ Int32.ofNat 45) ∧ (t.1 = Int32.ofNat 1 ∨ t.1 = Int32.ofNat 2 ∨ t.1 = Int32.ofNat 3 ∨ t.1 = Int32.ofNat 4)
theorem tkL_app {N : Nat} {L M : List (Int32 × Int32)} (h1 : tkL N L) (h2 : tkL N M) : tkL N (L ++ M) := fun t ht => (List.mem_append.mp ht).elim (h1 t) (h2 t)
theorem tkL_mono {N N' : Nat} {L : List (Int32 × Int32)} (h : tkL N L) (e : N ≤ N') : tkL N' L := fun t ht => ⟨fun q => by
  obtain ⟨i, i1, i2, i3⟩ := (h t ht).1 q
  exact ⟨i, i1, by omega, i3⟩, (h t ht).2⟩
theorem xnameR_ok {X : jX} {i : Nat} (h1 : 1 ≤ i) (h2 : i ≤ xNc X) (h3 : xNc X ≤ 1000) : xnameR X (Int32.ofNat i) = xNa X (i - 1) := by
  unfold xnameR xname
  rw [if_neg (by rw [i_lt (by omega) (by decide)]; omega), i_cl (by omega), if_neg (by omega)]
def nmx (X X' : jX) : Prop := xNc X ≤ xNc X' ∧ ∀ i : Nat, i < xNc X → xNa X' i = xNa X i
theorem tkt_ext {wn : Nat → Int64} {X X' : jX} {L : List (Int32 × Int32)} (h : nmx X X') (h2 : xNc X' ≤ 1000) (hL : tkL (xNc X) L) : ∀ t, t ∈ L → tkt wn X' t = tkt wn X t := by
  intro t ht
  unfold tkt
  by_cases c1 : t.1 = Int32.ofNat 1
  · rw [if_pos c1, if_pos c1]
  rw [if_neg c1, if_neg c1]
  by_cases c2 : t.1 = Int32.ofNat 2
  · obtain ⟨i, i1, i2, i3⟩ := (hL t ht).1 c2
    have := h.1
    rw [if_pos c2, if_pos c2, i3, xnameR_ok i1 (by omega) h2, xnameR_ok i1 i2 (by omega), h.2 (i - 1) (by omega)]
  · rw [if_neg c2, if_neg c2]
theorem nmx_nx {q : jS} {X : jX} (h : q.2.2.1 = Int32.ofNat 2 → xNc X < 1000) : nmx X (nxX q X) ∧ xNc (nxX q X) ≤ xNc X + 1 := by
  unfold nxX
  split
  · rename_i c
    have e := xnn_name (X := X) (y := q.2.2.2.2) (h c)
    exact ⟨⟨e.2.2.2.1, e.2.2.2.2.2⟩, e.2.2.2.2.1⟩
  · exact ⟨⟨Nat.le_refl _, fun _ _ => rfl⟩, Nat.le_succ _⟩
/-- octets in a row of an array -/
def sl (g : Nat → Int32) (p : Nat) (l : List Int32) : Prop := ∀ i : Nat, i < l.length → g (p + i) = l.getD i 0
theorem wps_lo {l : List Int32} : ∀ {q : (Nat → Int32) × Nat} {i : Nat}, i < q.2 → (wps q l).1 i = q.1 i := by
  induction l with
  | nil => intro q i _; rfl
  | cons x l ih =>
    intro q i hi
    show (wps (wp q x) l).1 i = q.1 i
    rw [ih (show i < q.2 + 1 by omega)]
    exact upd_of (by omega)
theorem wps_hi {l : List Int32} : ∀ {q : (Nat → Int32) × Nat}, sl (wps q l).1 q.2 l := by
  induction l with
  | nil => intro q i hi; exact absurd hi (Nat.not_lt_zero _)
  | cons x l ih =>
    intro q i hi
    show (wps (wp q x) l).1 (q.2 + i) = (x :: l).getD i 0
    cases i with
    | zero =>
      rw [wps_lo (show q.2 + 0 < q.2 + 1 by omega)]
      exact upd_at
    | succ i =>
      have := ih (q := wp q x) i (Nat.lt_of_succ_lt_succ hi)
      have e : q.2 + (i + 1) = (wp q x).2 + i := by show q.2 + (i + 1) = q.2 + 1 + i; omega
      rw [e, this]
      rfl
theorem sl_lo {g : Nat → Int32} {w p : Nat} {l t : List Int32} (h : sl g p l) (hp : p + l.length ≤ w) : sl (wps (g, w) t).1 p l := by
  intro i hi
  rw [wps_lo (show p + i < w by omega)]
  exact h i hi
theorem sl_app {g : Nat → Int32} {p : Nat} {l m : List Int32} (h1 : sl g p l) (h2 : sl g (p + l.length) m) : sl g p (l ++ m) := by
  intro i hi
  rw [List.length_append] at hi
  by_cases c : i < l.length
  · rw [h1 i c, gD_app c]
  · have := h2 (i - l.length) (by omega)
    rw [show p + l.length + (i - l.length) = p + i by omega] at this
    rw [this, gD_app_r (by omega)]
