/-! THE CLASS WHILE IT READS: scanner, reader, the edition that is filled -/
abbrev jS : Type := Nat × Nat × Int32 × Int32 × Int64
abbrev jR : Type := Nat × Nat × Nat × Nat × Bool
def scl (t w : Nat) (c : jS) : jx_C := .inl (3, [.ref t, .ref w, .int (Int32.ofNat c.1), .int (Int32.ofNat c.2.1), .int c.2.2.1, .int c.2.2.2.1, .long c.2.2.2.2])
def rdc (s : Nat) (d : jR) : jx_C := .inl (4, [.ref s, .int (Int32.ofNat d.1), .ref d.2.1, .int (Int32.ofNat d.2.2.1), .int (Int32.ofNat d.2.2.2.1), .int (jbi d.2.2.2.2)])
def xcl (a : Nat) (X : jX) : Nat → jx_C
  | 0 => xcell a X
  | 1 => .inr (2, 2000, .inl (xSo X))
  | 2 => .inr (0, 2000, .inl (xVa X))
  | 3 => .inr (1, 1000, .inr (.inl (xNa X)))
  | 4 => .inr (0, 121, .inl (xKi X))
  | 5 => .inr (0, 121, .inl (fun i => Int32.ofNat (xBl X i)))
  | 6 => .inr (0, 121, .inl (fun i => Int32.ofNat (xSt X i)))
  | 7 => .inr (0, 121, .inl (fun i => Int32.ofNat (xLe X i)))
  | _ => .inr (0, 121, .inl (fun i => Int32.ofNat (xTa X i)))
def xsSo (X : jX) (v : Nat → Int32) : jX := (v, xVa X, xTc X, xNa X, xNc X, xKi X, xBl X, xSt X, xLe X, xTa X, xRc X)
def xsVa (X : jX) (v : Nat → Int32) : jX := (xSo X, v, xTc X, xNa X, xNc X, xKi X, xBl X, xSt X, xLe X, xTa X, xRc X)
def xsTc (X : jX) (v : Nat) : jX := (xSo X, xVa X, v, xNa X, xNc X, xKi X, xBl X, xSt X, xLe X, xTa X, xRc X)
def xsNa (X : jX) (v : Nat → Int64) : jX := (xSo X, xVa X, xTc X, v, xNc X, xKi X, xBl X, xSt X, xLe X, xTa X, xRc X)
def xsNc (X : jX) (v : Nat) : jX := (xSo X, xVa X, xTc X, xNa X, v, xKi X, xBl X, xSt X, xLe X, xTa X, xRc X)
def xsKi (X : jX) (v : Nat → Int32) : jX := (xSo X, xVa X, xTc X, xNa X, xNc X, v, xBl X, xSt X, xLe X, xTa X, xRc X)
def xsBl (X : jX) (v : Nat → Nat) : jX := (xSo X, xVa X, xTc X, xNa X, xNc X, xKi X, v, xSt X, xLe X, xTa X, xRc X)
def xsSt (X : jX) (v : Nat → Nat) : jX := (xSo X, xVa X, xTc X, xNa X, xNc X, xKi X, xBl X, v, xLe X, xTa X, xRc X)
def xsLe (X : jX) (v : Nat → Nat) : jX := (xSo X, xVa X, xTc X, xNa X, xNc X, xKi X, xBl X, xSt X, v, xTa X, xRc X)
def xsTa (X : jX) (v : Nat → Nat) : jX := (xSo X, xVa X, xTc X, xNa X, xNc X, xKi X, xBl X, xSt X, xLe X, v, xRc X)
def xsRc (X : jX) (v : Nat) : jX := (xSo X, xVa X, xTc X, xNa X, xNc X, xKi X, xBl X, xSt X, xLe X, xTa X, v)
theorem xs_So_So {X : jX} {v : Nat → Int32} : xSo (xsSo X v) = v := rfl
theorem xs_So_Va {X : jX} {v : Nat → Int32} : xVa (xsSo X v) = xVa X := rfl
theorem xs_So_Tc {X : jX} {v : Nat → Int32} : xTc (xsSo X v) = xTc X := rfl
theorem xs_So_Na {X : jX} {v : Nat → Int32} : xNa (xsSo X v) = xNa X := rfl
theorem xs_So_Nc {X : jX} {v : Nat → Int32} : xNc (xsSo X v) = xNc X := rfl
theorem xs_So_Ki {X : jX} {v : Nat → Int32} : xKi (xsSo X v) = xKi X := rfl
theorem xs_So_Bl {X : jX} {v : Nat → Int32} : xBl (xsSo X v) = xBl X := rfl
theorem xs_So_St {X : jX} {v : Nat → Int32} : xSt (xsSo X v) = xSt X := rfl
theorem xs_So_Le {X : jX} {v : Nat → Int32} : xLe (xsSo X v) = xLe X := rfl
theorem xs_So_Ta {X : jX} {v : Nat → Int32} : xTa (xsSo X v) = xTa X := rfl
theorem xs_So_Rc {X : jX} {v : Nat → Int32} : xRc (xsSo X v) = xRc X := rfl
theorem xs_Va_So {X : jX} {v : Nat → Int32} : xSo (xsVa X v) = xSo X := rfl
theorem xs_Va_Va {X : jX} {v : Nat → Int32} : xVa (xsVa X v) = v := rfl
theorem xs_Va_Tc {X : jX} {v : Nat → Int32} : xTc (xsVa X v) = xTc X := rfl
theorem xs_Va_Na {X : jX} {v : Nat → Int32} : xNa (xsVa X v) = xNa X := rfl
theorem xs_Va_Nc {X : jX} {v : Nat → Int32} : xNc (xsVa X v) = xNc X := rfl
theorem xs_Va_Ki {X : jX} {v : Nat → Int32} : xKi (xsVa X v) = xKi X := rfl
theorem xs_Va_Bl {X : jX} {v : Nat → Int32} : xBl (xsVa X v) = xBl X := rfl
theorem xs_Va_St {X : jX} {v : Nat → Int32} : xSt (xsVa X v) = xSt X := rfl
theorem xs_Va_Le {X : jX} {v : Nat → Int32} : xLe (xsVa X v) = xLe X := rfl
theorem xs_Va_Ta {X : jX} {v : Nat → Int32} : xTa (xsVa X v) = xTa X := rfl
theorem xs_Va_Rc {X : jX} {v : Nat → Int32} : xRc (xsVa X v) = xRc X := rfl
theorem xs_Tc_So {X : jX} {v : Nat} : xSo (xsTc X v) = xSo X := rfl
theorem xs_Tc_Va {X : jX} {v : Nat} : xVa (xsTc X v) = xVa X := rfl
theorem xs_Tc_Tc {X : jX} {v : Nat} : xTc (xsTc X v) = v := rfl
theorem xs_Tc_Na {X : jX} {v : Nat} : xNa (xsTc X v) = xNa X := rfl
theorem xs_Tc_Nc {X : jX} {v : Nat} : xNc (xsTc X v) = xNc X := rfl
theorem xs_Tc_Ki {X : jX} {v : Nat} : xKi (xsTc X v) = xKi X := rfl
theorem xs_Tc_Bl {X : jX} {v : Nat} : xBl (xsTc X v) = xBl X := rfl
theorem xs_Tc_St {X : jX} {v : Nat} : xSt (xsTc X v) = xSt X := rfl
theorem xs_Tc_Le {X : jX} {v : Nat} : xLe (xsTc X v) = xLe X := rfl
theorem xs_Tc_Ta {X : jX} {v : Nat} : xTa (xsTc X v) = xTa X := rfl
theorem xs_Tc_Rc {X : jX} {v : Nat} : xRc (xsTc X v) = xRc X := rfl
theorem xs_Na_So {X : jX} {v : Nat → Int64} : xSo (xsNa X v) = xSo X := rfl
theorem xs_Na_Va {X : jX} {v : Nat → Int64} : xVa (xsNa X v) = xVa X := rfl
theorem xs_Na_Tc {X : jX} {v : Nat → Int64} : xTc (xsNa X v) = xTc X := rfl
theorem xs_Na_Na {X : jX} {v : Nat → Int64} : xNa (xsNa X v) = v := rfl
theorem xs_Na_Nc {X : jX} {v : Nat → Int64} : xNc (xsNa X v) = xNc X := rfl
theorem xs_Na_Ki {X : jX} {v : Nat → Int64} : xKi (xsNa X v) = xKi X := rfl
theorem xs_Na_Bl {X : jX} {v : Nat → Int64} : xBl (xsNa X v) = xBl X := rfl
theorem xs_Na_St {X : jX} {v : Nat → Int64} : xSt (xsNa X v) = xSt X := rfl
theorem xs_Na_Le {X : jX} {v : Nat → Int64} : xLe (xsNa X v) = xLe X := rfl
theorem xs_Na_Ta {X : jX} {v : Nat → Int64} : xTa (xsNa X v) = xTa X := rfl
theorem xs_Na_Rc {X : jX} {v : Nat → Int64} : xRc (xsNa X v) = xRc X := rfl
theorem xs_Nc_So {X : jX} {v : Nat} : xSo (xsNc X v) = xSo X := rfl
theorem xs_Nc_Va {X : jX} {v : Nat} : xVa (xsNc X v) = xVa X := rfl
theorem xs_Nc_Tc {X : jX} {v : Nat} : xTc (xsNc X v) = xTc X := rfl
theorem xs_Nc_Na {X : jX} {v : Nat} : xNa (xsNc X v) = xNa X := rfl
theorem xs_Nc_Nc {X : jX} {v : Nat} : xNc (xsNc X v) = v := rfl
theorem xs_Nc_Ki {X : jX} {v : Nat} : xKi (xsNc X v) = xKi X := rfl
theorem xs_Nc_Bl {X : jX} {v : Nat} : xBl (xsNc X v) = xBl X := rfl
theorem xs_Nc_St {X : jX} {v : Nat} : xSt (xsNc X v) = xSt X := rfl
theorem xs_Nc_Le {X : jX} {v : Nat} : xLe (xsNc X v) = xLe X := rfl
theorem xs_Nc_Ta {X : jX} {v : Nat} : xTa (xsNc X v) = xTa X := rfl
theorem xs_Nc_Rc {X : jX} {v : Nat} : xRc (xsNc X v) = xRc X := rfl
theorem xs_Ki_So {X : jX} {v : Nat → Int32} : xSo (xsKi X v) = xSo X := rfl
theorem xs_Ki_Va {X : jX} {v : Nat → Int32} : xVa (xsKi X v) = xVa X := rfl
theorem xs_Ki_Tc {X : jX} {v : Nat → Int32} : xTc (xsKi X v) = xTc X := rfl
theorem xs_Ki_Na {X : jX} {v : Nat → Int32} : xNa (xsKi X v) = xNa X := rfl
theorem xs_Ki_Nc {X : jX} {v : Nat → Int32} : xNc (xsKi X v) = xNc X := rfl
theorem xs_Ki_Ki {X : jX} {v : Nat → Int32} : xKi (xsKi X v) = v := rfl
theorem xs_Ki_Bl {X : jX} {v : Nat → Int32} : xBl (xsKi X v) = xBl X := rfl
theorem xs_Ki_St {X : jX} {v : Nat → Int32} : xSt (xsKi X v) = xSt X := rfl
theorem xs_Ki_Le {X : jX} {v : Nat → Int32} : xLe (xsKi X v) = xLe X := rfl
theorem xs_Ki_Ta {X : jX} {v : Nat → Int32} : xTa (xsKi X v) = xTa X := rfl
theorem xs_Ki_Rc {X : jX} {v : Nat → Int32} : xRc (xsKi X v) = xRc X := rfl
theorem xs_Bl_So {X : jX} {v : Nat → Nat} : xSo (xsBl X v) = xSo X := rfl
theorem xs_Bl_Va {X : jX} {v : Nat → Nat} : xVa (xsBl X v) = xVa X := rfl
theorem xs_Bl_Tc {X : jX} {v : Nat → Nat} : xTc (xsBl X v) = xTc X := rfl
theorem xs_Bl_Na {X : jX} {v : Nat → Nat} : xNa (xsBl X v) = xNa X := rfl
theorem xs_Bl_Nc {X : jX} {v : Nat → Nat} : xNc (xsBl X v) = xNc X := rfl
theorem xs_Bl_Ki {X : jX} {v : Nat → Nat} : xKi (xsBl X v) = xKi X := rfl
theorem xs_Bl_Bl {X : jX} {v : Nat → Nat} : xBl (xsBl X v) = v := rfl
theorem xs_Bl_St {X : jX} {v : Nat → Nat} : xSt (xsBl X v) = xSt X := rfl
theorem xs_Bl_Le {X : jX} {v : Nat → Nat} : xLe (xsBl X v) = xLe X := rfl
theorem xs_Bl_Ta {X : jX} {v : Nat → Nat} : xTa (xsBl X v) = xTa X := rfl
theorem xs_Bl_Rc {X : jX} {v : Nat → Nat} : xRc (xsBl X v) = xRc X := rfl
theorem xs_St_So {X : jX} {v : Nat → Nat} : xSo (xsSt X v) = xSo X := rfl
theorem xs_St_Va {X : jX} {v : Nat → Nat} : xVa (xsSt X v) = xVa X := rfl
theorem xs_St_Tc {X : jX} {v : Nat → Nat} : xTc (xsSt X v) = xTc X := rfl
theorem xs_St_Na {X : jX} {v : Nat → Nat} : xNa (xsSt X v) = xNa X := rfl
theorem xs_St_Nc {X : jX} {v : Nat → Nat} : xNc (xsSt X v) = xNc X := rfl
theorem xs_St_Ki {X : jX} {v : Nat → Nat} : xKi (xsSt X v) = xKi X := rfl
theorem xs_St_Bl {X : jX} {v : Nat → Nat} : xBl (xsSt X v) = xBl X := rfl
theorem xs_St_St {X : jX} {v : Nat → Nat} : xSt (xsSt X v) = v := rfl
theorem xs_St_Le {X : jX} {v : Nat → Nat} : xLe (xsSt X v) = xLe X := rfl
theorem xs_St_Ta {X : jX} {v : Nat → Nat} : xTa (xsSt X v) = xTa X := rfl
theorem xs_St_Rc {X : jX} {v : Nat → Nat} : xRc (xsSt X v) = xRc X := rfl
theorem xs_Le_So {X : jX} {v : Nat → Nat} : xSo (xsLe X v) = xSo X := rfl
theorem xs_Le_Va {X : jX} {v : Nat → Nat} : xVa (xsLe X v) = xVa X := rfl
theorem xs_Le_Tc {X : jX} {v : Nat → Nat} : xTc (xsLe X v) = xTc X := rfl
theorem xs_Le_Na {X : jX} {v : Nat → Nat} : xNa (xsLe X v) = xNa X := rfl
theorem xs_Le_Nc {X : jX} {v : Nat → Nat} : xNc (xsLe X v) = xNc X := rfl
theorem xs_Le_Ki {X : jX} {v : Nat → Nat} : xKi (xsLe X v) = xKi X := rfl
theorem xs_Le_Bl {X : jX} {v : Nat → Nat} : xBl (xsLe X v) = xBl X := rfl
theorem xs_Le_St {X : jX} {v : Nat → Nat} : xSt (xsLe X v) = xSt X := rfl
theorem xs_Le_Le {X : jX} {v : Nat → Nat} : xLe (xsLe X v) = v := rfl
theorem xs_Le_Ta {X : jX} {v : Nat → Nat} : xTa (xsLe X v) = xTa X := rfl
theorem xs_Le_Rc {X : jX} {v : Nat → Nat} : xRc (xsLe X v) = xRc X := rfl
theorem xs_Ta_So {X : jX} {v : Nat → Nat} : xSo (xsTa X v) = xSo X := rfl
theorem xs_Ta_Va {X : jX} {v : Nat → Nat} : xVa (xsTa X v) = xVa X := rfl
theorem xs_Ta_Tc {X : jX} {v : Nat → Nat} : xTc (xsTa X v) = xTc X := rfl
theorem xs_Ta_Na {X : jX} {v : Nat → Nat} : xNa (xsTa X v) = xNa X := rfl
theorem xs_Ta_Nc {X : jX} {v : Nat → Nat} : xNc (xsTa X v) = xNc X := rfl
theorem xs_Ta_Ki {X : jX} {v : Nat → Nat} : xKi (xsTa X v) = xKi X := rfl
theorem xs_Ta_Bl {X : jX} {v : Nat → Nat} : xBl (xsTa X v) = xBl X := rfl
theorem xs_Ta_St {X : jX} {v : Nat → Nat} : xSt (xsTa X v) = xSt X := rfl
theorem xs_Ta_Le {X : jX} {v : Nat → Nat} : xLe (xsTa X v) = xLe X := rfl
theorem xs_Ta_Ta {X : jX} {v : Nat → Nat} : xTa (xsTa X v) = v := rfl
theorem xs_Ta_Rc {X : jX} {v : Nat → Nat} : xRc (xsTa X v) = xRc X := rfl
theorem xs_Rc_So {X : jX} {v : Nat} : xSo (xsRc X v) = xSo X := rfl
theorem xs_Rc_Va {X : jX} {v : Nat} : xVa (xsRc X v) = xVa X := rfl
theorem xs_Rc_Tc {X : jX} {v : Nat} : xTc (xsRc X v) = xTc X := rfl
theorem xs_Rc_Na {X : jX} {v : Nat} : xNa (xsRc X v) = xNa X := rfl
theorem xs_Rc_Nc {X : jX} {v : Nat} : xNc (xsRc X v) = xNc X := rfl
theorem xs_Rc_Ki {X : jX} {v : Nat} : xKi (xsRc X v) = xKi X := rfl
theorem xs_Rc_Bl {X : jX} {v : Nat} : xBl (xsRc X v) = xBl X := rfl
theorem xs_Rc_St {X : jX} {v : Nat} : xSt (xsRc X v) = xSt X := rfl
theorem xs_Rc_Le {X : jX} {v : Nat} : xLe (xsRc X v) = xLe X := rfl
theorem xs_Rc_Ta {X : jX} {v : Nat} : xTa (xsRc X v) = xTa X := rfl
theorem xs_Rc_Rc {X : jX} {v : Nat} : xRc (xsRc X v) = v := rfl
def upN (f : Nat → Nat) (k v : Nat) : Nat → Nat := fun j => if j = k then v else f j
def upL (f : Nat → Int64) (k : Nat) (v : Int64) : Nat → Int64 := fun j => if j = k then v else f j
theorem upN_o {f : Nat → Nat} {k v : Nat} : upd (fun i => Int32.ofNat (f i)) k (Int32.ofNat v) = fun i => Int32.ofNat (upN f k v i) := by
  funext j
  unfold upd upN
  by_cases e : j = k
  · rw [if_pos e, if_pos e]
  · rw [if_neg e, if_neg e]
def hF (h : jx_H) (r t w a : Nat) (c : jS) (d : jR) (X : jX) : jx_H := (h.1, h.2.1, fun q => if q = r + 1 then some (scl t w c) else if q = r then some (rdc (r + 1) d) else if a ≤ q ∧ q < a + 9 then some (xcl a X (q - a)) else h.2.2 q)
section JHF
variable {h : jx_H} {r t w a i k q n v : Nat} {c c' : jS} {d d' : jR} {X X' : jX} {x : Int32} {y : Int64} {av : List Value} {m : Bool}
theorem hF_s : (hF h r t w a c d X).2.2 (r + 1) = some (scl t w c) := if_pos rfl
theorem hF_r : (hF h r t w a c d X).2.2 r = some (rdc (r + 1) d) := by
  show (if r = r + 1 then _ else if r = r then _ else _) = _
  rw [if_neg (by omega), if_pos rfl]
theorem hF_k (h1 : r + 1 < a) (h2 : k < 9) : (hF h r t w a c d X).2.2 (a + k) = some (xcl a X k) := by
  show (if a + k = r + 1 then _ else if a + k = r then _ else if a ≤ a + k ∧ a + k < a + 9 then some (xcl a X (a + k - a)) else _) = _
  rw [if_neg (by omega), if_neg (by omega), if_pos (by omega), Nat.add_sub_cancel_left]
theorem hF_ne (h0 : r + 1 < a) (h1 : q < r ∨ r + 1 < q ∧ q < a ∨ a + 8 < q) : (hF h r t w a c d X).2.2 q = h.2.2 q := by
  show (if q = r + 1 then _ else if q = r then _ else if a ≤ q ∧ q < a + 9 then _ else h.2.2 q) = _
  rw [if_neg (by omega), if_neg (by omega)]
  by_cases e : a ≤ q ∧ q < a + 9
  · omega
  · rw [if_neg e]
theorem hF_hs : hs (hF h r t w a c d X) (r + 1) (scl t w c') = hF h r t w a c' d X := by
  unfold hs hF
  congr 2
  funext q
  show (if q = r + 1 then _ else if q = r + 1 then _ else _) = (if q = r + 1 then _ else _)
  by_cases e : q = r + 1
  · rw [if_pos e, if_pos e]
  · rw [if_neg e, if_neg e, if_neg e]
theorem hF_hr : hs (hF h r t w a c d X) r (rdc (r + 1) d') = hF h r t w a c d' X := by
  unfold hs hF
  congr 2
  funext q
  show (if q = r then _ else if q = r + 1 then _ else if q = r then _ else _) = (if q = r + 1 then _ else if q = r then _ else _)
  by_cases e : q = r
  · rw [if_pos e, if_neg (by omega), if_pos e]
  · rw [if_neg e, if_neg e, if_neg e]
theorem hF_hx (h1 : r + 1 < a) (h2 : k < 9) (e : ∀ j, j < 9 → j ≠ k → xcl a X' j = xcl a X j) : hs (hF h r t w a c d X) (a + k) (xcl a X' k) = hF h r t w a c d X' := by
  unfold hs hF
  congr 2
  funext q
  show (if q = a + k then _ else if q = r + 1 then _ else if q = r then _ else if a ≤ q ∧ q < a + 9 then some (xcl a X (q - a)) else h.2.2 q) = (if q = r + 1 then _ else if q = r then _ else if a ≤ q ∧ q < a + 9 then some (xcl a X' (q - a)) else h.2.2 q)
  by_cases e1 : q = a + k
  · rw [if_pos e1, if_neg (by omega), if_neg (by omega), if_pos (by omega), show q - a = k by omega]
  · rw [if_neg e1]
    by_cases e2 : q = r + 1
    · rw [if_pos e2, if_pos e2]
    · rw [if_neg e2, if_neg e2]
      by_cases e3 : q = r
      · rw [if_pos e3, if_pos e3]
      · rw [if_neg e3, if_neg e3]
        by_cases e4 : a ≤ q ∧ q < a + 9
        · rw [if_pos e4, if_pos e4, e (q - a) (by omega) (by omega)]
        · rw [if_neg e4, if_neg e4]
theorem hF_ed (h1 : r + 1 < a) : jEd (hF h r t w a c d X) a X := ⟨hF_k (k := 0) h1 (by decide), hF_k (k := 1) h1 (by decide), hF_k (k := 2) h1 (by decide), hF_k (k := 3) h1 (by decide), hF_k (k := 4) h1 (by decide), hF_k (k := 5) h1 (by decide), hF_k (k := 6) h1 (by decide), hF_k (k := 7) h1 (by decide), hF_k (k := 8) h1 (by decide)⟩
theorem fs_rv : jx_recv (hF h r t w a c d X) (.ref (r + 1) :: av) (some 3) = true := c_rv hF_s
theorem fr_rv : jx_recv (hF h r t w a c d X) (.ref r :: av) (some 4) = true := c_rv hF_r
theorem fs_t : jx_fA (hF h r t w a c d X) (r + 1) 3 0 = some t := c_fA hF_s rfl
theorem fs_t_b  {β_ : Type} {f_ : Nat → Option β_} : (jx_fA (hF h r t w a c d X) (r + 1) 3 0).bind f_ = f_ (t) := bnd (fs_t )
theorem fs_w : jx_fA (hF h r t w a c d X) (r + 1) 3 1 = some w := c_fA hF_s rfl
theorem fs_w_b  {β_ : Type} {f_ : Nat → Option β_} : (jx_fA (hF h r t w a c d X) (r + 1) 3 1).bind f_ = f_ (w) := bnd (fs_w )
theorem fs_place : jx_fI (hF h r t w a c d X) (r + 1) 3 2 = some (Int32.ofNat c.1) := c_fI hF_s rfl
theorem fs_place_b  {β_ : Type} {f_ : Int32 → Option β_} : (jx_fI (hF h r t w a c d X) (r + 1) 3 2).bind f_ = f_ ((Int32.ofNat c.1)) := bnd (fs_place )
theorem fs_line : jx_fI (hF h r t w a c d X) (r + 1) 3 3 = some (Int32.ofNat c.2.1) := c_fI hF_s rfl
theorem fs_line_b  {β_ : Type} {f_ : Int32 → Option β_} : (jx_fI (hF h r t w a c d X) (r + 1) 3 3).bind f_ = f_ ((Int32.ofNat c.2.1)) := bnd (fs_line )
theorem fs_sort : jx_fI (hF h r t w a c d X) (r + 1) 3 4 = some c.2.2.1 := c_fI hF_s rfl
theorem fs_sort_b  {β_ : Type} {f_ : Int32 → Option β_} : (jx_fI (hF h r t w a c d X) (r + 1) 3 4).bind f_ = f_ (c.2.2.1) := bnd (fs_sort )
theorem fs_value : jx_fI (hF h r t w a c d X) (r + 1) 3 5 = some c.2.2.2.1 := c_fI hF_s rfl
theorem fs_value_b  {β_ : Type} {f_ : Int32 → Option β_} : (jx_fI (hF h r t w a c d X) (r + 1) 3 5).bind f_ = f_ (c.2.2.2.1) := bnd (fs_value )
theorem fs_name : jx_fJ (hF h r t w a c d X) (r + 1) 3 6 = some c.2.2.2.2 := c_fJ hF_s rfl
theorem fs_name_b  {β_ : Type} {f_ : Int64 → Option β_} : (jx_fJ (hF h r t w a c d X) (r + 1) 3 6).bind f_ = f_ (c.2.2.2.2) := bnd (fs_name )
theorem fr_s : jx_fA (hF h r t w a c d X) r 4 0 = some (r + 1) := c_fA hF_r rfl
theorem fr_s_b  {β_ : Type} {f_ : Nat → Option β_} : (jx_fA (hF h r t w a c d X) r 4 0).bind f_ = f_ ((r + 1)) := bnd (fr_s )
theorem fr_block : jx_fI (hF h r t w a c d X) r 4 1 = some (Int32.ofNat d.1) := c_fI hF_r rfl
theorem fr_block_b  {β_ : Type} {f_ : Int32 → Option β_} : (jx_fI (hF h r t w a c d X) r 4 1).bind f_ = f_ ((Int32.ofNat d.1)) := bnd (fr_block )
theorem fr_form : jx_fA (hF h r t w a c d X) r 4 2 = some d.2.1 := c_fA hF_r rfl
theorem fr_form_b  {β_ : Type} {f_ : Nat → Option β_} : (jx_fA (hF h r t w a c d X) r 4 2).bind f_ = f_ (d.2.1) := bnd (fr_form )
theorem fr_step : jx_fI (hF h r t w a c d X) r 4 3 = some (Int32.ofNat d.2.2.1) := c_fI hF_r rfl
theorem fr_step_b  {β_ : Type} {f_ : Int32 → Option β_} : (jx_fI (hF h r t w a c d X) r 4 3).bind f_ = f_ ((Int32.ofNat d.2.2.1)) := bnd (fr_step )
theorem fr_acc : jx_fI (hF h r t w a c d X) r 4 4 = some (Int32.ofNat d.2.2.2.1) := c_fI hF_r rfl
theorem fr_acc_b  {β_ : Type} {f_ : Int32 → Option β_} : (jx_fI (hF h r t w a c d X) r 4 4).bind f_ = f_ ((Int32.ofNat d.2.2.2.1)) := bnd (fr_acc )
theorem fr_minus : jx_fI (hF h r t w a c d X) r 4 5 = some (jbi d.2.2.2.2) := c_fI hF_r rfl
theorem fr_minus_b  {β_ : Type} {f_ : Int32 → Option β_} : (jx_fI (hF h r t w a c d X) r 4 5).bind f_ = f_ ((jbi d.2.2.2.2)) := bnd (fr_minus )
theorem ps_place : jx_put (hF h r t w a c d X) (r + 1) 3 2 (.int (Int32.ofNat n)) = some (hF h r t w a (n, c.2.1, c.2.2.1, c.2.2.2.1, c.2.2.2.2) d X) := (c_put hF_s (Nat.le_of_ble_eq_true rfl)).trans (congrArg some (hF_hs (c' := (n, c.2.1, c.2.2.1, c.2.2.2.1, c.2.2.2.2))))
theorem ps_place_b  {β_ : Type} {f_ : jx_H → Option β_} : (jx_put (hF h r t w a c d X) (r + 1) 3 2 (.int (Int32.ofNat n))).bind f_ = f_ ((hF h r t w a (n, c.2.1, c.2.2.1, c.2.2.2.1, c.2.2.2.2) d X)) := bnd (ps_place )
theorem ps_line : jx_put (hF h r t w a c d X) (r + 1) 3 3 (.int (Int32.ofNat n)) = some (hF h r t w a (c.1, n, c.2.2.1, c.2.2.2.1, c.2.2.2.2) d X) := (c_put hF_s (Nat.le_of_ble_eq_true rfl)).trans (congrArg some (hF_hs (c' := (c.1, n, c.2.2.1, c.2.2.2.1, c.2.2.2.2))))
theorem ps_line_b  {β_ : Type} {f_ : jx_H → Option β_} : (jx_put (hF h r t w a c d X) (r + 1) 3 3 (.int (Int32.ofNat n))).bind f_ = f_ ((hF h r t w a (c.1, n, c.2.2.1, c.2.2.2.1, c.2.2.2.2) d X)) := bnd (ps_line )
theorem ps_sort : jx_put (hF h r t w a c d X) (r + 1) 3 4 (.int x) = some (hF h r t w a (c.1, c.2.1, x, c.2.2.2.1, c.2.2.2.2) d X) := (c_put hF_s (Nat.le_of_ble_eq_true rfl)).trans (congrArg some (hF_hs (c' := (c.1, c.2.1, x, c.2.2.2.1, c.2.2.2.2))))
theorem ps_sort_b  {β_ : Type} {f_ : jx_H → Option β_} : (jx_put (hF h r t w a c d X) (r + 1) 3 4 (.int x)).bind f_ = f_ ((hF h r t w a (c.1, c.2.1, x, c.2.2.2.1, c.2.2.2.2) d X)) := bnd (ps_sort )
theorem ps_value : jx_put (hF h r t w a c d X) (r + 1) 3 5 (.int x) = some (hF h r t w a (c.1, c.2.1, c.2.2.1, x, c.2.2.2.2) d X) := (c_put hF_s (Nat.le_of_ble_eq_true rfl)).trans (congrArg some (hF_hs (c' := (c.1, c.2.1, c.2.2.1, x, c.2.2.2.2))))
theorem ps_value_b  {β_ : Type} {f_ : jx_H → Option β_} : (jx_put (hF h r t w a c d X) (r + 1) 3 5 (.int x)).bind f_ = f_ ((hF h r t w a (c.1, c.2.1, c.2.2.1, x, c.2.2.2.2) d X)) := bnd (ps_value )
theorem ps_name : jx_put (hF h r t w a c d X) (r + 1) 3 6 (.long y) = some (hF h r t w a (c.1, c.2.1, c.2.2.1, c.2.2.2.1, y) d X) := (c_put hF_s (Nat.le_of_ble_eq_true rfl)).trans (congrArg some (hF_hs (c' := (c.1, c.2.1, c.2.2.1, c.2.2.2.1, y))))
theorem ps_name_b  {β_ : Type} {f_ : jx_H → Option β_} : (jx_put (hF h r t w a c d X) (r + 1) 3 6 (.long y)).bind f_ = f_ ((hF h r t w a (c.1, c.2.1, c.2.2.1, c.2.2.2.1, y) d X)) := bnd (ps_name )
theorem pr_block : jx_put (hF h r t w a c d X) r 4 1 (.int (Int32.ofNat n)) = some (hF h r t w a c (n, d.2.1, d.2.2.1, d.2.2.2.1, d.2.2.2.2) X) := (c_put hF_r (Nat.le_of_ble_eq_true rfl)).trans (congrArg some (hF_hr (d' := (n, d.2.1, d.2.2.1, d.2.2.2.1, d.2.2.2.2))))
theorem pr_block_b  {β_ : Type} {f_ : jx_H → Option β_} : (jx_put (hF h r t w a c d X) r 4 1 (.int (Int32.ofNat n))).bind f_ = f_ ((hF h r t w a c (n, d.2.1, d.2.2.1, d.2.2.2.1, d.2.2.2.2) X)) := bnd (pr_block )
theorem pr_form : jx_put (hF h r t w a c d X) r 4 2 (.ref n) = some (hF h r t w a c (d.1, n, d.2.2.1, d.2.2.2.1, d.2.2.2.2) X) := (c_put hF_r (Nat.le_of_ble_eq_true rfl)).trans (congrArg some (hF_hr (d' := (d.1, n, d.2.2.1, d.2.2.2.1, d.2.2.2.2))))
theorem pr_form_b  {β_ : Type} {f_ : jx_H → Option β_} : (jx_put (hF h r t w a c d X) r 4 2 (.ref n)).bind f_ = f_ ((hF h r t w a c (d.1, n, d.2.2.1, d.2.2.2.1, d.2.2.2.2) X)) := bnd (pr_form )
theorem pr_step : jx_put (hF h r t w a c d X) r 4 3 (.int (Int32.ofNat n)) = some (hF h r t w a c (d.1, d.2.1, n, d.2.2.2.1, d.2.2.2.2) X) := (c_put hF_r (Nat.le_of_ble_eq_true rfl)).trans (congrArg some (hF_hr (d' := (d.1, d.2.1, n, d.2.2.2.1, d.2.2.2.2))))
theorem pr_step_b  {β_ : Type} {f_ : jx_H → Option β_} : (jx_put (hF h r t w a c d X) r 4 3 (.int (Int32.ofNat n))).bind f_ = f_ ((hF h r t w a c (d.1, d.2.1, n, d.2.2.2.1, d.2.2.2.2) X)) := bnd (pr_step )
theorem pr_acc : jx_put (hF h r t w a c d X) r 4 4 (.int (Int32.ofNat n)) = some (hF h r t w a c (d.1, d.2.1, d.2.2.1, n, d.2.2.2.2) X) := (c_put hF_r (Nat.le_of_ble_eq_true rfl)).trans (congrArg some (hF_hr (d' := (d.1, d.2.1, d.2.2.1, n, d.2.2.2.2))))
theorem pr_acc_b  {β_ : Type} {f_ : jx_H → Option β_} : (jx_put (hF h r t w a c d X) r 4 4 (.int (Int32.ofNat n))).bind f_ = f_ ((hF h r t w a c (d.1, d.2.1, d.2.2.1, n, d.2.2.2.2) X)) := bnd (pr_acc )
theorem pr_minus : jx_put (hF h r t w a c d X) r 4 5 (.int (jbi m)) = some (hF h r t w a c (d.1, d.2.1, d.2.2.1, d.2.2.2.1, m) X) := (c_put hF_r (Nat.le_of_ble_eq_true rfl)).trans (congrArg some (hF_hr (d' := (d.1, d.2.1, d.2.2.1, d.2.2.2.1, m))))
theorem pr_minus_b  {β_ : Type} {f_ : jx_H → Option β_} : (jx_put (hF h r t w a c d X) r 4 5 (.int (jbi m))).bind f_ = f_ ((hF h r t w a c (d.1, d.2.1, d.2.2.1, d.2.2.2.1, m) X)) := bnd (pr_minus )
theorem pr_minus0 : jx_put (hF h r t w a c d X) r 4 5 (.int (Int32.ofNat 0)) = some (hF h r t w a c (d.1, d.2.1, d.2.2.1, d.2.2.2.1, false) X) := pr_minus (m := false)
theorem pr_minus0_b  {β_ : Type} {f_ : jx_H → Option β_} : (jx_put (hF h r t w a c d X) r 4 5 (.int (Int32.ofNat 0))).bind f_ = f_ ((hF h r t w a c (d.1, d.2.1, d.2.2.1, d.2.2.2.1, false) X)) := bnd (pr_minus0 )
theorem pr_minus1 : jx_put (hF h r t w a c d X) r 4 5 (.int (Int32.ofNat 1)) = some (hF h r t w a c (d.1, d.2.1, d.2.2.1, d.2.2.2.1, true) X) := pr_minus (m := true)
theorem pr_minus1_b  {β_ : Type} {f_ : jx_H → Option β_} : (jx_put (hF h r t w a c d X) r 4 5 (.int (Int32.ofNat 1))).bind f_ = f_ ((hF h r t w a c (d.1, d.2.1, d.2.2.1, d.2.2.2.1, true) X)) := bnd (pr_minus1 )
theorem px_Tc (h1 : r + 1 < a) : jx_put (hF h r t w a c d X) a 7 2 (.int (Int32.ofNat n)) = some (hF h r t w a c d (xsTc X n)) := (c_put (hF_k (k := 0) h1 (by decide)) (Nat.le_of_ble_eq_true rfl)).trans (congrArg some (hF_hx (X' := xsTc X n) (k := 0) h1 (by decide) (fun j h1 h2 => by
  match j, h1, h2 with
  | 0, _, h2 => exact absurd rfl h2
  | 1, _, h2 => rfl
  | 2, _, h2 => rfl
  | 3, _, h2 => rfl
  | 4, _, h2 => rfl
  | 5, _, h2 => rfl
  | 6, _, h2 => rfl
  | 7, _, h2 => rfl
  | 8, _, h2 => rfl
  | j + 9, h1, _ => exact absurd h1 (by omega))))
theorem px_Tc_b (h1 : r + 1 < a) {β_ : Type} {f_ : jx_H → Option β_} : (jx_put (hF h r t w a c d X) a 7 2 (.int (Int32.ofNat n))).bind f_ = f_ ((hF h r t w a c d (xsTc X n))) := bnd (px_Tc h1)
theorem px_Nc (h1 : r + 1 < a) : jx_put (hF h r t w a c d X) a 7 4 (.int (Int32.ofNat n)) = some (hF h r t w a c d (xsNc X n)) := (c_put (hF_k (k := 0) h1 (by decide)) (Nat.le_of_ble_eq_true rfl)).trans (congrArg some (hF_hx (X' := xsNc X n) (k := 0) h1 (by decide) (fun j h1 h2 => by
  match j, h1, h2 with
  | 0, _, h2 => exact absurd rfl h2
  | 1, _, h2 => rfl
  | 2, _, h2 => rfl
  | 3, _, h2 => rfl
  | 4, _, h2 => rfl
  | 5, _, h2 => rfl
  | 6, _, h2 => rfl
  | 7, _, h2 => rfl
  | 8, _, h2 => rfl
  | j + 9, h1, _ => exact absurd h1 (by omega))))
theorem px_Nc_b (h1 : r + 1 < a) {β_ : Type} {f_ : jx_H → Option β_} : (jx_put (hF h r t w a c d X) a 7 4 (.int (Int32.ofNat n))).bind f_ = f_ ((hF h r t w a c d (xsNc X n))) := bnd (px_Nc h1)
theorem px_Rc (h1 : r + 1 < a) : jx_put (hF h r t w a c d X) a 7 10 (.int (Int32.ofNat n)) = some (hF h r t w a c d (xsRc X n)) := (c_put (hF_k (k := 0) h1 (by decide)) (Nat.le_of_ble_eq_true rfl)).trans (congrArg some (hF_hx (X' := xsRc X n) (k := 0) h1 (by decide) (fun j h1 h2 => by
  match j, h1, h2 with
  | 0, _, h2 => exact absurd rfl h2
  | 1, _, h2 => rfl
  | 2, _, h2 => rfl
  | 3, _, h2 => rfl
  | 4, _, h2 => rfl
  | 5, _, h2 => rfl
  | 6, _, h2 => rfl
  | 7, _, h2 => rfl
  | 8, _, h2 => rfl
  | j + 9, h1, _ => exact absurd h1 (by omega))))
theorem px_Rc_b (h1 : r + 1 < a) {β_ : Type} {f_ : jx_H → Option β_} : (jx_put (hF h r t w a c d X) a 7 10 (.int (Int32.ofNat n))).bind f_ = f_ ((hF h r t w a c d (xsRc X n))) := bnd (px_Rc h1)
theorem pa_So (h1 : r + 1 < a) (hi : i < 2000) : jx_sI (hF h r t w a c d X) 2 (a + 1) (Int32.ofNat i) x = some (hF h r t w a c d (xsSo X (upd (xSo X) i x))) := (c_sI (hF_k (k := 1) h1 (by decide)) (by decide) hi).trans (congrArg some (hF_hx (X' := xsSo X (upd (xSo X) i x)) (k := 1) h1 (by decide) (fun j h1 h2 => by
  match j, h1, h2 with
  | 0, _, h2 => rfl
  | 1, _, h2 => exact absurd rfl h2
  | 2, _, h2 => rfl
  | 3, _, h2 => rfl
  | 4, _, h2 => rfl
  | 5, _, h2 => rfl
  | 6, _, h2 => rfl
  | 7, _, h2 => rfl
  | 8, _, h2 => rfl
  | j + 9, h1, _ => exact absurd h1 (by omega))))
theorem pa_So_b (h1 : r + 1 < a) (hi : i < 2000) {β_ : Type} {f_ : jx_H → Option β_} : (jx_sI (hF h r t w a c d X) 2 (a + 1) (Int32.ofNat i) x).bind f_ = f_ ((hF h r t w a c d (xsSo X (upd (xSo X) i x)))) := bnd (pa_So h1 hi)
theorem pa_Va (h1 : r + 1 < a) (hi : i < 2000) : jx_sI (hF h r t w a c d X) 0 (a + 2) (Int32.ofNat i) x = some (hF h r t w a c d (xsVa X (upd (xVa X) i x))) := (c_sI (hF_k (k := 2) h1 (by decide)) (by decide) hi).trans (congrArg some (hF_hx (X' := xsVa X (upd (xVa X) i x)) (k := 2) h1 (by decide) (fun j h1 h2 => by
  match j, h1, h2 with
  | 0, _, h2 => rfl
  | 1, _, h2 => rfl
  | 2, _, h2 => exact absurd rfl h2
  | 3, _, h2 => rfl
  | 4, _, h2 => rfl
  | 5, _, h2 => rfl
  | 6, _, h2 => rfl
  | 7, _, h2 => rfl
  | 8, _, h2 => rfl
  | j + 9, h1, _ => exact absurd h1 (by omega))))
theorem pa_Va_b (h1 : r + 1 < a) (hi : i < 2000) {β_ : Type} {f_ : jx_H → Option β_} : (jx_sI (hF h r t w a c d X) 0 (a + 2) (Int32.ofNat i) x).bind f_ = f_ ((hF h r t w a c d (xsVa X (upd (xVa X) i x)))) := bnd (pa_Va h1 hi)
theorem c_sJ {h : jx_H} {a t n i : Nat} {x : Int64} {f : Nat → Int64} (hc : h.2.2 a = some (.inr (t, n, .inr (.inl f)))) (hn : n < 2147483648) (hi : i < n) : jx_sJ h t a (Int32.ofNat i) x = some (hs h a (.inr (t, n, .inr (.inl (upL f i x))))) := by
  simp only [jx_sJ, hc, i_inB hi hn, i_cl (Nat.lt_trans hi hn), and_self, if_true]
  rfl
theorem c_sJ_b {h : jx_H} {a t n i : Nat} {x : Int64} {f : Nat → Int64} (hc : h.2.2 a = some (.inr (t, n, .inr (.inl f)))) (hn : n < 2147483648) (hi : i < n) {β_ : Type} {f_ : jx_H → Option β_} : (jx_sJ h t a (Int32.ofNat i) x).bind f_ = f_ ((hs h a (.inr (t, n, .inr (.inl (upL f i x)))))) := bnd (c_sJ hc hn hi)
theorem pa_Na (h1 : r + 1 < a) (hi : i < 1000) : jx_sJ (hF h r t w a c d X) 1 (a + 3) (Int32.ofNat i) y = some (hF h r t w a c d (xsNa X (upL (xNa X) i y))) := (c_sJ (hF_k (k := 3) h1 (by decide)) (by decide) hi).trans (congrArg some (hF_hx (X' := xsNa X (upL (xNa X) i y)) (k := 3) h1 (by decide) (fun j h1 h2 => by
  match j, h1, h2 with
  | 0, _, h2 => rfl
  | 1, _, h2 => rfl
  | 2, _, h2 => rfl
  | 3, _, h2 => exact absurd rfl h2
  | 4, _, h2 => rfl
  | 5, _, h2 => rfl
  | 6, _, h2 => rfl
  | 7, _, h2 => rfl
  | 8, _, h2 => rfl
  | j + 9, h1, _ => exact absurd h1 (by omega))))
theorem pa_Na_b (h1 : r + 1 < a) (hi : i < 1000) {β_ : Type} {f_ : jx_H → Option β_} : (jx_sJ (hF h r t w a c d X) 1 (a + 3) (Int32.ofNat i) y).bind f_ = f_ ((hF h r t w a c d (xsNa X (upL (xNa X) i y)))) := bnd (pa_Na h1 hi)
theorem pa_Ki (h1 : r + 1 < a) (hi : i < 121) : jx_sI (hF h r t w a c d X) 0 (a + 4) (Int32.ofNat i) x = some (hF h r t w a c d (xsKi X (upd (xKi X) i x))) := (c_sI (hF_k (k := 4) h1 (by decide)) (by decide) hi).trans (congrArg some (hF_hx (X' := xsKi X (upd (xKi X) i x)) (k := 4) h1 (by decide) (fun j h1 h2 => by
  match j, h1, h2 with
  | 0, _, h2 => rfl
  | 1, _, h2 => rfl
  | 2, _, h2 => rfl
  | 3, _, h2 => rfl
  | 4, _, h2 => exact absurd rfl h2
  | 5, _, h2 => rfl
  | 6, _, h2 => rfl
  | 7, _, h2 => rfl
  | 8, _, h2 => rfl
  | j + 9, h1, _ => exact absurd h1 (by omega))))
theorem pa_Ki_b (h1 : r + 1 < a) (hi : i < 121) {β_ : Type} {f_ : jx_H → Option β_} : (jx_sI (hF h r t w a c d X) 0 (a + 4) (Int32.ofNat i) x).bind f_ = f_ ((hF h r t w a c d (xsKi X (upd (xKi X) i x)))) := bnd (pa_Ki h1 hi)
theorem pa_Bl (h1 : r + 1 < a) (hi : i < 121) : jx_sI (hF h r t w a c d X) 0 (a + 5) (Int32.ofNat i) (Int32.ofNat v) = some (hF h r t w a c d (xsBl X (upN (xBl X) i v))) := (c_sI (hF_k (k := 5) h1 (by decide)) (by decide) hi).trans (congrArg some ((congrArg (fun g => hs (hF h r t w a c d X) (a + 5) (.inr (0, 121, .inl g))) upN_o).trans (hF_hx (X' := xsBl X (upN (xBl X) i v)) (k := 5) h1 (by decide) (fun j h1 h2 => by
  match j, h1, h2 with
  | 0, _, h2 => rfl
  | 1, _, h2 => rfl
  | 2, _, h2 => rfl
  | 3, _, h2 => rfl
  | 4, _, h2 => rfl
  | 5, _, h2 => exact absurd rfl h2
  | 6, _, h2 => rfl
  | 7, _, h2 => rfl
  | 8, _, h2 => rfl
  | j + 9, h1, _ => exact absurd h1 (by omega)))))
theorem pa_Bl_b (h1 : r + 1 < a) (hi : i < 121) {β_ : Type} {f_ : jx_H → Option β_} : (jx_sI (hF h r t w a c d X) 0 (a + 5) (Int32.ofNat i) (Int32.ofNat v)).bind f_ = f_ ((hF h r t w a c d (xsBl X (upN (xBl X) i v)))) := bnd (pa_Bl h1 hi)
theorem pa_St (h1 : r + 1 < a) (hi : i < 121) : jx_sI (hF h r t w a c d X) 0 (a + 6) (Int32.ofNat i) (Int32.ofNat v) = some (hF h r t w a c d (xsSt X (upN (xSt X) i v))) := (c_sI (hF_k (k := 6) h1 (by decide)) (by decide) hi).trans (congrArg some ((congrArg (fun g => hs (hF h r t w a c d X) (a + 6) (.inr (0, 121, .inl g))) upN_o).trans (hF_hx (X' := xsSt X (upN (xSt X) i v)) (k := 6) h1 (by decide) (fun j h1 h2 => by
  match j, h1, h2 with
  | 0, _, h2 => rfl
  | 1, _, h2 => rfl
  | 2, _, h2 => rfl
  | 3, _, h2 => rfl
  | 4, _, h2 => rfl
  | 5, _, h2 => rfl
  | 6, _, h2 => exact absurd rfl h2
  | 7, _, h2 => rfl
  | 8, _, h2 => rfl
  | j + 9, h1, _ => exact absurd h1 (by omega)))))
theorem pa_St_b (h1 : r + 1 < a) (hi : i < 121) {β_ : Type} {f_ : jx_H → Option β_} : (jx_sI (hF h r t w a c d X) 0 (a + 6) (Int32.ofNat i) (Int32.ofNat v)).bind f_ = f_ ((hF h r t w a c d (xsSt X (upN (xSt X) i v)))) := bnd (pa_St h1 hi)
theorem pa_Le (h1 : r + 1 < a) (hi : i < 121) : jx_sI (hF h r t w a c d X) 0 (a + 7) (Int32.ofNat i) (Int32.ofNat v) = some (hF h r t w a c d (xsLe X (upN (xLe X) i v))) := (c_sI (hF_k (k := 7) h1 (by decide)) (by decide) hi).trans (congrArg some ((congrArg (fun g => hs (hF h r t w a c d X) (a + 7) (.inr (0, 121, .inl g))) upN_o).trans (hF_hx (X' := xsLe X (upN (xLe X) i v)) (k := 7) h1 (by decide) (fun j h1 h2 => by
  match j, h1, h2 with
  | 0, _, h2 => rfl
  | 1, _, h2 => rfl
  | 2, _, h2 => rfl
  | 3, _, h2 => rfl
  | 4, _, h2 => rfl
  | 5, _, h2 => rfl
  | 6, _, h2 => rfl
  | 7, _, h2 => exact absurd rfl h2
  | 8, _, h2 => rfl
  | j + 9, h1, _ => exact absurd h1 (by omega)))))
theorem pa_Le_b (h1 : r + 1 < a) (hi : i < 121) {β_ : Type} {f_ : jx_H → Option β_} : (jx_sI (hF h r t w a c d X) 0 (a + 7) (Int32.ofNat i) (Int32.ofNat v)).bind f_ = f_ ((hF h r t w a c d (xsLe X (upN (xLe X) i v)))) := bnd (pa_Le h1 hi)
theorem pa_Ta (h1 : r + 1 < a) (hi : i < 121) : jx_sI (hF h r t w a c d X) 0 (a + 8) (Int32.ofNat i) (Int32.ofNat v) = some (hF h r t w a c d (xsTa X (upN (xTa X) i v))) := (c_sI (hF_k (k := 8) h1 (by decide)) (by decide) hi).trans (congrArg some ((congrArg (fun g => hs (hF h r t w a c d X) (a + 8) (.inr (0, 121, .inl g))) upN_o).trans (hF_hx (X' := xsTa X (upN (xTa X) i v)) (k := 8) h1 (by decide) (fun j h1 h2 => by
  match j, h1, h2 with
  | 0, _, h2 => rfl
  | 1, _, h2 => rfl
  | 2, _, h2 => rfl
  | 3, _, h2 => rfl
  | 4, _, h2 => rfl
  | 5, _, h2 => rfl
  | 6, _, h2 => rfl
  | 7, _, h2 => rfl
  | 8, _, h2 => exact absurd rfl h2
  | j + 9, h1, _ => exact absurd h1 (by omega)))))
theorem pa_Ta_b (h1 : r + 1 < a) (hi : i < 121) {β_ : Type} {f_ : jx_H → Option β_} : (jx_sI (hF h r t w a c d X) 0 (a + 8) (Int32.ofNat i) (Int32.ofNat v)).bind f_ = f_ ((hF h r t w a c d (xsTa X (upN (xTa X) i v)))) := bnd (pa_Ta h1 hi)
end JHF
