/-! NEW CELLS BEHIND A HEAP -/
def hA (h : jx_H) (l : List jx_C) (s : Nat) : jx_H := (h.1 + l.length, h.2.1 + s, fun q => if q < h.1 ∨ h.1 + l.length ≤ q then h.2.2 q else l[q - h.1]?)
section HA
variable {h : jx_H} {l : List jx_C} {s k : Nat}
theorem hA_1 : (hA h l s).1 = h.1 + l.length := rfl
theorem hA_2 : (hA h l s).2.1 = h.2.1 + s := rfl
theorem hA_0 : hA h [] 0 = h := by
  unfold hA
  have e : (fun q => if q < h.1 ∨ h.1 + ([] : List jx_C).length ≤ q then h.2.2 q else ([] : List jx_C)[q - h.1]?) = h.2.2 := by
    funext q
    have : q < h.1 ∨ h.1 + ([] : List jx_C).length ≤ q := by
      show q < h.1 ∨ h.1 + 0 ≤ q
      omega
    rw [if_pos this]
  rw [e]
  rfl
theorem hA_at (hk : k < l.length) : (hA h l s).2.2 (h.1 + k) = l[k]? := by
  show (if h.1 + k < h.1 ∨ h.1 + l.length ≤ h.1 + k then h.2.2 (h.1 + k) else l[h.1 + k - h.1]?) = l[k]?
  rw [if_neg (by omega), Nat.add_sub_cancel_left]
theorem hA_ne {q : Nat} (hq : q < h.1 ∨ h.1 + l.length ≤ q) : (hA h l s).2.2 q = h.2.2 q := if_pos hq
theorem hA_jn {N : Nat} {c : jx_C} : jn (hA h l s) N c = hA h (l ++ [c]) (s + N) := by
  unfold jn hA
  have e1 : h.1 + l.length + 1 = h.1 + (l ++ [c]).length := by rw [List.length_append]; rfl
  have e2 : h.2.1 + s + N = h.2.1 + (s + N) := by omega
  have e3 : jx_up (fun q => if q < h.1 ∨ h.1 + l.length ≤ q then h.2.2 q else l[q - h.1]?) (h.1 + l.length) c = fun q => if q < h.1 ∨ h.1 + (l ++ [c]).length ≤ q then h.2.2 q else (l ++ [c])[q - h.1]? := by
    funext q
    unfold jx_up
    rw [← e1]
    by_cases c1 : q = h.1 + l.length
    · rw [if_pos c1, if_neg (by omega), c1, Nat.add_sub_cancel_left, List.getElem?_append_right (Nat.le_refl _), Nat.sub_self]
      rfl
    · rw [if_neg c1]
      show (if q < h.1 ∨ h.1 + l.length ≤ q then h.2.2 q else l[q - h.1]?) = _
      by_cases c2 : q < h.1 ∨ h.1 + l.length ≤ q
      · rw [if_pos c2, if_pos (by omega)]
      · rw [if_neg c2, if_neg (by omega), List.getElem?_append_left (by omega)]
  show (h.1 + l.length + 1, h.2.1 + s + N, jx_up _ (h.1 + l.length) c) = _
  rw [e3, e2, e1]
theorem hA_jna {t n : Nat} {z : (Nat → Int32) ⊕ (Nat → Int64) ⊕ (Nat → UInt32) ⊕ (Nat → UInt64) ⊕ (Nat → Option Nat)} (hn : n < 67108864) : jna (hA h l s) t (Int32.ofNat n) z = some (hA h (l ++ [.inr (t, n, z)]) (s + n)) := by
  unfold jna
  rw [if_pos (i_inB hn (by decide)), i_cl (by omega), hA_jn]
theorem hA_hs {c : jx_C} (hk : k < l.length) : hs (hA h l s) (h.1 + k) c = hA h (l.set k c) s := by
  unfold hs hA
  have e1 : (l.set k c).length = l.length := List.length_set
  have e3 : jx_up (fun q => if q < h.1 ∨ h.1 + l.length ≤ q then h.2.2 q else l[q - h.1]?) (h.1 + k) c = fun q => if q < h.1 ∨ h.1 + (l.set k c).length ≤ q then h.2.2 q else (l.set k c)[q - h.1]? := by
    funext q
    unfold jx_up
    rw [e1]
    by_cases c1 : q = h.1 + k
    · rw [if_pos c1, if_neg (by omega), c1, Nat.add_sub_cancel_left, List.getElem?_set_self hk]
    · rw [if_neg c1]
      show (if q < h.1 ∨ h.1 + l.length ≤ q then h.2.2 q else l[q - h.1]?) = _
      by_cases c2 : q < h.1 ∨ h.1 + l.length ≤ q
      · rw [if_pos c2, if_pos c2]
      · rw [if_neg c2, if_neg c2, List.getElem?_set_ne (by omega)]
  show (h.1 + l.length, h.2.1 + s, jx_up _ (h.1 + k) c) = _
  rw [e3, e1]
theorem hA_put {ci f : Nat} {fs : List Value} {v : Value} (k : Nat) (hc : l[k]? = some (.inl (ci, fs))) (hf : Nat.ble (f + 1) fs.length = true) : jx_put (hA h l s) (h.1 + k) ci f v = some (hA h (l.set k (.inl (ci, fs.set f v))) s) := by
  have hk : k < l.length := by
    apply Classical.byContradiction
    intro z
    rw [List.getElem?_eq_none (by omega)] at hc
    cases hc
  rw [c_put ((hA_at hk).trans hc) (Nat.le_of_ble_eq_true hf), hA_hs hk]
theorem hA_put_b {ci f : Nat} {fs : List Value} {v : Value} (k : Nat) (hc : l[k]? = some (.inl (ci, fs))) (hf : Nat.ble (f + 1) fs.length = true) {β_ : Type} {f_ : jx_H → Option β_} : (jx_put (hA h l s) (h.1 + k) ci f v).bind f_ = f_ ((hA h (l.set k (.inl (ci, fs.set f v))) s)) := bnd (hA_put k hc hf)
end HA
/-- an edition as it is made -/
def x00 : jX := (fun _ => 0, fun _ => 0, 0, fun _ => 0, 0, fun _ => 0, fun _ => 0, fun _ => 0, fun _ => 0, fun _ => 0, 0)
def xcs (a : Nat) (X : jX) : List jx_C := [xcl a X 0, xcl a X 1, xcl a X 2, xcl a X 3, xcl a X 4, xcl a X 5, xcl a X 6, xcl a X 7, xcl a X 8]
theorem E_init {G : jx_Gv} {h : jx_H} : jE G (22, 0, [some (.ref h.1)], [], jn h 11 (.inl (7, [.null, .null, .int 0, .null, .int 0, .null, .null, .null, .null, .null, .int 0]))) = some (none, hA h (xcs h.1 x00) 5616) := by
  have e0 : jn h 11 (.inl (7, [.null, .null, .int 0, .null, .int 0, .null, .null, .null, .null, .null, .int 0])) = hA h [.inl (7, [.null, .null, .int 0, .null, .int 0, .null, .null, .null, .null, .null, .int 0])] 11 := by
    have z := hA_jn (h := h) (l := []) (s := 0) (N := 11) (c := .inl (7, [.null, .null, .int 0, .null, .int 0, .null, .null, .null, .null, .null, .int 0]))
    rw [hA_0] at z
    exact z
  rw [e0, e_22_0]
  refine (bnd (hA_jna (by decide))).trans ?_
  refine (bnd (hA_put 0 rfl rfl)).trans ?_
  refine (bnd (hA_jna (by decide))).trans ?_
  refine (bnd (hA_put 0 rfl rfl)).trans ?_
  refine (bnd (hA_put 0 rfl rfl)).trans ?_
  refine (bnd (hA_jna (by decide))).trans ?_
  refine (bnd (hA_put 0 rfl rfl)).trans ?_
  refine (bnd (hA_put 0 rfl rfl)).trans ?_
  refine (bnd (hA_jna (by decide))).trans ?_
  refine (bnd (hA_put 0 rfl rfl)).trans ?_
  refine (e_22_49 (G := G)).trans ?_
  refine (bnd (hA_jna (by decide))).trans ?_
  refine (bnd (hA_put 0 rfl rfl)).trans ?_
  refine (bnd (hA_jna (by decide))).trans ?_
  refine (bnd (hA_put 0 rfl rfl)).trans ?_
  refine (bnd (hA_jna (by decide))).trans ?_
  refine (bnd (hA_put 0 rfl rfl)).trans ?_
  refine (bnd (hA_jna (by decide))).trans ?_
  refine (bnd (hA_put 0 rfl rfl)).trans ?_
  refine (bnd (hA_put 0 rfl rfl)).trans ?_
  rfl

theorem E_init_b {G : jx_Gv} {h : jx_H} {β_ : Type} {f_ : jx_R → Option β_} : (jE G (22, 0, [some (.ref h.1)], [], jn h 11 (.inl (7, [.null, .null, .int 0, .null, .int 0, .null, .null, .null, .null, .null, .int 0])))).bind f_ = f_ ((none, hA h (xcs h.1 x00) 5616)) := bnd (E_init )