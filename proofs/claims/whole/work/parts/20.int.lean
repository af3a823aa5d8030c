/-! INTS THAT STAND FOR NUMBERS -/
theorem bnd {α β : Type} {x : Option α} {v : α} {f : α → Option β} (e : x = some v) : x.bind f = f v := by subst e; rfl
theorem jzo_0b {β : Type} {f : Unit → Option β} : (jzo (Int32.ofNat 0)).bind f = f () := rfl
theorem jzo_1b {β : Type} {f : Unit → Option β} : (jzo (Int32.ofNat 1)).bind f = f () := rfl
theorem jzo_bb {β : Type} {f : Unit → Option β} {b : Bool} : (jzo (jbi b)).bind f = f () := bnd (jzo_b b)
theorem i_to {a : Nat} (ha : a < 2147483648) : (Int32.ofNat a).toInt = a := Int32.toInt_ofNat_of_lt ha
theorem i_cl {a : Nat} (ha : a < 2147483648) : (Int32.ofNat a).toNatClampNeg = a := Int32.toNatClampNeg_ofNat_of_lt ha
theorem i_lt {a b : Nat} (ha : a < 2147483648) (hb : b < 2147483648) : (Int32.ofNat a < Int32.ofNat b) = (a < b) := by
  rw [Int32.lt_iff_toInt_lt, i_to ha, i_to hb]; exact propext Int.ofNat_lt
theorem i_eq {a b : Nat} (ha : a < 2147483648) (hb : b < 2147483648) : (Int32.ofNat a = Int32.ofNat b) = (a = b) := by
  rw [← Int32.toInt_inj, i_to ha, i_to hb]; exact propext Int.ofNat_inj
theorem i_ltP {α : Type} {a b : Nat} {x y : α} (ha : a < 2147483648) (hb : b < 2147483648) (c : a < b) : (if Int32.ofNat a < Int32.ofNat b then x else y) = x := if_pos (by rw [i_lt ha hb]; exact c)
theorem i_ltN {α : Type} {a b : Nat} {x y : α} (ha : a < 2147483648) (hb : b < 2147483648) (c : b ≤ a) : (if Int32.ofNat a < Int32.ofNat b then x else y) = y := if_neg (by rw [i_lt ha hb]; exact Nat.not_lt.mpr c)
theorem i_eqP {α : Type} {a b : Nat} {x y : α} (c : a = b) : (if Int32.ofNat a = Int32.ofNat b then x else y) = x := if_pos (by rw [c])
theorem i_eqN {α : Type} {a b : Nat} {x y : α} (ha : a < 2147483648) (hb : b < 2147483648) (c : a ≠ b) : (if Int32.ofNat a = Int32.ofNat b then x else y) = y := if_neg (by rw [i_eq ha hb]; exact c)
theorem i_add {a b : Nat} : Int32.ofNat a + Int32.ofNat b = Int32.ofNat (a + b) := (Int32.ofNat_add a b).symm
theorem i_sub {a b : Nat} (c : b ≤ a) : Int32.ofNat a - Int32.ofNat b = Int32.ofNat (a - b) := (Int32.ofNat_sub a b c).symm
theorem i_mul {a b : Nat} : Int32.ofNat a * Int32.ofNat b = Int32.ofNat (a * b) := (Int32.ofNat_mul a b).symm
theorem jbi_t : jbi true = Int32.ofNat 1 := rfl
theorem jbi_f : jbi false = Int32.ofNat 0 := rfl
theorem jbi_0 {b : Bool} : (jbi b = Int32.ofNat 0) = (b = false) := by
  cases b
  · exact propext ⟨fun _ => rfl, fun _ => rfl⟩
  · exact propext ⟨fun q => absurd q (by decide), fun q => by cases q⟩
theorem i_inB {i n : Nat} (hi : i < n) (hn : n < 2147483648) : jx_inB (Int32.ofNat i) n = true := by
  have e := i_to (Nat.lt_trans hi hn)
  simp only [jx_inB, e, Bool.and_eq_true, decide_eq_true_eq]
  omega
theorem c_fI {h : jx_H} {a ci k : Nat} {fs : List Value} {x : Int32} (hc : h.2.2 a = some (.inl (ci, fs))) (hk : fs[k]? = some (.int x)) : jx_fI h a ci k = some x := by simp only [jx_fI, jx_fld, hc, hk, if_true]
theorem c_fJ {h : jx_H} {a ci k : Nat} {fs : List Value} {x : Int64} (hc : h.2.2 a = some (.inl (ci, fs))) (hk : fs[k]? = some (.long x)) : jx_fJ h a ci k = some x := by simp only [jx_fJ, jx_fld, hc, hk, if_true]
theorem c_fA {h : jx_H} {a ci k : Nat} {fs : List Value} {x : Nat} (hc : h.2.2 a = some (.inl (ci, fs))) (hk : fs[k]? = some (.ref x)) : jx_fA h a ci k = some x := by simp only [jx_fA, jx_fld, hc, hk, if_true]
theorem c_rv {h : jx_H} {a ci : Nat} {fs l : List Value} (hc : h.2.2 a = some (.inl (ci, fs))) : jx_recv h (.ref a :: l) (some ci) = true := by simp only [jx_recv, hc]; exact Nat.beq_refl ci
theorem c_aI {h : jx_H} {a t n i : Nat} {f : Nat → Int32} (hc : h.2.2 a = some (.inr (t, n, .inl f))) (hn : n < 2147483648) (hi : i < n) : jx_aI h t a (Int32.ofNat i) = some (f i) := by
  simp only [jx_aI, hc, i_inB hi hn, i_cl (Nat.lt_trans hi hn), and_self, if_true]
theorem c_aJ {h : jx_H} {a t n i : Nat} {f : Nat → Int64} (hc : h.2.2 a = some (.inr (t, n, .inr (.inl f)))) (hn : n < 2147483648) (hi : i < n) : jx_aJ h t a (Int32.ofNat i) = some (f i) := by
  simp only [jx_aJ, hc, i_inB hi hn, i_cl (Nat.lt_trans hi hn), and_self, if_true]
theorem c_aA {h : jx_H} {a t n i : Nat} {f : Nat → Option Nat} (hc : h.2.2 a = some (.inr (t, n, .inr (.inr (.inr (.inr f)))))) (hn : n < 2147483648) (hi : i < n) : jx_aA h t a (Int32.ofNat i) = some (f i) := by
  simp only [jx_aA, hc, i_inB hi hn, i_cl (Nat.lt_trans hi hn), and_self, if_true]
theorem c_len {h : jx_H} {a t n : Nat} {z : (Nat → Int32) ⊕ (Nat → Int64) ⊕ (Nat → UInt32) ⊕ (Nat → UInt64) ⊕ (Nat → Option Nat)} (hc : h.2.2 a = some (.inr (t, n, z))) : jx_len h t a = some n := by simp only [jx_len, hc, if_true]
/-- how many of 1 .. n; the first of j + 1 .. j + d, or 0 -/
def jcnt (P : Nat → Bool) : Nat → Nat
  | 0 => 0
  | n + 1 => jcnt P n + cond (P (n + 1)) 1 0
def jfst (P : Nat → Bool) : Nat → Nat → Nat
  | 0, _ => 0
  | d + 1, j => cond (P (j + 1)) (j + 1) (jfst P d (j + 1))
theorem jcnt_le (P : Nat → Bool) : ∀ n : Nat, jcnt P n ≤ n
  | 0 => Nat.le_refl 0
  | n + 1 => by
    have := jcnt_le P n
    unfold jcnt
    cases P (n + 1) <;> simp only [cond_true, cond_false] <;> omega
theorem jfst_le (P : Nat → Bool) : ∀ d j : Nat, jfst P d j ≤ j + d
  | 0, j => Nat.zero_le _
  | d + 1, j => by
    have := jfst_le P d (j + 1)
    unfold jfst
    cases P (j + 1) <;> simp only [cond_true, cond_false] <;> omega
theorem pt_lt {a b : Nat} (c : a < b) : (a < b) = True := eq_true c
theorem pf_lt {a b : Nat} (c : b ≤ a) : (a < b) = False := eq_false (Nat.not_lt.mpr c)
theorem pt_le {a b : Nat} (c : a ≤ b) : (a ≤ b) = True := eq_true c
theorem pf_le {a b : Nat} (c : b < a) : (a ≤ b) = False := eq_false (Nat.not_le.mpr c)
theorem pt_eq {a b : Nat} (c : a = b) : (a = b) = True := eq_true c
theorem pf_eq {a b : Nat} (c : a ≠ b) : (a = b) = False := eq_false c
