/-! UNITS -/
/-- Euclid's steps, so many of them -/
def jeg : Nat → Nat → Nat → Nat
  | 0, x, _ => x
  | n + 1, x, y => if y = 0 then x else jeg n y (x % y)
theorem jeg_eq : ∀ (k n x y : Nat), y < 2 ^ k → 2 * k ≤ n → jeg n x y = Nat.gcd x y
  | 0, n, x, y, h1, h2 => by
    have : y = 0 := by omega
    subst this
    rw [Nat.gcd_zero_right]
    cases n
    · rfl
    · rw [jeg, if_pos rfl]
  | k + 1, n, x, y, h1, h2 => by
    obtain ⟨m, rfl⟩ : ∃ m, n = m + 1 + 1 := ⟨n - 2, by omega⟩
    rw [jeg]
    by_cases c : y = 0
    · rw [if_pos c, c, Nat.gcd_zero_right]
    · rw [if_neg c, jeg]
      have e : Nat.gcd x y = Nat.gcd y (x % y) := by rw [Nat.gcd_comm x y, Nat.gcd_rec, Nat.gcd_comm]
      by_cases c2 : x % y = 0
      · rw [if_pos c2, e, c2, Nat.gcd_zero_right]
      · rw [if_neg c2, e]
        have e2 : Nat.gcd y (x % y) = Nat.gcd (x % y) (y % (x % y)) := by rw [Nat.gcd_comm y, Nat.gcd_rec, Nat.gcd_comm]
        rw [e2]
        have hr : x % y < y := Nat.mod_lt _ (by omega)
        have hs : y % (x % y) < x % y := Nat.mod_lt _ (by omega)
        have hd := Nat.mod_add_div y (x % y)
        have hq : 1 ≤ y / (x % y) := Nat.div_pos (by omega) (by omega)
        have hm : x % y ≤ x % y * (y / (x % y)) := Nat.le_mul_of_pos_right _ hq
        refine jeg_eq k m _ _ ?_ (by omega)
        rw [Nat.pow_succ] at h1
        omega
theorem i_div {a b : Nat} (ha : a < 2147483648) (hb : b < 2147483648) : Int32.ofNat a / Int32.ofNat b = Int32.ofNat (a / b) := (Int32.ofNat_div ha hb).symm
theorem i_mod {a b : Nat} (ha : a < 2147483648) (hb : b < 2147483648) : Int32.ofNat a - Int32.ofNat a / Int32.ofNat b * Int32.ofNat b = Int32.ofNat (a % b) := by
  rw [i_div ha hb, i_mul, i_sub (Nat.div_mul_le_self a b)]
  congr 1
  have := Nat.mod_add_div a b
  rw [Nat.mul_comm] at this
  omega
theorem l_to {a : Nat} (ha : a < 9223372036854775808) : (Int64.ofNat a).toInt = a := Int64.toInt_ofNat_of_lt ha
theorem l_div {a b : Nat} (ha : a < 9223372036854775808) (hb : b < 9223372036854775808) : Int64.ofNat a / Int64.ofNat b = Int64.ofNat (a / b) := (Int64.ofNat_div ha hb).symm
theorem l_mul {a b : Nat} : Int64.ofNat a * Int64.ofNat b = Int64.ofNat (a * b) := (Int64.ofNat_mul a b).symm
theorem l_mod {a b : Nat} (ha : a < 9223372036854775808) (hb : b < 9223372036854775808) : Int64.ofNat a - Int64.ofNat a / Int64.ofNat b * Int64.ofNat b = Int64.ofNat (a % b) := by
  rw [l_div ha hb, l_mul, ← Int64.ofNat_sub _ _ (Nat.div_mul_le_self a b)]
  congr 1
  have := Nat.mod_add_div a b
  rw [Nat.mul_comm] at this
  omega
theorem l_lt0 {a : Nat} (ha : a < 9223372036854775808) : ((0 : Int64) < Int64.ofNat a) = (0 < a) := by
  rw [Int64.lt_iff_toInt_lt, l_to ha]
  exact propext ⟨fun q => by have : ((0 : Int64).toInt) = 0 := rfl; omega, fun q => by have : ((0 : Int64).toInt) = 0 := rfl; omega⟩
theorem l_eq0 {a : Nat} (ha : a < 9223372036854775808) : (Int64.ofNat a = (0 : Int64)) = (a = 0) := by
  rw [← Int64.toInt_inj, l_to ha]
  exact propext ⟨fun q => by have : ((0 : Int64).toInt) = 0 := rfl; omega, fun q => by have : ((0 : Int64).toInt) = 0 := rfl; omega⟩
theorem i_2l {a : Nat} (ha : a < 2147483648) : (Int32.ofNat a).toInt64 = Int64.ofNat a := Int32.toInt64_ofNat' (by rw [Int32.toInt_maxValue]; omega)
theorem l_2i {a : Nat} : (Int64.ofNat a).toInt32 = Int32.ofNat a := Int64.toInt32_ofNat'
theorem P_cd_loop {G : jx_Gv} {h : jx_H} {p q : Int32} : ∀ (d x y s : Nat) (z5 : Option Value), s + d = 64 → x < 2147483648 → y < 2147483648 → jE G (167, 7, [some (.int p), some (.int q), some (.int (Int32.ofNat x)), some (.int (Int32.ofNat y)), some (.int (Int32.ofNat s)), z5], [], h) = some (some (.int (Int32.ofNat (jeg d x y))), h)
  | 0, x, y, s, z5, hs, hx, hy => by
    rw [e_167_7, jeg]
    simp (disch := omega) only [e_167_0, e_167_14, e_167_18, e_167_34, ↓Option.bind_some, ↓jzo_0b, ↓jzo_1b, ↓jzo_bb, Option.toList_some, Option.toList_none, List.cons_append, List.nil_append, ↓reduceIte, jzo_0, jzo_1, jzo_b, jbi_t, jbi_f, i_add, ↓i_ltP, ↓i_ltN, ↓i_eqP, ↓i_eqN, i_lt, i_eq, jbi_0, pt_lt, pf_lt, pt_eq, pf_eq, pt_le, pf_le, Nat.reduceEqDiff, eq_self, true_or, or_true, false_or, or_false, true_and, and_true, false_and, and_false, jE_sw, jE_sw0]
  | d + 1, x, y, s, z5, hs, hx, hy => by
    rw [e_167_7, jeg]
    by_cases c : y = 0
    · rw [if_pos c]
      simp (disch := omega) only [e_167_0, e_167_14, e_167_18, e_167_34, ↓Option.bind_some, ↓jzo_0b, ↓jzo_1b, ↓jzo_bb, Option.toList_some, Option.toList_none, List.cons_append, List.nil_append, ↓reduceIte, jzo_0, jzo_1, jzo_b, jbi_t, jbi_f, i_add, ↓i_ltP, ↓i_ltN, ↓i_eqP, ↓i_eqN, i_lt, i_eq, jbi_0, pt_lt, pf_lt, pt_eq, pf_eq, pt_le, pf_le, Nat.reduceEqDiff, eq_self, true_or, or_true, false_or, or_false, true_and, and_true, false_and, and_false, jE_sw, jE_sw0]
    · rw [if_neg c]
      have hm := Nat.mod_lt x (y := y) (by omega)
      rw [← P_cd_loop (G := G) (h := h) (p := p) (q := q) d y (x % y) (s + 1) (some (.int (Int32.ofNat (x % y)))) (by omega) hy (by omega)]
      simp (disch := omega) only [e_167_0, e_167_14, e_167_18, e_167_34, ↓Option.bind_some, ↓jzo_0b, ↓jzo_1b, ↓jzo_bb, Option.toList_some, Option.toList_none, List.cons_append, List.nil_append, ↓reduceIte, jzo_0, jzo_1, jzo_b, jbi_t, jbi_f, i_add, ↓i_ltP, ↓i_ltN, ↓i_eqP, ↓i_eqN, i_lt, i_eq, jbi_0, pt_lt, pf_lt, pt_eq, pf_eq, pt_le, pf_le, Nat.reduceEqDiff, eq_self, true_or, or_true, false_or, or_false, true_and, and_true, false_and, and_false, jE_sw, jE_sw0, i_mod]
theorem P_commonDivisor {G : jx_Gv} {h : jx_H} {x y : Nat} (hx : x < 134217728) (hy : y < 134217728) : jE G (167, 0, [some (.int (Int32.ofNat x)), some (.int (Int32.ofNat y)), none, none, none, none], [], h) = some (some (.int (Int32.ofNat (Nat.gcd x y))), h) := by
  have e := P_cd_loop (G := G) (h := h) (p := Int32.ofNat x) (q := Int32.ofNat y) 64 x y 0 none (by omega) (by omega) (by omega)
  rw [jeg_eq 27 64 x y (by omega) (by omega)] at e
  simp (disch := omega) only [e_167_0, e_167_14, e_167_18, e_167_34]
  exact e

theorem P_commonDivisor_b {G : jx_Gv} {h : jx_H} {x y : Nat} (hx : x < 134217728) (hy : y < 134217728) {β_ : Type} {f_ : jx_R → Option β_} : (jE G (167, 0, [some (.int (Int32.ofNat x)), some (.int (Int32.ofNat y)), none, none, none, none], [], h)).bind f_ = f_ ((some (.int (Int32.ofNat (Nat.gcd x y))), h)) := bnd (P_commonDivisor hx hy)