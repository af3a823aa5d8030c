/-! NAMES AND WORDS AS LISTS OF OCTETS -/
theorem l_eq {a b : Nat} (ha : a < 9223372036854775808) (hb : b < 9223372036854775808) : (Int64.ofNat a = Int64.ofNat b) = (a = b) := by
  rw [← Int64.toInt_inj, l_to ha, l_to hb]
  exact propext ⟨fun e => by omega, fun e => by omega⟩
theorem l_add {a b : Nat} : Int64.ofNat a + Int64.ofNat b = Int64.ofNat (a + b) := (Int64.ofNat_add a b).symm
/-- all octets of names -/
def aln (l : List Int32) : Prop := l.all waln = true
theorem aln_nil : aln [] := rfl
theorem aln_cons {x : Int32} {l : List Int32} : aln (x :: l) ↔ waln x = true ∧ aln l := by
  unfold aln
  rw [List.all_cons, Bool.and_eq_true]
theorem waln_oct {x : Int32} (h : waln x = true) : ∃ n : Nat, n < 256 ∧ x = Int32.ofNat n := by
  have c0 : ¬ x < Int32.ofNat 0 := by
    intro c
    have e1 : wlet x = false := by
      unfold wlet
      rw [decide_eq_true (Int32.lt_trans c (by decide : Int32.ofNat 0 < Int32.ofNat 97))]
      rfl
    have e2 : wdig x = false := by
      unfold wdig
      rw [decide_eq_true (Int32.lt_trans c (by decide : Int32.ofNat 0 < Int32.ofNat 48))]
      rfl
    unfold waln at h
    rw [e1, e2] at h
    cases h
  obtain ⟨e, e2⟩ := i_raw c0
  generalize x.toNatClampNeg = n at *
  subst e
  refine ⟨n, ?_, rfl⟩
  apply Classical.byContradiction
  intro c
  have e1 : wlet (Int32.ofNat n) = false := by
    unfold wlet
    rw [decide_eq_true (show Int32.ofNat 122 < Int32.ofNat n by rw [i_lt (by decide) e2]; omega), Bool.not_true, Bool.and_false]
  have e3 : wdig (Int32.ofNat n) = false := by
    unfold wdig
    rw [decide_eq_true (show Int32.ofNat 57 < Int32.ofNat n by rw [i_lt (by decide) e2]; omega), Bool.not_true, Bool.and_false]
  unfold waln at h
  rw [e1, e3] at h
  cases h
def cdo (x : Int32) : Nat := (wcode x).toNatClampNeg
theorem k_cdo : ∀ n : Nat, n < 256 → waln (Int32.ofNat n) = true → wcode (Int32.ofNat n) = Int32.ofNat (cdo (Int32.ofNat n)) ∧ 1 ≤ cdo (Int32.ofNat n) ∧ cdo (Int32.ofNat n) < 37 ∧ woct (Int32.ofNat (cdo (Int32.ofNat n))) = Int32.ofNat n := by decide +kernel
theorem cdo_ok {x : Int32} (h : waln x = true) : wcode x = Int32.ofNat (cdo x) ∧ 1 ≤ cdo x ∧ cdo x < 37 ∧ woct (Int32.ofNat (cdo x)) = x := by
  obtain ⟨n, hn, rfl⟩ := waln_oct h
  exact k_cdo n hn h
def lcd : List Int32 → Nat
  | [] => 0
  | x :: l => cdo x + 37 * lcd l
theorem lcd_lt : ∀ l : List Int32, aln l → lcd l < 37 ^ l.length
  | [], _ => by decide
  | x :: l, h => by
    obtain ⟨h1, h2⟩ := aln_cons.mp h
    have := lcd_lt l h2
    have := (cdo_ok h1).2.2.1
    show cdo x + 37 * lcd l < 37 ^ (l.length + 1)
    rw [Nat.pow_succ]
    omega
theorem lcd_big {l : List Int32} (h : aln l) (hl : l.length ≤ 12) : lcd l < 9223372036854775808 := by
  have h1 := lcd_lt l h
  have h2 : 37 ^ l.length ≤ 37 ^ 12 := Nat.pow_le_pow_right (by decide) hl
  have h3 : 37 ^ 12 < 9223372036854775808 := by decide
  omega
theorem noct_lcd : ∀ (l : List Int32) (d : Nat), aln l → l.length ≤ d → noct d (lcd l) = l
  | [], 0, _, _ => rfl
  | [], d + 1, _, _ => rfl
  | x :: l, 0, _, h => absurd h (Nat.not_succ_le_zero _)
  | x :: l, d + 1, h, hd => by
    obtain ⟨h1, h2⟩ := aln_cons.mp h
    obtain ⟨c1, c2, c3, c4⟩ := cdo_ok h1
    have ih := noct_lcd l d h2 (Nat.le_of_succ_le_succ hd)
    have e0 : lcd (x :: l) = cdo x + 37 * lcd l := rfl
    have e1 : lcd (x :: l) % 37 = cdo x := by omega
    have e2 : lcd (x :: l) / 37 = lcd l := by omega
    unfold noct
    rw [if_neg (by omega), e1, e2, ih, c4]
theorem lcd_inj {l m : List Int32} (h1 : aln l) (h2 : aln m) (h3 : l.length ≤ 12) (h4 : m.length ≤ 12) (e : lcd l = lcd m) : l = m := by
  rw [← noct_lcd l 12 h1 h3, e, noct_lcd m 12 h2 h4]
theorem lcd_pos {l : List Int32} (h : aln l) (hn : l ≠ []) : 0 < lcd l := by
  cases l with
  | nil => exact absurd rfl hn
  | cons x l =>
    have := (cdo_ok (aln_cons.mp h).1).2.1
    show 0 < cdo x + 37 * lcd l
    omega
theorem noR_lcd {l : List Int32} (h : aln l) (hl : l.length ≤ 12) (hn : l ≠ []) : noR (Int64.ofNat (lcd l)) = l := by
  have hb := lcd_big h hl
  have hp := lcd_pos h hn
  unfold noR
  rw [if_pos (by rw [l_lt0 hb]; exact hp), Int64.toNatClampNeg_ofNat_of_lt hb]
  exact noct_lcd l 12 h hl
theorem lal_ge {f : Nat → Int32} {len : Nat} : ∀ d p : Nat, p ≤ lal f len d p
  | 0, p => Nat.le_refl _
  | d + 1, p => by
    unfold lal
    cases waln (toc f len p)
    · exact Nat.le_refl _
    · have := lal_ge (f := f) (len := len) d (p + 1)
      rw [cond_true]
      omega
/-- what the scanner counts up is the code of the letters -/
theorem lnm_lcd {f : Nat → Int32} {len : Nat} (hO : fOct f len) : ∀ (d p Y g : Nat), lnm f len d p (Int64.ofNat Y) (Int64.ofNat g) = (Int64.ofNat (Y + g * lcd (cpy f (lal f len d p - p) p)), lal f len d p)
  | 0, p, Y, g => by
    show (Int64.ofNat Y, p) = (Int64.ofNat (Y + g * lcd (cpy f (p - p) p)), p)
    rw [Nat.sub_self]
    rfl
  | d + 1, p, Y, g => by
    unfold lnm lal
    by_cases c : Int32.ofNat 0 < wcode (toc f len p)
    · have ca := (aln_iff hO).mp c
      have hp : p < len := by
        apply Classical.byContradiction
        intro q
        rw [(toc_out q).1] at c
        exact absurd c (by decide)
      have et : toc f len p = f p := if_pos hp
      obtain ⟨c1, c2, c3, c4⟩ := cdo_ok ca
      have ih := lnm_lcd hO d (p + 1) (Y + cdo (toc f len p) * g) (g * 37)
      have hg := lal_ge (f := f) (len := len) d (p + 1)
      rw [if_pos c, ca, cond_true, c1, i_2l (by omega), l_mul, l_add]
      have e37 : Int64.ofNat g * 37 = Int64.ofNat (g * 37) := l_mul
      rw [e37, ih]
      congr 2
      have e : lal f len d (p + 1) - p = (lal f len d (p + 1) - (p + 1)) + 1 := by omega
      rw [e]
      show Y + cdo (toc f len p) * g + g * 37 * lcd (cpy f (lal f len d (p + 1) - (p + 1)) (p + 1)) = Y + g * (cdo (f p) + 37 * lcd (cpy f (lal f len d (p + 1) - (p + 1)) (p + 1)))
      rw [et, Nat.mul_add, Nat.mul_comm (cdo (f p)) g, Nat.mul_assoc, Nat.add_assoc]
    · rw [if_neg c]
      cases e : waln (toc f len p)
      · rw [cond_false, Nat.sub_self]
        rfl
      · exact absurd ((aln_iff hO).mpr e) c
theorem cpy_aln {f : Nat → Int32} : ∀ d p : Nat, (∀ i : Nat, p ≤ i → i < p + d → waln (f i) = true) → aln (cpy f d p)
  | 0, _, _ => rfl
  | d + 1, p, h => aln_cons.mpr ⟨h p (Nat.le_refl _) (by omega), cpy_aln d (p + 1) fun i h1 h2 => h i (by omega) (by omega)⟩
theorem cpy_get {f : Nat → Int32} : ∀ d p k : Nat, k < d → (cpy f d p).getD k 0 = f (p + k)
  | 0, _, _, h => absurd h (Nat.not_lt_zero _)
  | d + 1, p, 0, _ => rfl
  | d + 1, p, k + 1, h => by
    show (cpy f d (p + 1)).getD k 0 = f (p + (k + 1))
    rw [cpy_get d (p + 1) k (by omega)]
    congr 1
    omega
def wds : List (List Nat) := [[117, 110, 105, 116], [116, 121, 112, 101], [105, 110, 116, 101, 114, 102, 97, 99, 101], [100, 97, 116, 97], [112, 97, 114, 116], [112, 114, 111, 118, 105, 100, 101, 115], [114, 101, 113, 117, 105, 114, 101, 115], [107, 101, 101, 112, 115], [114, 117, 110], [101, 118, 101, 114, 121], [111, 110], [114, 101, 97, 100, 115], [119, 114, 105, 116, 101, 115], [119, 104, 111, 108, 101], [99, 111, 110, 110, 101, 99, 116], [116, 111]]
/-- a word's octets, by its place -/
def Wd (i : Nat) : List Int32 := (wds.getD i []).map Int32.ofNat
theorem k_Wd : ∀ i : Nat, i < 16 → (Wd i).all waln = true ∧ (Wd i).length ≤ 12 ∧ 2 ≤ (Wd i).length ∧ Wd i ≠ [] := by decide +kernel
theorem Wd_aln {i : Nat} (h : i < 16) : aln (Wd i) := (k_Wd i h).1
def wfx (l : List Int32) : Nat → Nat → Nat
  | 0, _ => 0
  | d + 1, i => if Wd i = l then i + 1 else wfx l d (i + 1)
/-- a word's place and 1, or 0 -/
def wix (l : List Int32) : Nat := wfx l 16 0
theorem wfx_spec {l : List Int32} : ∀ d i : Nat, wfx l d i = 0 ∧ (∀ j : Nat, i ≤ j → j < i + d → Wd j ≠ l) ∨ ∃ j : Nat, i ≤ j ∧ j < i + d ∧ wfx l d i = j + 1 ∧ Wd j = l
  | 0, i => Or.inl ⟨rfl, fun j h1 h2 => by omega⟩
  | d + 1, i => by
    unfold wfx
    by_cases c : Wd i = l
    · rw [if_pos c]
      exact Or.inr ⟨i, Nat.le_refl _, by omega, rfl, c⟩
    · rw [if_neg c]
      rcases wfx_spec (l := l) d (i + 1) with ⟨h1, h2⟩ | ⟨j, h1, h2, h3, h4⟩
      · refine Or.inl ⟨h1, fun j h3 h4 => ?_⟩
        by_cases e : j = i
        · rw [e]; exact c
        · exact h2 j (by omega) (by omega)
      · exact Or.inr ⟨j, by omega, by omega, h3, h4⟩
theorem wix_spec (l : List Int32) : wix l = 0 ∧ (∀ j : Nat, j < 16 → Wd j ≠ l) ∨ ∃ j : Nat, j < 16 ∧ wix l = j + 1 ∧ Wd j = l := by
  rcases wfx_spec (l := l) 16 0 with ⟨h1, h2⟩ | ⟨j, h1, h2, h3, h4⟩
  · exact Or.inl ⟨h1, fun j h => h2 j (Nat.zero_le _) (by omega)⟩
  · exact Or.inr ⟨j, by omega, h3, h4⟩
/-- the codes of the words -/
def wnOk (wn : Nat → Int64) : Prop := ∀ i : Nat, i < 16 → wn i = Int64.ofNat (lcd (Wd i))
theorem wbl_wfx {wn : Nat → Int64} (hw : wnOk wn) {l : List Int32} (h1 : aln l) (h2 : l.length ≤ 12) : ∀ d i : Nat, i + d ≤ 16 → wbl wn (Int64.ofNat (lcd l)) d i = if wfx l d i = 0 then Int32.ofNat 0 else Int32.ofNat (2 ^ (wfx l d i - 1))
  | 0, i, h => rfl
  | d + 1, i, h => by
    have k := k_Wd i (by omega)
    unfold wbl wfx
    rw [hw i (by omega)]
    by_cases c : Wd i = l
    · rw [if_pos (by rw [c]), if_pos c, if_neg (by omega)]
      rfl
    · rw [if_neg (by rw [l_eq (lcd_big (Wd_aln (by omega)) k.2.1) (lcd_big h1 h2)]; exact fun e => c (lcd_inj (Wd_aln (by omega)) h1 k.2.1 h2 e)), if_neg c]
      exact wbl_wfx hw h1 h2 d (i + 1) (by omega)
theorem wbit_wix {wn : Nat → Int64} (hw : wnOk wn) {l : List Int32} (h1 : aln l) (h2 : l.length ≤ 12) : wbit wn (Int64.ofNat (lcd l)) = if wix l = 0 then Int32.ofNat 0 else Int32.ofNat (2 ^ (wix l - 1)) := wbl_wfx hw h1 h2 16 0 (by omega)
theorem k_pow : ∀ j : Nat, j < 16 → ∀ i : Nat, i < 16 → (Int32.ofNat (2 ^ i) = Int32.ofNat (2 ^ j) ↔ i = j) := by decide +kernel
theorem wnl_at {wn : Nat → Int64} {j : Nat} (hj : j < 16) : ∀ d i : Nat, i + d = 16 → i ≤ j → wnl wn (Int32.ofNat (2 ^ j)) d i = wn j
  | 0, i, h1, h2 => by omega
  | d + 1, i, h1, h2 => by
    unfold wnl
    by_cases c : i = j
    · rw [if_pos (by rw [c]), c]
    · rw [if_neg (fun e => c ((k_pow j hj i (by omega)).mp e))]
      exact wnl_at hj d (i + 1) (by omega) (by omega)
theorem wname_at {wn : Nat → Int64} {j : Nat} (hj : j < 16) : wname wn (Int32.ofNat (2 ^ j)) = wn j := wnl_at hj 16 0 (by omega) (Nat.zero_le _)
