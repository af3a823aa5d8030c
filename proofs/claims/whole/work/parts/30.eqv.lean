/-! ONE EDITION, TWO PICTURES: the same answers -/
theorem jcnt_congr {P Q : Nat → Bool} : ∀ n : Nat, (∀ r, 1 ≤ r → r ≤ n → P r = Q r) → jcnt P n = jcnt Q n
  | 0, _ => rfl
  | n + 1, h => by
    unfold jcnt
    rw [jcnt_congr n (fun r h1 h2 => h r h1 (by omega)), h (n + 1) (by omega) (by omega)]
theorem jfst_congr {P Q : Nat → Bool} : ∀ d j : Nat, (∀ r, j < r → r ≤ j + d → P r = Q r) → jfst P d j = jfst Q d j
  | 0, _, _ => rfl
  | d + 1, j, h => by
    unfold jfst
    rw [h (j + 1) (by omega) (by omega), jfst_congr d (j + 1) (fun r h1 h2 => h r (by omega) (by omega))]
theorem jany_congr {P Q : Nat → Bool} : ∀ d j : Nat, (∀ r, j < r → r ≤ j + d → P r = Q r) → jany P d j = jany Q d j
  | 0, _, _ => rfl
  | d + 1, j, h => by
    unfold jany
    rw [h (j + 1) (by omega) (by omega), jany_congr d (j + 1) (fun r h1 h2 => h r (by omega) (by omega))]
theorem jfst_spec {P : Nat → Bool} : ∀ d j : Nat, jfst P d j ≠ 0 → P (jfst P d j) = true ∧ j < jfst P d j ∧ jfst P d j ≤ j + d
  | 0, _, h => absurd rfl h
  | d + 1, j, h => by
    unfold jfst at h ⊢
    cases c : P (j + 1)
    · rw [c, cond_false] at h
      rw [cond_false]
      have := jfst_spec d (j + 1) h
      exact ⟨this.1, by omega, by omega⟩
    · rw [cond_true]
      exact ⟨c, by omega, by omega⟩
/-- a kind's bit, by its number -/
def kb : Nat → Nat
  | 1 => 1
  | 2 => 2
  | 3 => 4
  | 4 => 16
  | 5 => 8192
  | 6 => 8
  | 7 => 32
  | 8 => 64
  | 9 => 128
  | 10 => 256
  | 11 => 65536
  | 12 => 16384
  | _ => 131072
/-- a sort's bits, by its number -/
def sm : Nat → Nat
  | 0 => 1
  | 1 => 2
  | 2 => 4
  | 3 => 8208
  | 4 => 96
  | 5 => 256
  | 6 => 128
  | 7 => 65536
  | 8 => 16384
  | _ => 8
theorem k_sort : ∀ k : Nat, k < 14 → 1 ≤ k → ∀ s : Nat, s < 10 → (!decide (Int32.ofNat (kb k) &&& Int32.ofNat (sm s) = Int32.ofNat 0)) = zsrt (Int32.ofNat k) s := by decide +kernel
/-- what a run's row says, in both pictures: token 2 on; its uses from token k on, four tokens each -/
def jRun (X : jX) (Y : jY) (r : Nat) : Prop :=
  ∃ k0 : Nat, (vTr Y r = Int32.ofNat 1 ∧ k0 = 4 ∧ xword X r 2 = Int32.ofNat 512 ∧ vLo Y r = xval X r 3 ∨ vTr Y r = Int32.ofNat 2 ∧ k0 = 2 ∧ 1 ≤ vAM Y r ∧ vAK Y (vAA Y r) = Int32.ofNat 0 ∨ vTr Y r = Int32.ofNat 0 ∧ k0 = 2) ∧ xlen X r = k0 + 4 * vAM Y r + 1 ∧ xword X r (k0 + 4 * vAM Y r) = Int32.ofNat 0 ∧
  ∀ j : Nat, j < vAM Y r → vAP Y (vAA Y r + j) = xval X r (k0 + 4 * j + 1) ∧ vAD Y (vAA Y r + j) = xval X r (k0 + 4 * j + 3) ∧ xword X r (k0 + 4 * j + 1) = Int32.ofNat 0 ∧ xword X r (k0 + 4 * j + 2) = Int32.ofNat 0 ∧ xword X r (k0 + 4 * j + 3) = Int32.ofNat 0 ∧ (j = 0 ∧ vTr Y r = Int32.ofNat 2 ∧ xword X r (k0 + 4 * j) = Int32.ofNat 1024 ∧ vAK Y (vAA Y r + j) = Int32.ofNat 0 ∨ ¬ (j = 0 ∧ vTr Y r = Int32.ofNat 2) ∧ (xword X r (k0 + 4 * j) = Int32.ofNat 2048 ∧ vAK Y (vAA Y r + j) = Int32.ofNat 1 ∨ xword X r (k0 + 4 * j) = Int32.ofNat 4096 ∧ vAK Y (vAA Y r + j) = Int32.ofNat 2))
def jRow (X : jX) (Y : jY) (r k : Nat) : Prop :=
  (k < 12 → vGi Y r = xval X r 1 ∧ vGi Y r ≠ Int32.ofNat 0) ∧ (12 ≤ k → vGi Y r = Int32.ofNat 0) ∧ (k ≤ 2 → vLo Y r = xval X r 3 ∧ vHi Y r = xval X r 5 ∧ vSe Y r = xval X r 6) ∧ (k = 6 ∨ k = 7 ∨ k = 8 ∨ k = 9 ∨ k = 11 → vSe Y r = xval X r 3) ∧ (k = 12 → vSe Y r = xval X r 1 ∧ vTh Y r = xval X r 3 ∧ vFo Y r = xval X r 5 ∧ vFi Y r = xval X r 7) ∧ (k = 10 → jRun X Y r)
def jXY (X : jX) (Y : jY) : Prop := xRc X = vN Y ∧ ∀ r : Nat, 1 ≤ r → r ≤ vN Y → ∃ k : Nat, 1 ≤ k ∧ k < 14 ∧ xKi X r = Int32.ofNat (kb k) ∧ vK Y r = Int32.ofNat k ∧ xBl X r = vB Y r ∧ jRow X Y r k
theorem n_neg {q : Nat} (h : q < 2147483648) : (Int32.ofNat q = -(Int32.ofNat 1)) = False := by
  refine eq_false fun e => ?_
  have e2 := congrArg Int32.toInt e
  rw [i_to h, show (-(Int32.ofNat 1)).toInt = -1 by decide] at e2
  omega
theorem xfit_eq {X : jX} {Y : jY} (hXY : jXY X Y) (hW : xWF X) {s q r : Nat} (hs : s < 10) (h8 : s ≠ 8) (hq : q ≤ 120) (h1 : 1 ≤ r) (h2 : r ≤ vN Y) : xfit X (Int32.ofNat (sm s)) (Int32.ofNat q) r = zP Y s q r := by
  obtain ⟨k, k1, k2, k3, k4, k5, -⟩ := hXY.2 r h1 h2
  have h3 := hW.1
  have h4 := hW.2.2.2 r h1 (by rw [hXY.1]; exact h2)
  have h5 := hXY.1
  unfold xfit zP
  rw [k3, k4, k_sort k k2 k1 s hs, decide_eq_false h8, Bool.false_or, decide_eq_false (by rw [n_neg (by omega)]; exact not_false), Bool.false_or, k5]
  congr 1
  have e : (Int32.ofNat (vB Y r) = Int32.ofNat q) = (vB Y r = q) := i_eq (by omega) (by omega)
  simp only [e]
theorem xfit_8 {X : jX} {Y : jY} (hXY : jXY X Y) {q r : Nat} (h1 : 1 ≤ r) (h2 : r ≤ vN Y) : xfit X (Int32.ofNat 16384) (-(Int32.ofNat 1)) r = zP Y 8 q r := by
  obtain ⟨k, k1, k2, k3, k4, k5, -⟩ := hXY.2 r h1 h2
  unfold xfit zP
  have e := k_sort k k2 k1 8 (by decide)
  rw [k3, k4, decide_eq_true rfl, decide_eq_true rfl, Bool.true_or, Bool.true_or, Bool.and_true, Bool.and_true]
  exact e
theorem cnt_eq {X : jX} {Y : jY} (hXY : jXY X Y) (hW : xWF X) {s q : Nat} (hs : s < 10) (h8 : s ≠ 8) (hq : q ≤ 120) (n : Nat) (hn : n ≤ vN Y) : jcnt (xfit X (Int32.ofNat (sm s)) (Int32.ofNat q)) n = jcnt (zP Y s q) n := jcnt_congr n fun r h1 h2 => xfit_eq hXY hW hs h8 hq h1 (by omega)
theorem nth_eq {X : jX} {Y : jY} (hXY : jXY X Y) (hW : xWF X) {s q : Nat} {i : Int32} (hs : s < 10) (h8 : s ≠ 8) (hq : q ≤ 120) : xnth X (Int32.ofNat (sm s)) (Int32.ofNat q) i = znth Y s q i := by
  unfold xnth znth
  rw [hXY.1]
  refine jfst_congr _ _ fun r h1 h2 => ?_
  unfold zQ
  rw [xfit_eq hXY hW hs h8 hq (by omega) (by omega), cnt_eq hXY hW hs h8 hq r (by omega)]
theorem nth_eq8 {X : jX} {Y : jY} (hXY : jXY X Y) {i : Int32} {q : Nat} : xnth X (Int32.ofNat 16384) (-(Int32.ofNat 1)) i = znth Y 8 q i := by
  unfold xnth znth
  rw [hXY.1]
  refine jfst_congr _ _ fun r h1 h2 => ?_
  unfold zQ
  rw [xfit_8 hXY (q := q) (by omega) (by omega), jcnt_congr r fun r' h3 h4 => xfit_8 hXY (q := q) h3 (by omega)]
theorem given_eq {X : jX} {Y : jY} (hXY : jXY X Y) {s r : Nat} (hs : s < 10) (h8 : s ≠ 8) (h1 : 1 ≤ r) (h2 : r ≤ vN Y) (h3 : zsrt (vK Y r) s = true) : vGi Y r = xval X r 1 := by
  obtain ⟨k, k1, k2, k3, k4, k5, k6⟩ := hXY.2 r h1 h2
  have : ∀ k : Nat, k < 14 → ∀ s : Nat, s < 10 → s ≠ 8 → zsrt (Int32.ofNat k) s = true → k < 12 := by decide +kernel
  rw [k4] at h3
  exact (k6.1 (this k k2 s hs h8 h3)).1
theorem meant_eq {X : jX} {Y : jY} (hXY : jXY X Y) (hW : xWF X) {s q : Nat} {name : Int32} (hs : s < 10) (h8 : s ≠ 8) (hq : q ≤ 120) : xmeant X (Int32.ofNat (sm s)) (Int32.ofNat q) name = zme Y s q name := by
  unfold xmeant zme
  rw [hXY.1]
  refine jfst_congr _ _ fun r h1 h2 => ?_
  rw [xfit_eq hXY hW hs h8 hq (by omega) (by omega)]
  unfold zP
  cases c : zsrt (vK Y r) s
  · rfl
  · rw [given_eq hXY hs h8 (by omega) (by omega) c, decide_eq_false h8, Bool.false_or, Bool.true_and, Bool.true_and]
/-- what each row means, once all rows are there -/
def xres (X : jX) (r : Nat) : Nat := if xKi X r = Int32.ofNat 2 then xmeant X (Int32.ofNat 1) (Int32.ofNat 0) (xval X r 6) else if xKi X r = Int32.ofNat 8 ∨ xKi X r = Int32.ofNat 128 then xmeant X (Int32.ofNat 2) (Int32.ofNat 0) (xval X r 3) else if xKi X r &&& Int32.ofNat 96 = Int32.ofNat 0 then (if xKi X r = Int32.ofNat 65536 then xmeant X (Int32.ofNat 8208) (Int32.ofNat 0) (xval X r 3) else 0) else xmeant X (Int32.ofNat 4) (Int32.ofNat 0) (xval X r 3)
def xRes (X : jX) : Prop := ∀ r : Nat, 1 ≤ r → r ≤ xRc X → xTa X r = xres X r
def zres (Y : jY) (r : Nat) : Nat := if vK Y r = Int32.ofNat 2 then zme Y 0 0 (vSe Y r) else if vK Y r = Int32.ofNat 6 ∨ vK Y r = Int32.ofNat 9 then zme Y 1 0 (vSe Y r) else if vK Y r = Int32.ofNat 7 ∨ vK Y r = Int32.ofNat 8 then zme Y 2 0 (vSe Y r) else if vK Y r = Int32.ofNat 11 then zme Y 3 0 (vSe Y r) else 0
theorem res_eq {X : jX} {Y : jY} (hXY : jXY X Y) (hW : xWF X) {r : Nat} (h1 : 1 ≤ r) (h2 : r ≤ vN Y) : xres X r = zres Y r := by
  obtain ⟨k, k1, k2, k3, k4, k5, k6⟩ := hXY.2 r h1 h2
  unfold xres zres
  rw [k3, k4]
  have e0 := fun name => meant_eq hXY hW (s := 0) (q := 0) (name := name) (by decide) (by decide) (by decide)
  have e1 := fun name => meant_eq hXY hW (s := 1) (q := 0) (name := name) (by decide) (by decide) (by decide)
  have e2 := fun name => meant_eq hXY hW (s := 2) (q := 0) (name := name) (by decide) (by decide) (by decide)
  have e3 := fun name => meant_eq hXY hW (s := 3) (q := 0) (name := name) (by decide) (by decide) (by decide)
  simp only [sm] at e0 e1 e2 e3
  rw [e0, e1, e2, e3]
  obtain ⟨r1, r2, r3, r4, r5, r6⟩ := k6
  match k, k1, k2 with
  | 1, _, _ => rfl
  | 2, _, _ => rw [if_pos (by decide), if_pos (by decide), (r3 (by decide)).2.2]
  | 3, _, _ => rfl
  | 4, _, _ => rfl
  | 5, _, _ => rfl
  | 6, _, _ => rw [if_neg (by decide), if_pos (by decide), if_neg (by decide), if_pos (by decide), r4 (by decide)]
  | 7, _, _ => rw [if_neg (by decide), if_neg (by decide), if_neg (by decide), if_neg (by decide), if_neg (by decide), if_pos (by decide), r4 (by decide)]
  | 8, _, _ => rw [if_neg (by decide), if_neg (by decide), if_neg (by decide), if_neg (by decide), if_neg (by decide), if_pos (by decide), r4 (by decide)]
  | 9, _, _ => rw [if_neg (by decide), if_pos (by decide), if_neg (by decide), if_pos (by decide), r4 (by decide)]
  | 10, _, _ => rfl
  | 11, _, _ => rw [if_neg (by decide), if_neg (by decide), if_pos (by decide), if_pos (by decide), if_neg (by decide), if_neg (by decide), if_neg (by decide), if_pos (by decide), r4 (by decide)]
  | 12, _, _ => rfl
  | 13, _, _ => rfl
  | k + 14, _, q => exact absurd q (by omega)
theorem tar_eq {X : jX} {Y : jY} (hXY : jXY X Y) (hW : xWF X) (hS : xRes X) {r : Nat} (h1 : 1 ≤ r) (h2 : r ≤ vN Y) : xtar X r = zres Y r := by
  have e := hXY.1
  unfold xtar
  rw [if_neg (by omega), hS r h1 (by omega), res_eq hXY hW h1 h2]
theorem val_kind {X : jX} {Y : jY} (hXY : jXY X Y) {r : Nat} (h1 : 1 ≤ r) (h2 : r ≤ vN Y) : ∃ k : Nat, 1 ≤ k ∧ k < 14 ∧ xkind X r = Int32.ofNat (kb k) ∧ vK Y r = Int32.ofNat k ∧ xblock X r = vB Y r ∧ jRow X Y r k := by
  obtain ⟨k, k1, k2, k3, k4, k5, k6⟩ := hXY.2 r h1 h2
  have e := hXY.1
  refine ⟨k, k1, k2, ?_, k4, ?_, k6⟩
  · unfold xkind; rw [if_neg (by omega)]; exact k3
  · unfold xblock; rw [if_neg (by omega)]; exact k5
theorem block_eq {X : jX} {Y : jY} (hXY : jXY X Y) {r : Nat} (h1 : 1 ≤ r) (h2 : r ≤ vN Y) : xblock X r = vB Y r := by
  obtain ⟨k, -, -, -, -, e, -⟩ := val_kind hXY h1 h2
  exact e
/-- a kind asked for in both pictures -/
theorem kind_iff {X : jX} {Y : jY} (hXY : jXY X Y) {r : Nat} (h1 : 1 ≤ r) (h2 : r ≤ vN Y) (c : Nat) (hc : 1 ≤ c) (hc2 : c < 14) : (xkind X r = Int32.ofNat (kb c)) = (vK Y r = Int32.ofNat c) := by
  obtain ⟨k, k1, k2, k3, k4, -, -⟩ := val_kind hXY h1 h2
  rw [k3, k4]
  have : ∀ k : Nat, k < 14 → 1 ≤ k → ∀ c : Nat, c < 14 → 1 ≤ c → (Int32.ofNat (kb k) = Int32.ofNat (kb c) ↔ Int32.ofNat k = Int32.ofNat c) := by decide +kernel
  exact propext (this k k2 k1 c hc2 hc)
theorem nth_spec {Y : jY} {s q : Nat} {i : Int32} (h : znth Y s q i ≠ 0) : zP Y s q (znth Y s q i) = true ∧ 1 ≤ znth Y s q i ∧ znth Y s q i ≤ vN Y := by
  have := jfst_spec (P := zQ (zP Y s q) i) (vN Y) 0 h
  refine ⟨?_, by omega, by have := this.2.2; unfold znth; omega⟩
  have h3 := this.1
  unfold zQ at h3
  rw [Bool.and_eq_true] at h3
  exact h3.1
theorem me_spec {Y : jY} {s q : Nat} {name : Int32} (h : zme Y s q name ≠ 0) : zsrt (vK Y (zme Y s q name)) s = true ∧ vB Y (zme Y s q name) = q ∧ vGi Y (zme Y s q name) = name ∧ 1 ≤ zme Y s q name ∧ zme Y s q name ≤ vN Y := by
  have := jfst_spec (P := fun r => zsrt (vK Y r) s && (decide (vB Y r = q) && decide (vGi Y r = name))) (vN Y) 0 h
  obtain ⟨h1, h2, h3⟩ := this
  rw [Bool.and_eq_true, Bool.and_eq_true] at h1
  refine ⟨h1.1, of_decide_eq_true h1.2.1, of_decide_eq_true h1.2.2, by unfold zme; omega, by unfold zme; omega⟩
theorem num_eq {X : jX} {Y : jY} (hXY : jXY X Y) (hW : xWF X) {s q t : Nat} (hs : s < 10) (h8 : s ≠ 8) (hq : q ≤ 120) (ht : t ≤ vN Y) (hb : t ≠ 0 → vB Y t = q) : xnum X (Int32.ofNat (sm s)) (Int32.ofNat q) t = zix Y s t := by
  unfold xnum zix
  rw [hXY.1, Nat.min_eq_left ht, cnt_eq hXY hW hs h8 hq t ht]
  by_cases c : t = 0
  · rw [c]; rfl
  · refine jcnt_congr t fun r h1 h2 => ?_
    unfold zP zI
    rw [hb c, decide_eq_false h8, Bool.false_or]
theorem part_eq {X : jX} {Y : jY} (hXY : jXY X Y) (hW : xWF X) {i what : Int32} : qpart X i what = zpart Y i what := by
  have h1 := hW.1
  have h2 := hXY.1
  have e3 := nth_eq hXY hW (s := 3) (q := 0) (i := i) (by decide) (by decide) (by decide)
  have h3 := znth_le (Y := Y) (s := 3) (q := 0) (i := i)
  have h4 := nth_spec (Y := Y) (s := 3) (q := 0) (i := i)
  simp only [sm] at e3
  unfold qpart zpart
  rw [e3]
  generalize znth Y 3 0 i = p at *
  by_cases c : p = 0
  · rw [if_pos c, if_pos c]; exact jmz
  obtain ⟨h5, h6, h7⟩ := h4 c
  have h5' : zsrt (vK Y p) 3 = true := by unfold zP at h5; rw [Bool.and_eq_true] at h5; exact h5.1
  have e4 := cnt_eq hXY hW (s := 4) (q := p) (by decide) (by decide) (by omega) (vN Y) (Nat.le_refl _)
  have e5 := cnt_eq hXY hW (s := 5) (q := p) (by decide) (by decide) (by omega) (vN Y) (Nat.le_refl _)
  have e6 := cnt_eq hXY hW (s := 6) (q := p) (by decide) (by decide) (by omega) (vN Y) (Nat.le_refl _)
  have e7 := cnt_eq hXY hW (s := 7) (q := p) (by decide) (by decide) (by omega) (vN Y) (Nat.le_refl _)
  simp only [sm] at e4 e5 e6 e7
  have e8 := kind_iff hXY h6 h7 5 (by decide) (by decide)
  simp only [kb] at e8
  rw [if_neg c, if_neg c, h2, e4, e5, e6, e7, given_eq hXY (s := 3) (by decide) (by decide) h6 h7 h5']
  simp only [e8]
