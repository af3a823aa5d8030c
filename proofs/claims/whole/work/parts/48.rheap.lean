/-! THE REFERENCE AS A WHOLE: its numbers by their fields, its arrays by their places -/
def rfs (b : Nat) (S : Nat → Int32) : List Value := [.int (S 0), .ref (b + 1), .int (S 2), .int (S 3), .int (S 4), .int (S 5), .int (S 6), .int (S 7), .int (S 8), .ref (b + 2), .ref (b + 3), .int (S 11), .ref (b + 4), .ref (b + 5), .ref (b + 6), .ref (b + 7), .ref (b + 8), .ref (b + 9), .ref (b + 10), .ref (b + 11), .ref (b + 12), .ref (b + 13), .ref (b + 14), .ref (b + 15), .int (S 24), .ref (b + 16), .ref (b + 17), .ref (b + 18), .int (S 28), .ref (b + 19), .ref (b + 20), .int (S 31), .int (S 32), .int (S 33), .ref (b + 21), .ref (b + 22), .ref (b + 23), .ref (b + 24), .ref (b + 25), .ref (b + 26), .ref (b + 27), .ref (b + 28), .ref (b + 29), .ref (b + 30), .ref (b + 31), .ref (b + 32), .ref (b + 33), .ref (b + 34), .ref (b + 35), .ref (b + 36), .ref (b + 37), .int (S 51), .ref (b + 38), .ref (b + 39), .ref (b + 40), .ref (b + 41), .ref (b + 42)]
def rsz : Nat → Nat
  | 1 => 2000
  | 2 => 1001
  | 3 => 12012
  | 4 => 120
  | 5 => 120
  | 6 => 120
  | 7 => 120
  | 8 => 120
  | 9 => 120
  | 10 => 120
  | 11 => 120
  | 12 => 120
  | 13 => 120
  | 14 => 120
  | 15 => 120
  | 16 => 600
  | 17 => 600
  | 18 => 600
  | 19 => 6000
  | 20 => 121
  | 21 => 120
  | 22 => 120
  | 23 => 120
  | 24 => 120
  | 25 => 120
  | 26 => 120
  | 27 => 120
  | 28 => 120
  | 29 => 120
  | 30 => 120
  | 31 => 120
  | 32 => 120
  | 33 => 600
  | 34 => 600
  | 35 => 600
  | 36 => 6000
  | 37 => 121
  | 38 => 8
  | 39 => 960
  | 40 => 968
  | 41 => 48000
  | 42 => 120
  | _ => 0
def rty : Nat → Nat
  | 42 => 3
  | _ => 0
def upA (A : Nat → Nat → Int32) (k : Nat) (g : Nat → Int32) : Nat → Nat → Int32 := fun j => if j = k then g else A j
def rcl (b : Nat) (A : Nat → Nat → Int32) (k : Nat) : jx_C := .inr (rty k, rsz k, .inl (A k))
def hR (h : jx_H) (b : Nat) (S : Nat → Int32) (A : Nat → Nat → Int32) : jx_H := (h.1, h.2.1, fun q => if q = b then some (.inl (8, rfs b S)) else if b < q ∧ q ≤ b + 42 then some (rcl b A (q - b)) else h.2.2 q)
section JHR
variable {h : jx_H} {b i k q : Nat} {S S' : Nat → Int32} {A : Nat → Nat → Int32} {g : Nat → Int32} {x : Int32} {l : List Value}
theorem hR_b : (hR h b S A).2.2 b = some (.inl (8, rfs b S)) := if_pos rfl
theorem hR_k (h1 : 1 ≤ k) (h2 : k ≤ 42) : (hR h b S A).2.2 (b + k) = some (.inr (rty k, rsz k, .inl (A k))) := by
  show (if b + k = b then _ else if b < b + k ∧ b + k ≤ b + 42 then some (rcl b A (b + k - b)) else h.2.2 (b + k)) = _
  rw [if_neg (by omega), if_pos (by omega), Nat.add_sub_cancel_left]
  rfl
theorem hR_ne (h1 : q < b ∨ b + 42 < q) : (hR h b S A).2.2 q = h.2.2 q := by
  show (if q = b then _ else if b < q ∧ q ≤ b + 42 then _ else h.2.2 q) = _
  rw [if_neg (by omega), if_neg (by omega)]
theorem hR_hs : hs (hR h b S A) b (.inl (8, rfs b S')) = hR h b S' A := by
  unfold hs hR
  congr 2
  funext q
  show (if q = b then _ else if q = b then _ else _) = (if q = b then _ else _)
  by_cases e : q = b
  · rw [if_pos e, if_pos e]
  · rw [if_neg e, if_neg e, if_neg e]
theorem hR_ha (h1 : 1 ≤ k) (h2 : k ≤ 42) : hs (hR h b S A) (b + k) (.inr (rty k, rsz k, .inl g)) = hR h b S (upA A k g) := by
  unfold hs hR
  congr 2
  funext q
  show (if q = b + k then _ else if q = b then _ else if b < q ∧ q ≤ b + 42 then some (rcl b A (q - b)) else h.2.2 q) = (if q = b then _ else if b < q ∧ q ≤ b + 42 then some (rcl b (upA A k g) (q - b)) else h.2.2 q)
  by_cases e : q = b + k
  · rw [if_pos e, if_neg (by omega), if_pos (by omega)]
    unfold rcl upA
    rw [if_pos (by omega), show q - b = k by omega]
  · rw [if_neg e]
    by_cases e2 : q = b
    · rw [if_pos e2, if_pos e2]
    · rw [if_neg e2, if_neg e2]
      by_cases e3 : b < q ∧ q ≤ b + 42
      · rw [if_pos e3, if_pos e3]
        unfold rcl upA
        rw [if_neg (by omega)]
      · rw [if_neg e3, if_neg e3]
theorem rr_v : jx_recv (hR h b S A) (.ref b :: l) (some 8) = true := c_rv hR_b
theorem rg_size : jx_fI (hR h b S A) b 8 0 = some (S 0) := c_fI hR_b rfl
theorem rg_size_b  {β_ : Type} {f_ : Int32 → Option β_} : (jx_fI (hR h b S A) b 8 0).bind f_ = f_ ((S 0)) := bnd (rg_size )
theorem rp_size : jx_put (hR h b S A) b 8 0 (.int x) = some (hR h b (upd S 0 x) A) := (c_put hR_b (Nat.le_of_ble_eq_true rfl)).trans (congrArg some (hR_hs (S' := upd S 0 x)))
theorem rp_size_b  {β_ : Type} {f_ : jx_H → Option β_} : (jx_put (hR h b S A) b 8 0 (.int x)).bind f_ = f_ ((hR h b (upd S 0 x) A)) := bnd (rp_size )
theorem ra_text : jx_fA (hR h b S A) b 8 1 = some (b + 1) := c_fA hR_b rfl
theorem ra_text_b  {β_ : Type} {f_ : Nat → Option β_} : (jx_fA (hR h b S A) b 8 1).bind f_ = f_ ((b + 1)) := bnd (ra_text )
theorem rl_text (hi : i < 2000) : jx_aI (hR h b S A) 0 (b + 1) (Int32.ofNat i) = some (A 1 i) := c_aI (hR_k (k := 1) (by decide) (by decide)) (by decide) hi
theorem rl_text_b (hi : i < 2000) {β_ : Type} {f_ : Int32 → Option β_} : (jx_aI (hR h b S A) 0 (b + 1) (Int32.ofNat i)).bind f_ = f_ ((A 1 i)) := bnd (rl_text hi)
theorem rs_text (hi : i < 2000) : jx_sI (hR h b S A) 0 (b + 1) (Int32.ofNat i) x = some (hR h b S (upA A 1 (upd (A 1) i x))) := (c_sI (hR_k (k := 1) (by decide) (by decide)) (by decide) hi).trans (congrArg some (hR_ha (by decide) (by decide)))
theorem rs_text_b (hi : i < 2000) {β_ : Type} {f_ : jx_H → Option β_} : (jx_sI (hR h b S A) 0 (b + 1) (Int32.ofNat i) x).bind f_ = f_ ((hR h b S (upA A 1 (upd (A 1) i x)))) := bnd (rs_text hi)
theorem rg_at : jx_fI (hR h b S A) b 8 2 = some (S 2) := c_fI hR_b rfl
theorem rg_at_b  {β_ : Type} {f_ : Int32 → Option β_} : (jx_fI (hR h b S A) b 8 2).bind f_ = f_ ((S 2)) := bnd (rg_at )
theorem rp_at : jx_put (hR h b S A) b 8 2 (.int x) = some (hR h b (upd S 2 x) A) := (c_put hR_b (Nat.le_of_ble_eq_true rfl)).trans (congrArg some (hR_hs (S' := upd S 2 x)))
theorem rp_at_b  {β_ : Type} {f_ : jx_H → Option β_} : (jx_put (hR h b S A) b 8 2 (.int x)).bind f_ = f_ ((hR h b (upd S 2 x) A)) := bnd (rp_at )
theorem rg_line : jx_fI (hR h b S A) b 8 3 = some (S 3) := c_fI hR_b rfl
theorem rg_line_b  {β_ : Type} {f_ : Int32 → Option β_} : (jx_fI (hR h b S A) b 8 3).bind f_ = f_ ((S 3)) := bnd (rg_line )
theorem rp_line : jx_put (hR h b S A) b 8 3 (.int x) = some (hR h b (upd S 3 x) A) := (c_put hR_b (Nat.le_of_ble_eq_true rfl)).trans (congrArg some (hR_hs (S' := upd S 3 x)))
theorem rp_line_b  {β_ : Type} {f_ : jx_H → Option β_} : (jx_put (hR h b S A) b 8 3 (.int x)).bind f_ = f_ ((hR h b (upd S 3 x) A)) := bnd (rp_line )
theorem rg_kind : jx_fI (hR h b S A) b 8 4 = some (S 4) := c_fI hR_b rfl
theorem rg_kind_b  {β_ : Type} {f_ : Int32 → Option β_} : (jx_fI (hR h b S A) b 8 4).bind f_ = f_ ((S 4)) := bnd (rg_kind )
theorem rp_kind : jx_put (hR h b S A) b 8 4 (.int x) = some (hR h b (upd S 4 x) A) := (c_put hR_b (Nat.le_of_ble_eq_true rfl)).trans (congrArg some (hR_hs (S' := upd S 4 x)))
theorem rp_kind_b  {β_ : Type} {f_ : jx_H → Option β_} : (jx_put (hR h b S A) b 8 4 (.int x)).bind f_ = f_ ((hR h b (upd S 4 x) A)) := bnd (rp_kind )
theorem rg_value : jx_fI (hR h b S A) b 8 5 = some (S 5) := c_fI hR_b rfl
theorem rg_value_b  {β_ : Type} {f_ : Int32 → Option β_} : (jx_fI (hR h b S A) b 8 5).bind f_ = f_ ((S 5)) := bnd (rg_value )
theorem rp_value : jx_put (hR h b S A) b 8 5 (.int x) = some (hR h b (upd S 5 x) A) := (c_put hR_b (Nat.le_of_ble_eq_true rfl)).trans (congrArg some (hR_hs (S' := upd S 5 x)))
theorem rp_value_b  {β_ : Type} {f_ : jx_H → Option β_} : (jx_put (hR h b S A) b 8 5 (.int x)).bind f_ = f_ ((hR h b (upd S 5 x) A)) := bnd (rp_value )
theorem rg_tokenLine : jx_fI (hR h b S A) b 8 6 = some (S 6) := c_fI hR_b rfl
theorem rg_tokenLine_b  {β_ : Type} {f_ : Int32 → Option β_} : (jx_fI (hR h b S A) b 8 6).bind f_ = f_ ((S 6)) := bnd (rg_tokenLine )
theorem rp_tokenLine : jx_put (hR h b S A) b 8 6 (.int x) = some (hR h b (upd S 6 x) A) := (c_put hR_b (Nat.le_of_ble_eq_true rfl)).trans (congrArg some (hR_hs (S' := upd S 6 x)))
theorem rp_tokenLine_b  {β_ : Type} {f_ : jx_H → Option β_} : (jx_put (hR h b S A) b 8 6 (.int x)).bind f_ = f_ ((hR h b (upd S 6 x) A)) := bnd (rp_tokenLine )
theorem rg_good : jx_fI (hR h b S A) b 8 7 = some (S 7) := c_fI hR_b rfl
theorem rg_good_b  {β_ : Type} {f_ : Int32 → Option β_} : (jx_fI (hR h b S A) b 8 7).bind f_ = f_ ((S 7)) := bnd (rg_good )
theorem rp_good : jx_put (hR h b S A) b 8 7 (.int x) = some (hR h b (upd S 7 x) A) := (c_put hR_b (Nat.le_of_ble_eq_true rfl)).trans (congrArg some (hR_hs (S' := upd S 7 x)))
theorem rp_good_b  {β_ : Type} {f_ : jx_H → Option β_} : (jx_put (hR h b S A) b 8 7 (.int x)).bind f_ = f_ ((hR h b (upd S 7 x) A)) := bnd (rp_good )
theorem rg_names : jx_fI (hR h b S A) b 8 8 = some (S 8) := c_fI hR_b rfl
theorem rg_names_b  {β_ : Type} {f_ : Int32 → Option β_} : (jx_fI (hR h b S A) b 8 8).bind f_ = f_ ((S 8)) := bnd (rg_names )
theorem rp_names : jx_put (hR h b S A) b 8 8 (.int x) = some (hR h b (upd S 8 x) A) := (c_put hR_b (Nat.le_of_ble_eq_true rfl)).trans (congrArg some (hR_hs (S' := upd S 8 x)))
theorem rp_names_b  {β_ : Type} {f_ : jx_H → Option β_} : (jx_put (hR h b S A) b 8 8 (.int x)).bind f_ = f_ ((hR h b (upd S 8 x) A)) := bnd (rp_names )
theorem ra_nameLength : jx_fA (hR h b S A) b 8 9 = some (b + 2) := c_fA hR_b rfl
theorem ra_nameLength_b  {β_ : Type} {f_ : Nat → Option β_} : (jx_fA (hR h b S A) b 8 9).bind f_ = f_ ((b + 2)) := bnd (ra_nameLength )
theorem rl_nameLength (hi : i < 1001) : jx_aI (hR h b S A) 0 (b + 2) (Int32.ofNat i) = some (A 2 i) := c_aI (hR_k (k := 2) (by decide) (by decide)) (by decide) hi
theorem rl_nameLength_b (hi : i < 1001) {β_ : Type} {f_ : Int32 → Option β_} : (jx_aI (hR h b S A) 0 (b + 2) (Int32.ofNat i)).bind f_ = f_ ((A 2 i)) := bnd (rl_nameLength hi)
theorem rs_nameLength (hi : i < 1001) : jx_sI (hR h b S A) 0 (b + 2) (Int32.ofNat i) x = some (hR h b S (upA A 2 (upd (A 2) i x))) := (c_sI (hR_k (k := 2) (by decide) (by decide)) (by decide) hi).trans (congrArg some (hR_ha (by decide) (by decide)))
theorem rs_nameLength_b (hi : i < 1001) {β_ : Type} {f_ : jx_H → Option β_} : (jx_sI (hR h b S A) 0 (b + 2) (Int32.ofNat i) x).bind f_ = f_ ((hR h b S (upA A 2 (upd (A 2) i x)))) := bnd (rs_nameLength hi)
theorem ra_nameOctets : jx_fA (hR h b S A) b 8 10 = some (b + 3) := c_fA hR_b rfl
theorem ra_nameOctets_b  {β_ : Type} {f_ : Nat → Option β_} : (jx_fA (hR h b S A) b 8 10).bind f_ = f_ ((b + 3)) := bnd (ra_nameOctets )
theorem rl_nameOctets (hi : i < 12012) : jx_aI (hR h b S A) 0 (b + 3) (Int32.ofNat i) = some (A 3 i) := c_aI (hR_k (k := 3) (by decide) (by decide)) (by decide) hi
theorem rl_nameOctets_b (hi : i < 12012) {β_ : Type} {f_ : Int32 → Option β_} : (jx_aI (hR h b S A) 0 (b + 3) (Int32.ofNat i)).bind f_ = f_ ((A 3 i)) := bnd (rl_nameOctets hi)
theorem rs_nameOctets (hi : i < 12012) : jx_sI (hR h b S A) 0 (b + 3) (Int32.ofNat i) x = some (hR h b S (upA A 3 (upd (A 3) i x))) := (c_sI (hR_k (k := 3) (by decide) (by decide)) (by decide) hi).trans (congrArg some (hR_ha (by decide) (by decide)))
theorem rs_nameOctets_b (hi : i < 12012) {β_ : Type} {f_ : jx_H → Option β_} : (jx_sI (hR h b S A) 0 (b + 3) (Int32.ofNat i) x).bind f_ = f_ ((hR h b S (upA A 3 (upd (A 3) i x)))) := bnd (rs_nameOctets hi)
theorem rg_rows : jx_fI (hR h b S A) b 8 11 = some (S 11) := c_fI hR_b rfl
theorem rg_rows_b  {β_ : Type} {f_ : Int32 → Option β_} : (jx_fI (hR h b S A) b 8 11).bind f_ = f_ ((S 11)) := bnd (rg_rows )
theorem rp_rows : jx_put (hR h b S A) b 8 11 (.int x) = some (hR h b (upd S 11 x) A) := (c_put hR_b (Nat.le_of_ble_eq_true rfl)).trans (congrArg some (hR_hs (S' := upd S 11 x)))
theorem rp_rows_b  {β_ : Type} {f_ : jx_H → Option β_} : (jx_put (hR h b S A) b 8 11 (.int x)).bind f_ = f_ ((hR h b (upd S 11 x) A)) := bnd (rp_rows )
theorem ra_rowKind : jx_fA (hR h b S A) b 8 12 = some (b + 4) := c_fA hR_b rfl
theorem ra_rowKind_b  {β_ : Type} {f_ : Nat → Option β_} : (jx_fA (hR h b S A) b 8 12).bind f_ = f_ ((b + 4)) := bnd (ra_rowKind )
theorem rl_rowKind (hi : i < 120) : jx_aI (hR h b S A) 0 (b + 4) (Int32.ofNat i) = some (A 4 i) := c_aI (hR_k (k := 4) (by decide) (by decide)) (by decide) hi
theorem rl_rowKind_b (hi : i < 120) {β_ : Type} {f_ : Int32 → Option β_} : (jx_aI (hR h b S A) 0 (b + 4) (Int32.ofNat i)).bind f_ = f_ ((A 4 i)) := bnd (rl_rowKind hi)
theorem rs_rowKind (hi : i < 120) : jx_sI (hR h b S A) 0 (b + 4) (Int32.ofNat i) x = some (hR h b S (upA A 4 (upd (A 4) i x))) := (c_sI (hR_k (k := 4) (by decide) (by decide)) (by decide) hi).trans (congrArg some (hR_ha (by decide) (by decide)))
theorem rs_rowKind_b (hi : i < 120) {β_ : Type} {f_ : jx_H → Option β_} : (jx_sI (hR h b S A) 0 (b + 4) (Int32.ofNat i) x).bind f_ = f_ ((hR h b S (upA A 4 (upd (A 4) i x)))) := bnd (rs_rowKind hi)
theorem ra_rowBlock : jx_fA (hR h b S A) b 8 13 = some (b + 5) := c_fA hR_b rfl
theorem ra_rowBlock_b  {β_ : Type} {f_ : Nat → Option β_} : (jx_fA (hR h b S A) b 8 13).bind f_ = f_ ((b + 5)) := bnd (ra_rowBlock )
theorem rl_rowBlock (hi : i < 120) : jx_aI (hR h b S A) 0 (b + 5) (Int32.ofNat i) = some (A 5 i) := c_aI (hR_k (k := 5) (by decide) (by decide)) (by decide) hi
theorem rl_rowBlock_b (hi : i < 120) {β_ : Type} {f_ : Int32 → Option β_} : (jx_aI (hR h b S A) 0 (b + 5) (Int32.ofNat i)).bind f_ = f_ ((A 5 i)) := bnd (rl_rowBlock hi)
theorem rs_rowBlock (hi : i < 120) : jx_sI (hR h b S A) 0 (b + 5) (Int32.ofNat i) x = some (hR h b S (upA A 5 (upd (A 5) i x))) := (c_sI (hR_k (k := 5) (by decide) (by decide)) (by decide) hi).trans (congrArg some (hR_ha (by decide) (by decide)))
theorem rs_rowBlock_b (hi : i < 120) {β_ : Type} {f_ : jx_H → Option β_} : (jx_sI (hR h b S A) 0 (b + 5) (Int32.ofNat i) x).bind f_ = f_ ((hR h b S (upA A 5 (upd (A 5) i x)))) := bnd (rs_rowBlock hi)
theorem ra_given : jx_fA (hR h b S A) b 8 14 = some (b + 6) := c_fA hR_b rfl
theorem ra_given_b  {β_ : Type} {f_ : Nat → Option β_} : (jx_fA (hR h b S A) b 8 14).bind f_ = f_ ((b + 6)) := bnd (ra_given )
theorem rl_given (hi : i < 120) : jx_aI (hR h b S A) 0 (b + 6) (Int32.ofNat i) = some (A 6 i) := c_aI (hR_k (k := 6) (by decide) (by decide)) (by decide) hi
theorem rl_given_b (hi : i < 120) {β_ : Type} {f_ : Int32 → Option β_} : (jx_aI (hR h b S A) 0 (b + 6) (Int32.ofNat i)).bind f_ = f_ ((A 6 i)) := bnd (rl_given hi)
theorem rs_given (hi : i < 120) : jx_sI (hR h b S A) 0 (b + 6) (Int32.ofNat i) x = some (hR h b S (upA A 6 (upd (A 6) i x))) := (c_sI (hR_k (k := 6) (by decide) (by decide)) (by decide) hi).trans (congrArg some (hR_ha (by decide) (by decide)))
theorem rs_given_b (hi : i < 120) {β_ : Type} {f_ : jx_H → Option β_} : (jx_sI (hR h b S A) 0 (b + 6) (Int32.ofNat i) x).bind f_ = f_ ((hR h b S (upA A 6 (upd (A 6) i x)))) := bnd (rs_given hi)
theorem ra_second : jx_fA (hR h b S A) b 8 15 = some (b + 7) := c_fA hR_b rfl
theorem ra_second_b  {β_ : Type} {f_ : Nat → Option β_} : (jx_fA (hR h b S A) b 8 15).bind f_ = f_ ((b + 7)) := bnd (ra_second )
theorem rl_second (hi : i < 120) : jx_aI (hR h b S A) 0 (b + 7) (Int32.ofNat i) = some (A 7 i) := c_aI (hR_k (k := 7) (by decide) (by decide)) (by decide) hi
theorem rl_second_b (hi : i < 120) {β_ : Type} {f_ : Int32 → Option β_} : (jx_aI (hR h b S A) 0 (b + 7) (Int32.ofNat i)).bind f_ = f_ ((A 7 i)) := bnd (rl_second hi)
theorem rs_second (hi : i < 120) : jx_sI (hR h b S A) 0 (b + 7) (Int32.ofNat i) x = some (hR h b S (upA A 7 (upd (A 7) i x))) := (c_sI (hR_k (k := 7) (by decide) (by decide)) (by decide) hi).trans (congrArg some (hR_ha (by decide) (by decide)))
theorem rs_second_b (hi : i < 120) {β_ : Type} {f_ : jx_H → Option β_} : (jx_sI (hR h b S A) 0 (b + 7) (Int32.ofNat i) x).bind f_ = f_ ((hR h b S (upA A 7 (upd (A 7) i x)))) := bnd (rs_second hi)
theorem ra_third : jx_fA (hR h b S A) b 8 16 = some (b + 8) := c_fA hR_b rfl
theorem ra_third_b  {β_ : Type} {f_ : Nat → Option β_} : (jx_fA (hR h b S A) b 8 16).bind f_ = f_ ((b + 8)) := bnd (ra_third )
theorem rl_third (hi : i < 120) : jx_aI (hR h b S A) 0 (b + 8) (Int32.ofNat i) = some (A 8 i) := c_aI (hR_k (k := 8) (by decide) (by decide)) (by decide) hi
theorem rl_third_b (hi : i < 120) {β_ : Type} {f_ : Int32 → Option β_} : (jx_aI (hR h b S A) 0 (b + 8) (Int32.ofNat i)).bind f_ = f_ ((A 8 i)) := bnd (rl_third hi)
theorem rs_third (hi : i < 120) : jx_sI (hR h b S A) 0 (b + 8) (Int32.ofNat i) x = some (hR h b S (upA A 8 (upd (A 8) i x))) := (c_sI (hR_k (k := 8) (by decide) (by decide)) (by decide) hi).trans (congrArg some (hR_ha (by decide) (by decide)))
theorem rs_third_b (hi : i < 120) {β_ : Type} {f_ : jx_H → Option β_} : (jx_sI (hR h b S A) 0 (b + 8) (Int32.ofNat i) x).bind f_ = f_ ((hR h b S (upA A 8 (upd (A 8) i x)))) := bnd (rs_third hi)
theorem ra_fourth : jx_fA (hR h b S A) b 8 17 = some (b + 9) := c_fA hR_b rfl
theorem ra_fourth_b  {β_ : Type} {f_ : Nat → Option β_} : (jx_fA (hR h b S A) b 8 17).bind f_ = f_ ((b + 9)) := bnd (ra_fourth )
theorem rl_fourth (hi : i < 120) : jx_aI (hR h b S A) 0 (b + 9) (Int32.ofNat i) = some (A 9 i) := c_aI (hR_k (k := 9) (by decide) (by decide)) (by decide) hi
theorem rl_fourth_b (hi : i < 120) {β_ : Type} {f_ : Int32 → Option β_} : (jx_aI (hR h b S A) 0 (b + 9) (Int32.ofNat i)).bind f_ = f_ ((A 9 i)) := bnd (rl_fourth hi)
theorem rs_fourth (hi : i < 120) : jx_sI (hR h b S A) 0 (b + 9) (Int32.ofNat i) x = some (hR h b S (upA A 9 (upd (A 9) i x))) := (c_sI (hR_k (k := 9) (by decide) (by decide)) (by decide) hi).trans (congrArg some (hR_ha (by decide) (by decide)))
theorem rs_fourth_b (hi : i < 120) {β_ : Type} {f_ : jx_H → Option β_} : (jx_sI (hR h b S A) 0 (b + 9) (Int32.ofNat i) x).bind f_ = f_ ((hR h b S (upA A 9 (upd (A 9) i x)))) := bnd (rs_fourth hi)
theorem ra_fifth : jx_fA (hR h b S A) b 8 18 = some (b + 10) := c_fA hR_b rfl
theorem ra_fifth_b  {β_ : Type} {f_ : Nat → Option β_} : (jx_fA (hR h b S A) b 8 18).bind f_ = f_ ((b + 10)) := bnd (ra_fifth )
theorem rl_fifth (hi : i < 120) : jx_aI (hR h b S A) 0 (b + 10) (Int32.ofNat i) = some (A 10 i) := c_aI (hR_k (k := 10) (by decide) (by decide)) (by decide) hi
theorem rl_fifth_b (hi : i < 120) {β_ : Type} {f_ : Int32 → Option β_} : (jx_aI (hR h b S A) 0 (b + 10) (Int32.ofNat i)).bind f_ = f_ ((A 10 i)) := bnd (rl_fifth hi)
theorem rs_fifth (hi : i < 120) : jx_sI (hR h b S A) 0 (b + 10) (Int32.ofNat i) x = some (hR h b S (upA A 10 (upd (A 10) i x))) := (c_sI (hR_k (k := 10) (by decide) (by decide)) (by decide) hi).trans (congrArg some (hR_ha (by decide) (by decide)))
theorem rs_fifth_b (hi : i < 120) {β_ : Type} {f_ : jx_H → Option β_} : (jx_sI (hR h b S A) 0 (b + 10) (Int32.ofNat i) x).bind f_ = f_ ((hR h b S (upA A 10 (upd (A 10) i x)))) := bnd (rs_fifth hi)
theorem ra_low : jx_fA (hR h b S A) b 8 19 = some (b + 11) := c_fA hR_b rfl
theorem ra_low_b  {β_ : Type} {f_ : Nat → Option β_} : (jx_fA (hR h b S A) b 8 19).bind f_ = f_ ((b + 11)) := bnd (ra_low )
theorem rl_low (hi : i < 120) : jx_aI (hR h b S A) 0 (b + 11) (Int32.ofNat i) = some (A 11 i) := c_aI (hR_k (k := 11) (by decide) (by decide)) (by decide) hi
theorem rl_low_b (hi : i < 120) {β_ : Type} {f_ : Int32 → Option β_} : (jx_aI (hR h b S A) 0 (b + 11) (Int32.ofNat i)).bind f_ = f_ ((A 11 i)) := bnd (rl_low hi)
theorem rs_low (hi : i < 120) : jx_sI (hR h b S A) 0 (b + 11) (Int32.ofNat i) x = some (hR h b S (upA A 11 (upd (A 11) i x))) := (c_sI (hR_k (k := 11) (by decide) (by decide)) (by decide) hi).trans (congrArg some (hR_ha (by decide) (by decide)))
theorem rs_low_b (hi : i < 120) {β_ : Type} {f_ : jx_H → Option β_} : (jx_sI (hR h b S A) 0 (b + 11) (Int32.ofNat i) x).bind f_ = f_ ((hR h b S (upA A 11 (upd (A 11) i x)))) := bnd (rs_low hi)
theorem ra_high : jx_fA (hR h b S A) b 8 20 = some (b + 12) := c_fA hR_b rfl
theorem ra_high_b  {β_ : Type} {f_ : Nat → Option β_} : (jx_fA (hR h b S A) b 8 20).bind f_ = f_ ((b + 12)) := bnd (ra_high )
theorem rl_high (hi : i < 120) : jx_aI (hR h b S A) 0 (b + 12) (Int32.ofNat i) = some (A 12 i) := c_aI (hR_k (k := 12) (by decide) (by decide)) (by decide) hi
theorem rl_high_b (hi : i < 120) {β_ : Type} {f_ : Int32 → Option β_} : (jx_aI (hR h b S A) 0 (b + 12) (Int32.ofNat i)).bind f_ = f_ ((A 12 i)) := bnd (rl_high hi)
theorem rs_high (hi : i < 120) : jx_sI (hR h b S A) 0 (b + 12) (Int32.ofNat i) x = some (hR h b S (upA A 12 (upd (A 12) i x))) := (c_sI (hR_k (k := 12) (by decide) (by decide)) (by decide) hi).trans (congrArg some (hR_ha (by decide) (by decide)))
theorem rs_high_b (hi : i < 120) {β_ : Type} {f_ : jx_H → Option β_} : (jx_sI (hR h b S A) 0 (b + 12) (Int32.ofNat i) x).bind f_ = f_ ((hR h b S (upA A 12 (upd (A 12) i x)))) := bnd (rs_high hi)
theorem ra_trigger : jx_fA (hR h b S A) b 8 21 = some (b + 13) := c_fA hR_b rfl
theorem ra_trigger_b  {β_ : Type} {f_ : Nat → Option β_} : (jx_fA (hR h b S A) b 8 21).bind f_ = f_ ((b + 13)) := bnd (ra_trigger )
theorem rl_trigger (hi : i < 120) : jx_aI (hR h b S A) 0 (b + 13) (Int32.ofNat i) = some (A 13 i) := c_aI (hR_k (k := 13) (by decide) (by decide)) (by decide) hi
theorem rl_trigger_b (hi : i < 120) {β_ : Type} {f_ : Int32 → Option β_} : (jx_aI (hR h b S A) 0 (b + 13) (Int32.ofNat i)).bind f_ = f_ ((A 13 i)) := bnd (rl_trigger hi)
theorem rs_trigger (hi : i < 120) : jx_sI (hR h b S A) 0 (b + 13) (Int32.ofNat i) x = some (hR h b S (upA A 13 (upd (A 13) i x))) := (c_sI (hR_k (k := 13) (by decide) (by decide)) (by decide) hi).trans (congrArg some (hR_ha (by decide) (by decide)))
theorem rs_trigger_b (hi : i < 120) {β_ : Type} {f_ : jx_H → Option β_} : (jx_sI (hR h b S A) 0 (b + 13) (Int32.ofNat i) x).bind f_ = f_ ((hR h b S (upA A 13 (upd (A 13) i x)))) := bnd (rs_trigger hi)
theorem ra_accessAt : jx_fA (hR h b S A) b 8 22 = some (b + 14) := c_fA hR_b rfl
theorem ra_accessAt_b  {β_ : Type} {f_ : Nat → Option β_} : (jx_fA (hR h b S A) b 8 22).bind f_ = f_ ((b + 14)) := bnd (ra_accessAt )
theorem rl_accessAt (hi : i < 120) : jx_aI (hR h b S A) 0 (b + 14) (Int32.ofNat i) = some (A 14 i) := c_aI (hR_k (k := 14) (by decide) (by decide)) (by decide) hi
theorem rl_accessAt_b (hi : i < 120) {β_ : Type} {f_ : Int32 → Option β_} : (jx_aI (hR h b S A) 0 (b + 14) (Int32.ofNat i)).bind f_ = f_ ((A 14 i)) := bnd (rl_accessAt hi)
theorem rs_accessAt (hi : i < 120) : jx_sI (hR h b S A) 0 (b + 14) (Int32.ofNat i) x = some (hR h b S (upA A 14 (upd (A 14) i x))) := (c_sI (hR_k (k := 14) (by decide) (by decide)) (by decide) hi).trans (congrArg some (hR_ha (by decide) (by decide)))
theorem rs_accessAt_b (hi : i < 120) {β_ : Type} {f_ : jx_H → Option β_} : (jx_sI (hR h b S A) 0 (b + 14) (Int32.ofNat i) x).bind f_ = f_ ((hR h b S (upA A 14 (upd (A 14) i x)))) := bnd (rs_accessAt hi)
theorem ra_accessMany : jx_fA (hR h b S A) b 8 23 = some (b + 15) := c_fA hR_b rfl
theorem ra_accessMany_b  {β_ : Type} {f_ : Nat → Option β_} : (jx_fA (hR h b S A) b 8 23).bind f_ = f_ ((b + 15)) := bnd (ra_accessMany )
theorem rl_accessMany (hi : i < 120) : jx_aI (hR h b S A) 0 (b + 15) (Int32.ofNat i) = some (A 15 i) := c_aI (hR_k (k := 15) (by decide) (by decide)) (by decide) hi
theorem rl_accessMany_b (hi : i < 120) {β_ : Type} {f_ : Int32 → Option β_} : (jx_aI (hR h b S A) 0 (b + 15) (Int32.ofNat i)).bind f_ = f_ ((A 15 i)) := bnd (rl_accessMany hi)
theorem rs_accessMany (hi : i < 120) : jx_sI (hR h b S A) 0 (b + 15) (Int32.ofNat i) x = some (hR h b S (upA A 15 (upd (A 15) i x))) := (c_sI (hR_k (k := 15) (by decide) (by decide)) (by decide) hi).trans (congrArg some (hR_ha (by decide) (by decide)))
theorem rs_accessMany_b (hi : i < 120) {β_ : Type} {f_ : jx_H → Option β_} : (jx_sI (hR h b S A) 0 (b + 15) (Int32.ofNat i) x).bind f_ = f_ ((hR h b S (upA A 15 (upd (A 15) i x)))) := bnd (rs_accessMany hi)
theorem rg_accesses : jx_fI (hR h b S A) b 8 24 = some (S 24) := c_fI hR_b rfl
theorem rg_accesses_b  {β_ : Type} {f_ : Int32 → Option β_} : (jx_fI (hR h b S A) b 8 24).bind f_ = f_ ((S 24)) := bnd (rg_accesses )
theorem rp_accesses : jx_put (hR h b S A) b 8 24 (.int x) = some (hR h b (upd S 24 x) A) := (c_put hR_b (Nat.le_of_ble_eq_true rfl)).trans (congrArg some (hR_hs (S' := upd S 24 x)))
theorem rp_accesses_b  {β_ : Type} {f_ : jx_H → Option β_} : (jx_put (hR h b S A) b 8 24 (.int x)).bind f_ = f_ ((hR h b (upd S 24 x) A)) := bnd (rp_accesses )
theorem ra_accessKind : jx_fA (hR h b S A) b 8 25 = some (b + 16) := c_fA hR_b rfl
theorem ra_accessKind_b  {β_ : Type} {f_ : Nat → Option β_} : (jx_fA (hR h b S A) b 8 25).bind f_ = f_ ((b + 16)) := bnd (ra_accessKind )
theorem rl_accessKind (hi : i < 600) : jx_aI (hR h b S A) 0 (b + 16) (Int32.ofNat i) = some (A 16 i) := c_aI (hR_k (k := 16) (by decide) (by decide)) (by decide) hi
theorem rl_accessKind_b (hi : i < 600) {β_ : Type} {f_ : Int32 → Option β_} : (jx_aI (hR h b S A) 0 (b + 16) (Int32.ofNat i)).bind f_ = f_ ((A 16 i)) := bnd (rl_accessKind hi)
theorem rs_accessKind (hi : i < 600) : jx_sI (hR h b S A) 0 (b + 16) (Int32.ofNat i) x = some (hR h b S (upA A 16 (upd (A 16) i x))) := (c_sI (hR_k (k := 16) (by decide) (by decide)) (by decide) hi).trans (congrArg some (hR_ha (by decide) (by decide)))
theorem rs_accessKind_b (hi : i < 600) {β_ : Type} {f_ : jx_H → Option β_} : (jx_sI (hR h b S A) 0 (b + 16) (Int32.ofNat i) x).bind f_ = f_ ((hR h b S (upA A 16 (upd (A 16) i x)))) := bnd (rs_accessKind hi)
theorem ra_accessPort : jx_fA (hR h b S A) b 8 26 = some (b + 17) := c_fA hR_b rfl
theorem ra_accessPort_b  {β_ : Type} {f_ : Nat → Option β_} : (jx_fA (hR h b S A) b 8 26).bind f_ = f_ ((b + 17)) := bnd (ra_accessPort )
theorem rl_accessPort (hi : i < 600) : jx_aI (hR h b S A) 0 (b + 17) (Int32.ofNat i) = some (A 17 i) := c_aI (hR_k (k := 17) (by decide) (by decide)) (by decide) hi
theorem rl_accessPort_b (hi : i < 600) {β_ : Type} {f_ : Int32 → Option β_} : (jx_aI (hR h b S A) 0 (b + 17) (Int32.ofNat i)).bind f_ = f_ ((A 17 i)) := bnd (rl_accessPort hi)
theorem rs_accessPort (hi : i < 600) : jx_sI (hR h b S A) 0 (b + 17) (Int32.ofNat i) x = some (hR h b S (upA A 17 (upd (A 17) i x))) := (c_sI (hR_k (k := 17) (by decide) (by decide)) (by decide) hi).trans (congrArg some (hR_ha (by decide) (by decide)))
theorem rs_accessPort_b (hi : i < 600) {β_ : Type} {f_ : jx_H → Option β_} : (jx_sI (hR h b S A) 0 (b + 17) (Int32.ofNat i) x).bind f_ = f_ ((hR h b S (upA A 17 (upd (A 17) i x)))) := bnd (rs_accessPort hi)
theorem ra_accessDatum : jx_fA (hR h b S A) b 8 27 = some (b + 18) := c_fA hR_b rfl
theorem ra_accessDatum_b  {β_ : Type} {f_ : Nat → Option β_} : (jx_fA (hR h b S A) b 8 27).bind f_ = f_ ((b + 18)) := bnd (ra_accessDatum )
theorem rl_accessDatum (hi : i < 600) : jx_aI (hR h b S A) 0 (b + 18) (Int32.ofNat i) = some (A 18 i) := c_aI (hR_k (k := 18) (by decide) (by decide)) (by decide) hi
theorem rl_accessDatum_b (hi : i < 600) {β_ : Type} {f_ : Int32 → Option β_} : (jx_aI (hR h b S A) 0 (b + 18) (Int32.ofNat i)).bind f_ = f_ ((A 18 i)) := bnd (rl_accessDatum hi)
theorem rs_accessDatum (hi : i < 600) : jx_sI (hR h b S A) 0 (b + 18) (Int32.ofNat i) x = some (hR h b S (upA A 18 (upd (A 18) i x))) := (c_sI (hR_k (k := 18) (by decide) (by decide)) (by decide) hi).trans (congrArg some (hR_ha (by decide) (by decide)))
theorem rs_accessDatum_b (hi : i < 600) {β_ : Type} {f_ : jx_H → Option β_} : (jx_sI (hR h b S A) 0 (b + 18) (Int32.ofNat i) x).bind f_ = f_ ((hR h b S (upA A 18 (upd (A 18) i x)))) := bnd (rs_accessDatum hi)
theorem rg_written : jx_fI (hR h b S A) b 8 28 = some (S 28) := c_fI hR_b rfl
theorem rg_written_b  {β_ : Type} {f_ : Int32 → Option β_} : (jx_fI (hR h b S A) b 8 28).bind f_ = f_ ((S 28)) := bnd (rg_written )
theorem rp_written : jx_put (hR h b S A) b 8 28 (.int x) = some (hR h b (upd S 28 x) A) := (c_put hR_b (Nat.le_of_ble_eq_true rfl)).trans (congrArg some (hR_hs (S' := upd S 28 x)))
theorem rp_written_b  {β_ : Type} {f_ : jx_H → Option β_} : (jx_put (hR h b S A) b 8 28 (.int x)).bind f_ = f_ ((hR h b (upd S 28 x) A)) := bnd (rp_written )
theorem ra_writing : jx_fA (hR h b S A) b 8 29 = some (b + 19) := c_fA hR_b rfl
theorem ra_writing_b  {β_ : Type} {f_ : Nat → Option β_} : (jx_fA (hR h b S A) b 8 29).bind f_ = f_ ((b + 19)) := bnd (ra_writing )
theorem rl_writing (hi : i < 6000) : jx_aI (hR h b S A) 0 (b + 19) (Int32.ofNat i) = some (A 19 i) := c_aI (hR_k (k := 19) (by decide) (by decide)) (by decide) hi
theorem rl_writing_b (hi : i < 6000) {β_ : Type} {f_ : Int32 → Option β_} : (jx_aI (hR h b S A) 0 (b + 19) (Int32.ofNat i)).bind f_ = f_ ((A 19 i)) := bnd (rl_writing hi)
theorem rs_writing (hi : i < 6000) : jx_sI (hR h b S A) 0 (b + 19) (Int32.ofNat i) x = some (hR h b S (upA A 19 (upd (A 19) i x))) := (c_sI (hR_k (k := 19) (by decide) (by decide)) (by decide) hi).trans (congrArg some (hR_ha (by decide) (by decide)))
theorem rs_writing_b (hi : i < 6000) {β_ : Type} {f_ : jx_H → Option β_} : (jx_sI (hR h b S A) 0 (b + 19) (Int32.ofNat i) x).bind f_ = f_ ((hR h b S (upA A 19 (upd (A 19) i x)))) := bnd (rs_writing hi)
theorem ra_writeAt : jx_fA (hR h b S A) b 8 30 = some (b + 20) := c_fA hR_b rfl
theorem ra_writeAt_b  {β_ : Type} {f_ : Nat → Option β_} : (jx_fA (hR h b S A) b 8 30).bind f_ = f_ ((b + 20)) := bnd (ra_writeAt )
theorem rl_writeAt (hi : i < 121) : jx_aI (hR h b S A) 0 (b + 20) (Int32.ofNat i) = some (A 20 i) := c_aI (hR_k (k := 20) (by decide) (by decide)) (by decide) hi
theorem rl_writeAt_b (hi : i < 121) {β_ : Type} {f_ : Int32 → Option β_} : (jx_aI (hR h b S A) 0 (b + 20) (Int32.ofNat i)).bind f_ = f_ ((A 20 i)) := bnd (rl_writeAt hi)
theorem rs_writeAt (hi : i < 121) : jx_sI (hR h b S A) 0 (b + 20) (Int32.ofNat i) x = some (hR h b S (upA A 20 (upd (A 20) i x))) := (c_sI (hR_k (k := 20) (by decide) (by decide)) (by decide) hi).trans (congrArg some (hR_ha (by decide) (by decide)))
theorem rs_writeAt_b (hi : i < 121) {β_ : Type} {f_ : jx_H → Option β_} : (jx_sI (hR h b S A) 0 (b + 20) (Int32.ofNat i) x).bind f_ = f_ ((hR h b S (upA A 20 (upd (A 20) i x)))) := bnd (rs_writeAt hi)
theorem rg_block : jx_fI (hR h b S A) b 8 31 = some (S 31) := c_fI hR_b rfl
theorem rg_block_b  {β_ : Type} {f_ : Int32 → Option β_} : (jx_fI (hR h b S A) b 8 31).bind f_ = f_ ((S 31)) := bnd (rg_block )
theorem rp_block : jx_put (hR h b S A) b 8 31 (.int x) = some (hR h b (upd S 31 x) A) := (c_put hR_b (Nat.le_of_ble_eq_true rfl)).trans (congrArg some (hR_hs (S' := upd S 31 x)))
theorem rp_block_b  {β_ : Type} {f_ : jx_H → Option β_} : (jx_put (hR h b S A) b 8 31 (.int x)).bind f_ = f_ ((hR h b (upd S 31 x) A)) := bnd (rp_block )
theorem rg_inHand : jx_fI (hR h b S A) b 8 32 = some (S 32) := c_fI hR_b rfl
theorem rg_inHand_b  {β_ : Type} {f_ : Int32 → Option β_} : (jx_fI (hR h b S A) b 8 32).bind f_ = f_ ((S 32)) := bnd (rg_inHand )
theorem rp_inHand : jx_put (hR h b S A) b 8 32 (.int x) = some (hR h b (upd S 32 x) A) := (c_put hR_b (Nat.le_of_ble_eq_true rfl)).trans (congrArg some (hR_hs (S' := upd S 32 x)))
theorem rp_inHand_b  {β_ : Type} {f_ : jx_H → Option β_} : (jx_put (hR h b S A) b 8 32 (.int x)).bind f_ = f_ ((hR h b (upd S 32 x) A)) := bnd (rp_inHand )
theorem rg_hRows : jx_fI (hR h b S A) b 8 33 = some (S 33) := c_fI hR_b rfl
theorem rg_hRows_b  {β_ : Type} {f_ : Int32 → Option β_} : (jx_fI (hR h b S A) b 8 33).bind f_ = f_ ((S 33)) := bnd (rg_hRows )
theorem rp_hRows : jx_put (hR h b S A) b 8 33 (.int x) = some (hR h b (upd S 33 x) A) := (c_put hR_b (Nat.le_of_ble_eq_true rfl)).trans (congrArg some (hR_hs (S' := upd S 33 x)))
theorem rp_hRows_b  {β_ : Type} {f_ : jx_H → Option β_} : (jx_put (hR h b S A) b 8 33 (.int x)).bind f_ = f_ ((hR h b (upd S 33 x) A)) := bnd (rp_hRows )
theorem ra_hKind : jx_fA (hR h b S A) b 8 34 = some (b + 21) := c_fA hR_b rfl
theorem ra_hKind_b  {β_ : Type} {f_ : Nat → Option β_} : (jx_fA (hR h b S A) b 8 34).bind f_ = f_ ((b + 21)) := bnd (ra_hKind )
theorem rl_hKind (hi : i < 120) : jx_aI (hR h b S A) 0 (b + 21) (Int32.ofNat i) = some (A 21 i) := c_aI (hR_k (k := 21) (by decide) (by decide)) (by decide) hi
theorem rl_hKind_b (hi : i < 120) {β_ : Type} {f_ : Int32 → Option β_} : (jx_aI (hR h b S A) 0 (b + 21) (Int32.ofNat i)).bind f_ = f_ ((A 21 i)) := bnd (rl_hKind hi)
theorem rs_hKind (hi : i < 120) : jx_sI (hR h b S A) 0 (b + 21) (Int32.ofNat i) x = some (hR h b S (upA A 21 (upd (A 21) i x))) := (c_sI (hR_k (k := 21) (by decide) (by decide)) (by decide) hi).trans (congrArg some (hR_ha (by decide) (by decide)))
theorem rs_hKind_b (hi : i < 120) {β_ : Type} {f_ : jx_H → Option β_} : (jx_sI (hR h b S A) 0 (b + 21) (Int32.ofNat i) x).bind f_ = f_ ((hR h b S (upA A 21 (upd (A 21) i x)))) := bnd (rs_hKind hi)
theorem ra_hBlock : jx_fA (hR h b S A) b 8 35 = some (b + 22) := c_fA hR_b rfl
theorem ra_hBlock_b  {β_ : Type} {f_ : Nat → Option β_} : (jx_fA (hR h b S A) b 8 35).bind f_ = f_ ((b + 22)) := bnd (ra_hBlock )
theorem rl_hBlock (hi : i < 120) : jx_aI (hR h b S A) 0 (b + 22) (Int32.ofNat i) = some (A 22 i) := c_aI (hR_k (k := 22) (by decide) (by decide)) (by decide) hi
theorem rl_hBlock_b (hi : i < 120) {β_ : Type} {f_ : Int32 → Option β_} : (jx_aI (hR h b S A) 0 (b + 22) (Int32.ofNat i)).bind f_ = f_ ((A 22 i)) := bnd (rl_hBlock hi)
theorem rs_hBlock (hi : i < 120) : jx_sI (hR h b S A) 0 (b + 22) (Int32.ofNat i) x = some (hR h b S (upA A 22 (upd (A 22) i x))) := (c_sI (hR_k (k := 22) (by decide) (by decide)) (by decide) hi).trans (congrArg some (hR_ha (by decide) (by decide)))
theorem rs_hBlock_b (hi : i < 120) {β_ : Type} {f_ : jx_H → Option β_} : (jx_sI (hR h b S A) 0 (b + 22) (Int32.ofNat i) x).bind f_ = f_ ((hR h b S (upA A 22 (upd (A 22) i x)))) := bnd (rs_hBlock hi)
theorem ra_hGiven : jx_fA (hR h b S A) b 8 36 = some (b + 23) := c_fA hR_b rfl
theorem ra_hGiven_b  {β_ : Type} {f_ : Nat → Option β_} : (jx_fA (hR h b S A) b 8 36).bind f_ = f_ ((b + 23)) := bnd (ra_hGiven )
theorem rl_hGiven (hi : i < 120) : jx_aI (hR h b S A) 0 (b + 23) (Int32.ofNat i) = some (A 23 i) := c_aI (hR_k (k := 23) (by decide) (by decide)) (by decide) hi
theorem rl_hGiven_b (hi : i < 120) {β_ : Type} {f_ : Int32 → Option β_} : (jx_aI (hR h b S A) 0 (b + 23) (Int32.ofNat i)).bind f_ = f_ ((A 23 i)) := bnd (rl_hGiven hi)
theorem rs_hGiven (hi : i < 120) : jx_sI (hR h b S A) 0 (b + 23) (Int32.ofNat i) x = some (hR h b S (upA A 23 (upd (A 23) i x))) := (c_sI (hR_k (k := 23) (by decide) (by decide)) (by decide) hi).trans (congrArg some (hR_ha (by decide) (by decide)))
theorem rs_hGiven_b (hi : i < 120) {β_ : Type} {f_ : jx_H → Option β_} : (jx_sI (hR h b S A) 0 (b + 23) (Int32.ofNat i) x).bind f_ = f_ ((hR h b S (upA A 23 (upd (A 23) i x)))) := bnd (rs_hGiven hi)
theorem ra_hSecond : jx_fA (hR h b S A) b 8 37 = some (b + 24) := c_fA hR_b rfl
theorem ra_hSecond_b  {β_ : Type} {f_ : Nat → Option β_} : (jx_fA (hR h b S A) b 8 37).bind f_ = f_ ((b + 24)) := bnd (ra_hSecond )
theorem rl_hSecond (hi : i < 120) : jx_aI (hR h b S A) 0 (b + 24) (Int32.ofNat i) = some (A 24 i) := c_aI (hR_k (k := 24) (by decide) (by decide)) (by decide) hi
theorem rl_hSecond_b (hi : i < 120) {β_ : Type} {f_ : Int32 → Option β_} : (jx_aI (hR h b S A) 0 (b + 24) (Int32.ofNat i)).bind f_ = f_ ((A 24 i)) := bnd (rl_hSecond hi)
theorem rs_hSecond (hi : i < 120) : jx_sI (hR h b S A) 0 (b + 24) (Int32.ofNat i) x = some (hR h b S (upA A 24 (upd (A 24) i x))) := (c_sI (hR_k (k := 24) (by decide) (by decide)) (by decide) hi).trans (congrArg some (hR_ha (by decide) (by decide)))
theorem rs_hSecond_b (hi : i < 120) {β_ : Type} {f_ : jx_H → Option β_} : (jx_sI (hR h b S A) 0 (b + 24) (Int32.ofNat i) x).bind f_ = f_ ((hR h b S (upA A 24 (upd (A 24) i x)))) := bnd (rs_hSecond hi)
theorem ra_hThird : jx_fA (hR h b S A) b 8 38 = some (b + 25) := c_fA hR_b rfl
theorem ra_hThird_b  {β_ : Type} {f_ : Nat → Option β_} : (jx_fA (hR h b S A) b 8 38).bind f_ = f_ ((b + 25)) := bnd (ra_hThird )
theorem rl_hThird (hi : i < 120) : jx_aI (hR h b S A) 0 (b + 25) (Int32.ofNat i) = some (A 25 i) := c_aI (hR_k (k := 25) (by decide) (by decide)) (by decide) hi
theorem rl_hThird_b (hi : i < 120) {β_ : Type} {f_ : Int32 → Option β_} : (jx_aI (hR h b S A) 0 (b + 25) (Int32.ofNat i)).bind f_ = f_ ((A 25 i)) := bnd (rl_hThird hi)
theorem rs_hThird (hi : i < 120) : jx_sI (hR h b S A) 0 (b + 25) (Int32.ofNat i) x = some (hR h b S (upA A 25 (upd (A 25) i x))) := (c_sI (hR_k (k := 25) (by decide) (by decide)) (by decide) hi).trans (congrArg some (hR_ha (by decide) (by decide)))
theorem rs_hThird_b (hi : i < 120) {β_ : Type} {f_ : jx_H → Option β_} : (jx_sI (hR h b S A) 0 (b + 25) (Int32.ofNat i) x).bind f_ = f_ ((hR h b S (upA A 25 (upd (A 25) i x)))) := bnd (rs_hThird hi)
theorem ra_hFourth : jx_fA (hR h b S A) b 8 39 = some (b + 26) := c_fA hR_b rfl
theorem ra_hFourth_b  {β_ : Type} {f_ : Nat → Option β_} : (jx_fA (hR h b S A) b 8 39).bind f_ = f_ ((b + 26)) := bnd (ra_hFourth )
theorem rl_hFourth (hi : i < 120) : jx_aI (hR h b S A) 0 (b + 26) (Int32.ofNat i) = some (A 26 i) := c_aI (hR_k (k := 26) (by decide) (by decide)) (by decide) hi
theorem rl_hFourth_b (hi : i < 120) {β_ : Type} {f_ : Int32 → Option β_} : (jx_aI (hR h b S A) 0 (b + 26) (Int32.ofNat i)).bind f_ = f_ ((A 26 i)) := bnd (rl_hFourth hi)
theorem rs_hFourth (hi : i < 120) : jx_sI (hR h b S A) 0 (b + 26) (Int32.ofNat i) x = some (hR h b S (upA A 26 (upd (A 26) i x))) := (c_sI (hR_k (k := 26) (by decide) (by decide)) (by decide) hi).trans (congrArg some (hR_ha (by decide) (by decide)))
theorem rs_hFourth_b (hi : i < 120) {β_ : Type} {f_ : jx_H → Option β_} : (jx_sI (hR h b S A) 0 (b + 26) (Int32.ofNat i) x).bind f_ = f_ ((hR h b S (upA A 26 (upd (A 26) i x)))) := bnd (rs_hFourth hi)
theorem ra_hFifth : jx_fA (hR h b S A) b 8 40 = some (b + 27) := c_fA hR_b rfl
theorem ra_hFifth_b  {β_ : Type} {f_ : Nat → Option β_} : (jx_fA (hR h b S A) b 8 40).bind f_ = f_ ((b + 27)) := bnd (ra_hFifth )
theorem rl_hFifth (hi : i < 120) : jx_aI (hR h b S A) 0 (b + 27) (Int32.ofNat i) = some (A 27 i) := c_aI (hR_k (k := 27) (by decide) (by decide)) (by decide) hi
theorem rl_hFifth_b (hi : i < 120) {β_ : Type} {f_ : Int32 → Option β_} : (jx_aI (hR h b S A) 0 (b + 27) (Int32.ofNat i)).bind f_ = f_ ((A 27 i)) := bnd (rl_hFifth hi)
theorem rs_hFifth (hi : i < 120) : jx_sI (hR h b S A) 0 (b + 27) (Int32.ofNat i) x = some (hR h b S (upA A 27 (upd (A 27) i x))) := (c_sI (hR_k (k := 27) (by decide) (by decide)) (by decide) hi).trans (congrArg some (hR_ha (by decide) (by decide)))
theorem rs_hFifth_b (hi : i < 120) {β_ : Type} {f_ : jx_H → Option β_} : (jx_sI (hR h b S A) 0 (b + 27) (Int32.ofNat i) x).bind f_ = f_ ((hR h b S (upA A 27 (upd (A 27) i x)))) := bnd (rs_hFifth hi)
theorem ra_hLow : jx_fA (hR h b S A) b 8 41 = some (b + 28) := c_fA hR_b rfl
theorem ra_hLow_b  {β_ : Type} {f_ : Nat → Option β_} : (jx_fA (hR h b S A) b 8 41).bind f_ = f_ ((b + 28)) := bnd (ra_hLow )
theorem rl_hLow (hi : i < 120) : jx_aI (hR h b S A) 0 (b + 28) (Int32.ofNat i) = some (A 28 i) := c_aI (hR_k (k := 28) (by decide) (by decide)) (by decide) hi
theorem rl_hLow_b (hi : i < 120) {β_ : Type} {f_ : Int32 → Option β_} : (jx_aI (hR h b S A) 0 (b + 28) (Int32.ofNat i)).bind f_ = f_ ((A 28 i)) := bnd (rl_hLow hi)
theorem rs_hLow (hi : i < 120) : jx_sI (hR h b S A) 0 (b + 28) (Int32.ofNat i) x = some (hR h b S (upA A 28 (upd (A 28) i x))) := (c_sI (hR_k (k := 28) (by decide) (by decide)) (by decide) hi).trans (congrArg some (hR_ha (by decide) (by decide)))
theorem rs_hLow_b (hi : i < 120) {β_ : Type} {f_ : jx_H → Option β_} : (jx_sI (hR h b S A) 0 (b + 28) (Int32.ofNat i) x).bind f_ = f_ ((hR h b S (upA A 28 (upd (A 28) i x)))) := bnd (rs_hLow hi)
theorem ra_hHigh : jx_fA (hR h b S A) b 8 42 = some (b + 29) := c_fA hR_b rfl
theorem ra_hHigh_b  {β_ : Type} {f_ : Nat → Option β_} : (jx_fA (hR h b S A) b 8 42).bind f_ = f_ ((b + 29)) := bnd (ra_hHigh )
theorem rl_hHigh (hi : i < 120) : jx_aI (hR h b S A) 0 (b + 29) (Int32.ofNat i) = some (A 29 i) := c_aI (hR_k (k := 29) (by decide) (by decide)) (by decide) hi
theorem rl_hHigh_b (hi : i < 120) {β_ : Type} {f_ : Int32 → Option β_} : (jx_aI (hR h b S A) 0 (b + 29) (Int32.ofNat i)).bind f_ = f_ ((A 29 i)) := bnd (rl_hHigh hi)
theorem rs_hHigh (hi : i < 120) : jx_sI (hR h b S A) 0 (b + 29) (Int32.ofNat i) x = some (hR h b S (upA A 29 (upd (A 29) i x))) := (c_sI (hR_k (k := 29) (by decide) (by decide)) (by decide) hi).trans (congrArg some (hR_ha (by decide) (by decide)))
theorem rs_hHigh_b (hi : i < 120) {β_ : Type} {f_ : jx_H → Option β_} : (jx_sI (hR h b S A) 0 (b + 29) (Int32.ofNat i) x).bind f_ = f_ ((hR h b S (upA A 29 (upd (A 29) i x)))) := bnd (rs_hHigh hi)
theorem ra_hTrigger : jx_fA (hR h b S A) b 8 43 = some (b + 30) := c_fA hR_b rfl
theorem ra_hTrigger_b  {β_ : Type} {f_ : Nat → Option β_} : (jx_fA (hR h b S A) b 8 43).bind f_ = f_ ((b + 30)) := bnd (ra_hTrigger )
theorem rl_hTrigger (hi : i < 120) : jx_aI (hR h b S A) 0 (b + 30) (Int32.ofNat i) = some (A 30 i) := c_aI (hR_k (k := 30) (by decide) (by decide)) (by decide) hi
theorem rl_hTrigger_b (hi : i < 120) {β_ : Type} {f_ : Int32 → Option β_} : (jx_aI (hR h b S A) 0 (b + 30) (Int32.ofNat i)).bind f_ = f_ ((A 30 i)) := bnd (rl_hTrigger hi)
theorem rs_hTrigger (hi : i < 120) : jx_sI (hR h b S A) 0 (b + 30) (Int32.ofNat i) x = some (hR h b S (upA A 30 (upd (A 30) i x))) := (c_sI (hR_k (k := 30) (by decide) (by decide)) (by decide) hi).trans (congrArg some (hR_ha (by decide) (by decide)))
theorem rs_hTrigger_b (hi : i < 120) {β_ : Type} {f_ : jx_H → Option β_} : (jx_sI (hR h b S A) 0 (b + 30) (Int32.ofNat i) x).bind f_ = f_ ((hR h b S (upA A 30 (upd (A 30) i x)))) := bnd (rs_hTrigger hi)
theorem ra_hAccessAt : jx_fA (hR h b S A) b 8 44 = some (b + 31) := c_fA hR_b rfl
theorem ra_hAccessAt_b  {β_ : Type} {f_ : Nat → Option β_} : (jx_fA (hR h b S A) b 8 44).bind f_ = f_ ((b + 31)) := bnd (ra_hAccessAt )
theorem rl_hAccessAt (hi : i < 120) : jx_aI (hR h b S A) 0 (b + 31) (Int32.ofNat i) = some (A 31 i) := c_aI (hR_k (k := 31) (by decide) (by decide)) (by decide) hi
theorem rl_hAccessAt_b (hi : i < 120) {β_ : Type} {f_ : Int32 → Option β_} : (jx_aI (hR h b S A) 0 (b + 31) (Int32.ofNat i)).bind f_ = f_ ((A 31 i)) := bnd (rl_hAccessAt hi)
theorem rs_hAccessAt (hi : i < 120) : jx_sI (hR h b S A) 0 (b + 31) (Int32.ofNat i) x = some (hR h b S (upA A 31 (upd (A 31) i x))) := (c_sI (hR_k (k := 31) (by decide) (by decide)) (by decide) hi).trans (congrArg some (hR_ha (by decide) (by decide)))
theorem rs_hAccessAt_b (hi : i < 120) {β_ : Type} {f_ : jx_H → Option β_} : (jx_sI (hR h b S A) 0 (b + 31) (Int32.ofNat i) x).bind f_ = f_ ((hR h b S (upA A 31 (upd (A 31) i x)))) := bnd (rs_hAccessAt hi)
theorem ra_hAccessMany : jx_fA (hR h b S A) b 8 45 = some (b + 32) := c_fA hR_b rfl
theorem ra_hAccessMany_b  {β_ : Type} {f_ : Nat → Option β_} : (jx_fA (hR h b S A) b 8 45).bind f_ = f_ ((b + 32)) := bnd (ra_hAccessMany )
theorem rl_hAccessMany (hi : i < 120) : jx_aI (hR h b S A) 0 (b + 32) (Int32.ofNat i) = some (A 32 i) := c_aI (hR_k (k := 32) (by decide) (by decide)) (by decide) hi
theorem rl_hAccessMany_b (hi : i < 120) {β_ : Type} {f_ : Int32 → Option β_} : (jx_aI (hR h b S A) 0 (b + 32) (Int32.ofNat i)).bind f_ = f_ ((A 32 i)) := bnd (rl_hAccessMany hi)
theorem rs_hAccessMany (hi : i < 120) : jx_sI (hR h b S A) 0 (b + 32) (Int32.ofNat i) x = some (hR h b S (upA A 32 (upd (A 32) i x))) := (c_sI (hR_k (k := 32) (by decide) (by decide)) (by decide) hi).trans (congrArg some (hR_ha (by decide) (by decide)))
theorem rs_hAccessMany_b (hi : i < 120) {β_ : Type} {f_ : jx_H → Option β_} : (jx_sI (hR h b S A) 0 (b + 32) (Int32.ofNat i) x).bind f_ = f_ ((hR h b S (upA A 32 (upd (A 32) i x)))) := bnd (rs_hAccessMany hi)
theorem ra_hAccessKind : jx_fA (hR h b S A) b 8 46 = some (b + 33) := c_fA hR_b rfl
theorem ra_hAccessKind_b  {β_ : Type} {f_ : Nat → Option β_} : (jx_fA (hR h b S A) b 8 46).bind f_ = f_ ((b + 33)) := bnd (ra_hAccessKind )
theorem rl_hAccessKind (hi : i < 600) : jx_aI (hR h b S A) 0 (b + 33) (Int32.ofNat i) = some (A 33 i) := c_aI (hR_k (k := 33) (by decide) (by decide)) (by decide) hi
theorem rl_hAccessKind_b (hi : i < 600) {β_ : Type} {f_ : Int32 → Option β_} : (jx_aI (hR h b S A) 0 (b + 33) (Int32.ofNat i)).bind f_ = f_ ((A 33 i)) := bnd (rl_hAccessKind hi)
theorem rs_hAccessKind (hi : i < 600) : jx_sI (hR h b S A) 0 (b + 33) (Int32.ofNat i) x = some (hR h b S (upA A 33 (upd (A 33) i x))) := (c_sI (hR_k (k := 33) (by decide) (by decide)) (by decide) hi).trans (congrArg some (hR_ha (by decide) (by decide)))
theorem rs_hAccessKind_b (hi : i < 600) {β_ : Type} {f_ : jx_H → Option β_} : (jx_sI (hR h b S A) 0 (b + 33) (Int32.ofNat i) x).bind f_ = f_ ((hR h b S (upA A 33 (upd (A 33) i x)))) := bnd (rs_hAccessKind hi)
theorem ra_hAccessPort : jx_fA (hR h b S A) b 8 47 = some (b + 34) := c_fA hR_b rfl
theorem ra_hAccessPort_b  {β_ : Type} {f_ : Nat → Option β_} : (jx_fA (hR h b S A) b 8 47).bind f_ = f_ ((b + 34)) := bnd (ra_hAccessPort )
theorem rl_hAccessPort (hi : i < 600) : jx_aI (hR h b S A) 0 (b + 34) (Int32.ofNat i) = some (A 34 i) := c_aI (hR_k (k := 34) (by decide) (by decide)) (by decide) hi
theorem rl_hAccessPort_b (hi : i < 600) {β_ : Type} {f_ : Int32 → Option β_} : (jx_aI (hR h b S A) 0 (b + 34) (Int32.ofNat i)).bind f_ = f_ ((A 34 i)) := bnd (rl_hAccessPort hi)
theorem rs_hAccessPort (hi : i < 600) : jx_sI (hR h b S A) 0 (b + 34) (Int32.ofNat i) x = some (hR h b S (upA A 34 (upd (A 34) i x))) := (c_sI (hR_k (k := 34) (by decide) (by decide)) (by decide) hi).trans (congrArg some (hR_ha (by decide) (by decide)))
theorem rs_hAccessPort_b (hi : i < 600) {β_ : Type} {f_ : jx_H → Option β_} : (jx_sI (hR h b S A) 0 (b + 34) (Int32.ofNat i) x).bind f_ = f_ ((hR h b S (upA A 34 (upd (A 34) i x)))) := bnd (rs_hAccessPort hi)
theorem ra_hAccessDatum : jx_fA (hR h b S A) b 8 48 = some (b + 35) := c_fA hR_b rfl
theorem ra_hAccessDatum_b  {β_ : Type} {f_ : Nat → Option β_} : (jx_fA (hR h b S A) b 8 48).bind f_ = f_ ((b + 35)) := bnd (ra_hAccessDatum )
theorem rl_hAccessDatum (hi : i < 600) : jx_aI (hR h b S A) 0 (b + 35) (Int32.ofNat i) = some (A 35 i) := c_aI (hR_k (k := 35) (by decide) (by decide)) (by decide) hi
theorem rl_hAccessDatum_b (hi : i < 600) {β_ : Type} {f_ : Int32 → Option β_} : (jx_aI (hR h b S A) 0 (b + 35) (Int32.ofNat i)).bind f_ = f_ ((A 35 i)) := bnd (rl_hAccessDatum hi)
theorem rs_hAccessDatum (hi : i < 600) : jx_sI (hR h b S A) 0 (b + 35) (Int32.ofNat i) x = some (hR h b S (upA A 35 (upd (A 35) i x))) := (c_sI (hR_k (k := 35) (by decide) (by decide)) (by decide) hi).trans (congrArg some (hR_ha (by decide) (by decide)))
theorem rs_hAccessDatum_b (hi : i < 600) {β_ : Type} {f_ : jx_H → Option β_} : (jx_sI (hR h b S A) 0 (b + 35) (Int32.ofNat i) x).bind f_ = f_ ((hR h b S (upA A 35 (upd (A 35) i x)))) := bnd (rs_hAccessDatum hi)
theorem ra_hText : jx_fA (hR h b S A) b 8 49 = some (b + 36) := c_fA hR_b rfl
theorem ra_hText_b  {β_ : Type} {f_ : Nat → Option β_} : (jx_fA (hR h b S A) b 8 49).bind f_ = f_ ((b + 36)) := bnd (ra_hText )
theorem rl_hText (hi : i < 6000) : jx_aI (hR h b S A) 0 (b + 36) (Int32.ofNat i) = some (A 36 i) := c_aI (hR_k (k := 36) (by decide) (by decide)) (by decide) hi
theorem rl_hText_b (hi : i < 6000) {β_ : Type} {f_ : Int32 → Option β_} : (jx_aI (hR h b S A) 0 (b + 36) (Int32.ofNat i)).bind f_ = f_ ((A 36 i)) := bnd (rl_hText hi)
theorem rs_hText (hi : i < 6000) : jx_sI (hR h b S A) 0 (b + 36) (Int32.ofNat i) x = some (hR h b S (upA A 36 (upd (A 36) i x))) := (c_sI (hR_k (k := 36) (by decide) (by decide)) (by decide) hi).trans (congrArg some (hR_ha (by decide) (by decide)))
theorem rs_hText_b (hi : i < 6000) {β_ : Type} {f_ : jx_H → Option β_} : (jx_sI (hR h b S A) 0 (b + 36) (Int32.ofNat i) x).bind f_ = f_ ((hR h b S (upA A 36 (upd (A 36) i x)))) := bnd (rs_hText hi)
theorem ra_hAt : jx_fA (hR h b S A) b 8 50 = some (b + 37) := c_fA hR_b rfl
theorem ra_hAt_b  {β_ : Type} {f_ : Nat → Option β_} : (jx_fA (hR h b S A) b 8 50).bind f_ = f_ ((b + 37)) := bnd (ra_hAt )
theorem rl_hAt (hi : i < 121) : jx_aI (hR h b S A) 0 (b + 37) (Int32.ofNat i) = some (A 37 i) := c_aI (hR_k (k := 37) (by decide) (by decide)) (by decide) hi
theorem rl_hAt_b (hi : i < 121) {β_ : Type} {f_ : Int32 → Option β_} : (jx_aI (hR h b S A) 0 (b + 37) (Int32.ofNat i)).bind f_ = f_ ((A 37 i)) := bnd (rl_hAt hi)
theorem rs_hAt (hi : i < 121) : jx_sI (hR h b S A) 0 (b + 37) (Int32.ofNat i) x = some (hR h b S (upA A 37 (upd (A 37) i x))) := (c_sI (hR_k (k := 37) (by decide) (by decide)) (by decide) hi).trans (congrArg some (hR_ha (by decide) (by decide)))
theorem rs_hAt_b (hi : i < 121) {β_ : Type} {f_ : jx_H → Option β_} : (jx_sI (hR h b S A) 0 (b + 37) (Int32.ofNat i) x).bind f_ = f_ ((hR h b S (upA A 37 (upd (A 37) i x)))) := bnd (rs_hAt hi)
theorem rg_editions : jx_fI (hR h b S A) b 8 51 = some (S 51) := c_fI hR_b rfl
theorem rg_editions_b  {β_ : Type} {f_ : Int32 → Option β_} : (jx_fI (hR h b S A) b 8 51).bind f_ = f_ ((S 51)) := bnd (rg_editions )
theorem rp_editions : jx_put (hR h b S A) b 8 51 (.int x) = some (hR h b (upd S 51 x) A) := (c_put hR_b (Nat.le_of_ble_eq_true rfl)).trans (congrArg some (hR_hs (S' := upd S 51 x)))
theorem rp_editions_b  {β_ : Type} {f_ : jx_H → Option β_} : (jx_put (hR h b S A) b 8 51 (.int x)).bind f_ = f_ ((hR h b (upd S 51 x) A)) := bnd (rp_editions )
theorem ra_eRows : jx_fA (hR h b S A) b 8 52 = some (b + 38) := c_fA hR_b rfl
theorem ra_eRows_b  {β_ : Type} {f_ : Nat → Option β_} : (jx_fA (hR h b S A) b 8 52).bind f_ = f_ ((b + 38)) := bnd (ra_eRows )
theorem rl_eRows (hi : i < 8) : jx_aI (hR h b S A) 0 (b + 38) (Int32.ofNat i) = some (A 38 i) := c_aI (hR_k (k := 38) (by decide) (by decide)) (by decide) hi
theorem rl_eRows_b (hi : i < 8) {β_ : Type} {f_ : Int32 → Option β_} : (jx_aI (hR h b S A) 0 (b + 38) (Int32.ofNat i)).bind f_ = f_ ((A 38 i)) := bnd (rl_eRows hi)
theorem rs_eRows (hi : i < 8) : jx_sI (hR h b S A) 0 (b + 38) (Int32.ofNat i) x = some (hR h b S (upA A 38 (upd (A 38) i x))) := (c_sI (hR_k (k := 38) (by decide) (by decide)) (by decide) hi).trans (congrArg some (hR_ha (by decide) (by decide)))
theorem rs_eRows_b (hi : i < 8) {β_ : Type} {f_ : jx_H → Option β_} : (jx_sI (hR h b S A) 0 (b + 38) (Int32.ofNat i) x).bind f_ = f_ ((hR h b S (upA A 38 (upd (A 38) i x)))) := bnd (rs_eRows hi)
theorem ra_eBlock : jx_fA (hR h b S A) b 8 53 = some (b + 39) := c_fA hR_b rfl
theorem ra_eBlock_b  {β_ : Type} {f_ : Nat → Option β_} : (jx_fA (hR h b S A) b 8 53).bind f_ = f_ ((b + 39)) := bnd (ra_eBlock )
theorem rl_eBlock (hi : i < 960) : jx_aI (hR h b S A) 0 (b + 39) (Int32.ofNat i) = some (A 39 i) := c_aI (hR_k (k := 39) (by decide) (by decide)) (by decide) hi
theorem rl_eBlock_b (hi : i < 960) {β_ : Type} {f_ : Int32 → Option β_} : (jx_aI (hR h b S A) 0 (b + 39) (Int32.ofNat i)).bind f_ = f_ ((A 39 i)) := bnd (rl_eBlock hi)
theorem rs_eBlock (hi : i < 960) : jx_sI (hR h b S A) 0 (b + 39) (Int32.ofNat i) x = some (hR h b S (upA A 39 (upd (A 39) i x))) := (c_sI (hR_k (k := 39) (by decide) (by decide)) (by decide) hi).trans (congrArg some (hR_ha (by decide) (by decide)))
theorem rs_eBlock_b (hi : i < 960) {β_ : Type} {f_ : jx_H → Option β_} : (jx_sI (hR h b S A) 0 (b + 39) (Int32.ofNat i) x).bind f_ = f_ ((hR h b S (upA A 39 (upd (A 39) i x)))) := bnd (rs_eBlock hi)
theorem ra_eAt : jx_fA (hR h b S A) b 8 54 = some (b + 40) := c_fA hR_b rfl
theorem ra_eAt_b  {β_ : Type} {f_ : Nat → Option β_} : (jx_fA (hR h b S A) b 8 54).bind f_ = f_ ((b + 40)) := bnd (ra_eAt )
theorem rl_eAt (hi : i < 968) : jx_aI (hR h b S A) 0 (b + 40) (Int32.ofNat i) = some (A 40 i) := c_aI (hR_k (k := 40) (by decide) (by decide)) (by decide) hi
theorem rl_eAt_b (hi : i < 968) {β_ : Type} {f_ : Int32 → Option β_} : (jx_aI (hR h b S A) 0 (b + 40) (Int32.ofNat i)).bind f_ = f_ ((A 40 i)) := bnd (rl_eAt hi)
theorem rs_eAt (hi : i < 968) : jx_sI (hR h b S A) 0 (b + 40) (Int32.ofNat i) x = some (hR h b S (upA A 40 (upd (A 40) i x))) := (c_sI (hR_k (k := 40) (by decide) (by decide)) (by decide) hi).trans (congrArg some (hR_ha (by decide) (by decide)))
theorem rs_eAt_b (hi : i < 968) {β_ : Type} {f_ : jx_H → Option β_} : (jx_sI (hR h b S A) 0 (b + 40) (Int32.ofNat i) x).bind f_ = f_ ((hR h b S (upA A 40 (upd (A 40) i x)))) := bnd (rs_eAt hi)
theorem ra_eText : jx_fA (hR h b S A) b 8 55 = some (b + 41) := c_fA hR_b rfl
theorem ra_eText_b  {β_ : Type} {f_ : Nat → Option β_} : (jx_fA (hR h b S A) b 8 55).bind f_ = f_ ((b + 41)) := bnd (ra_eText )
theorem rl_eText (hi : i < 48000) : jx_aI (hR h b S A) 0 (b + 41) (Int32.ofNat i) = some (A 41 i) := c_aI (hR_k (k := 41) (by decide) (by decide)) (by decide) hi
theorem rl_eText_b (hi : i < 48000) {β_ : Type} {f_ : Int32 → Option β_} : (jx_aI (hR h b S A) 0 (b + 41) (Int32.ofNat i)).bind f_ = f_ ((A 41 i)) := bnd (rl_eText hi)
theorem rs_eText (hi : i < 48000) : jx_sI (hR h b S A) 0 (b + 41) (Int32.ofNat i) x = some (hR h b S (upA A 41 (upd (A 41) i x))) := (c_sI (hR_k (k := 41) (by decide) (by decide)) (by decide) hi).trans (congrArg some (hR_ha (by decide) (by decide)))
theorem rs_eText_b (hi : i < 48000) {β_ : Type} {f_ : jx_H → Option β_} : (jx_sI (hR h b S A) 0 (b + 41) (Int32.ofNat i) x).bind f_ = f_ ((hR h b S (upA A 41 (upd (A 41) i x)))) := bnd (rs_eText hi)
theorem ra_seen : jx_fA (hR h b S A) b 8 56 = some (b + 42) := c_fA hR_b rfl
theorem ra_seen_b  {β_ : Type} {f_ : Nat → Option β_} : (jx_fA (hR h b S A) b 8 56).bind f_ = f_ ((b + 42)) := bnd (ra_seen )
theorem rl_seen (hi : i < 120) : jx_aI (hR h b S A) 3 (b + 42) (Int32.ofNat i) = some (A 42 i) := c_aI (hR_k (k := 42) (by decide) (by decide)) (by decide) hi
theorem rl_seen_b (hi : i < 120) {β_ : Type} {f_ : Int32 → Option β_} : (jx_aI (hR h b S A) 3 (b + 42) (Int32.ofNat i)).bind f_ = f_ ((A 42 i)) := bnd (rl_seen hi)
theorem rs_seen (hi : i < 120) : jx_sI (hR h b S A) 3 (b + 42) (Int32.ofNat i) x = some (hR h b S (upA A 42 (upd (A 42) i x))) := (c_sI (hR_k (k := 42) (by decide) (by decide)) (by decide) hi).trans (congrArg some (hR_ha (by decide) (by decide)))
theorem rs_seen_b (hi : i < 120) {β_ : Type} {f_ : jx_H → Option β_} : (jx_sI (hR h b S A) 3 (b + 42) (Int32.ofNat i) x).bind f_ = f_ ((hR h b S (upA A 42 (upd (A 42) i x)))) := bnd (rs_seen hi)
end JHR
theorem upd_at {f : Nat → Int32} {k : Nat} {x : Int32} : upd f k x k = x := if_pos rfl
theorem upd_of {f : Nat → Int32} {k j : Nat} {x : Int32} (e : j ≠ k) : upd f k x j = f j := if_neg e
theorem upA_at {A : Nat → Nat → Int32} {k : Nat} {g : Nat → Int32} : upA A k g k = g := if_pos rfl
theorem upA_of {A : Nat → Nat → Int32} {k j : Nat} {g : Nat → Int32} (e : j ≠ k) : upA A k g j = A j := if_neg e
theorem upd_upd {f : Nat → Int32} {k : Nat} {x y : Int32} : upd (upd f k x) k y = upd f k y := by
  funext j
  unfold upd
  by_cases e : j = k
  · rw [if_pos e, if_pos e]
  · rw [if_neg e, if_neg e, if_neg e]
theorem upA_upA {A : Nat → Nat → Int32} {k : Nat} {f g : Nat → Int32} : upA (upA A k f) k g = upA A k g := by
  funext j
  unfold upA
  by_cases e : j = k
  · rw [if_pos e, if_pos e]
  · rw [if_neg e, if_neg e, if_neg e]
theorem upd_id {f : Nat → Int32} {k : Nat} : upd f k (f k) = f := by
  funext j
  unfold upd
  by_cases e : j = k
  · rw [if_pos e, e]
  · rw [if_neg e]
