/-! THE OPS, and what each is on the machine -/
def jo_drop (i : Nat) : jx_F := fun k s => k (s.1.set i none, s.2.1, s.2.2)
def jo_const (v : Value) : jx_F := fun k s => k (s.1, v :: s.2.1, s.2.2)
def jo_iload (i : Nat) : jx_F := fun k s => match s.1[i]? with
  | some (some (.int x)) => k (s.1, .int x :: s.2.1, s.2.2)
  | _ => none
def jo_lload (i : Nat) : jx_F := fun k s => match s.1[i]? with
  | some (some (.long x)) => k (s.1, .long x :: s.2.1, s.2.2)
  | _ => none
def jo_aload (i : Nat) : jx_F := fun k s => match s.1[i]? with
  | some (some (.ref x)) => k (s.1, .ref x :: s.2.1, s.2.2)
  | some (some .null) => k (s.1, .null :: s.2.1, s.2.2)
  | _ => none
def jo_istore (i : Nat) : jx_F := fun k s => match s.2.1 with
  | .int x :: st => if jx_pre s.1 i then k (s.1.set i (some (.int x)), st, s.2.2) else none
  | _ => none
def jo_lstore (i : Nat) : jx_F := fun k s => match s.2.1 with
  | .long x :: st => if jx_pre s.1 i then k ((s.1.set i (some (.long x))).set (i + 1) none, st, s.2.2) else none
  | _ => none
def jo_astore (i : Nat) : jx_F := fun k s => match s.2.1 with
  | .ref x :: st => if jx_pre s.1 i then k (s.1.set i (some (.ref x)), st, s.2.2) else none
  | .null :: st => if jx_pre s.1 i then k (s.1.set i (some .null), st, s.2.2) else none
  | _ => none
def jo_iinc (i : Nat) (n : Int32) : jx_F := fun k s => match s.1[i]? with
  | some (some (.int x)) => if jx_pre s.1 i then k (s.1.set i (some (.int (x + n))), s.2.1, s.2.2) else none
  | _ => none
/-- two ints, one int -/
def jo_ii (f : Int32 → Int32 → Int32) : jx_F := fun k s => match s.2.1 with
  | .int y :: .int x :: st => k (s.1, .int (f x y) :: st, s.2.2)
  | _ => none
/-- division: the lower one may not be 0 -/
def jo_id (f : Int32 → Int32 → Int32) : jx_F := fun k s => match s.2.1 with
  | .int y :: .int x :: st => if y = 0 then none else k (s.1, .int (f x y) :: st, s.2.2)
  | _ => none
def jo_i1 (f : Int32 → Int32) : jx_F := fun k s => match s.2.1 with
  | .int x :: st => k (s.1, .int (f x) :: st, s.2.2)
  | _ => none
def jo_ll (f : Int64 → Int64 → Int64) : jx_F := fun k s => match s.2.1 with
  | .long y :: .long x :: st => k (s.1, .long (f x y) :: st, s.2.2)
  | _ => none
def jo_ld (f : Int64 → Int64 → Int64) : jx_F := fun k s => match s.2.1 with
  | .long y :: .long x :: st => if y = 0 then none else k (s.1, .long (f x y) :: st, s.2.2)
  | _ => none
def jo_lc (f : Int64 → Int64 → Int32) : jx_F := fun k s => match s.2.1 with
  | .long y :: .long x :: st => k (s.1, .int (f x y) :: st, s.2.2)
  | _ => none
def jo_i2l : jx_F := fun k s => match s.2.1 with
  | .int x :: st => k (s.1, .long x.toInt64 :: st, s.2.2)
  | _ => none
def jo_l2i : jx_F := fun k s => match s.2.1 with
  | .long x :: st => k (s.1, .int x.toInt32 :: st, s.2.2)
  | _ => none
def jo_dup : jx_F := fun k s => match s.2.1 with
  | .int x :: st => k (s.1, .int x :: .int x :: st, s.2.2)
  | .ref x :: st => k (s.1, .ref x :: .ref x :: st, s.2.2)
  | .null :: st => k (s.1, .null :: .null :: st, s.2.2)
  | _ => none
def jo_pop : jx_F := fun k s => match s.2.1 with
  | .int _ :: st => k (s.1, st, s.2.2)
  | .ref _ :: st => k (s.1, st, s.2.2)
  | .null :: st => k (s.1, st, s.2.2)
  | _ => none
/-- fields: k of class ci -/
def jx_fld (h : jx_H) (a ci k : Nat) : Option Value := match h.2.2 a with
  | some (.inl (c, fs)) => if c = ci then fs[k]? else none
  | _ => none
def jx_fI (h : jx_H) (a ci k : Nat) : Option Int32 := match jx_fld h a ci k with
  | some (.int x) => some x
  | _ => none
def jx_fJ (h : jx_H) (a ci k : Nat) : Option Int64 := match jx_fld h a ci k with
  | some (.long x) => some x
  | _ => none
def jx_fA (h : jx_H) (a ci k : Nat) : Option Nat := match jx_fld h a ci k with
  | some (.ref x) => some x
  | _ => none
def jk_o {ρ : Type} (o : Option Nat) (f : Nat → ρ) (g : ρ) : ρ := match o with
  | some x => f x
  | none => g
def jo_getI (ci kf : Nat) : jx_F := fun k s => match s.2.1 with
  | .ref a :: st => (jx_fI s.2.2 a ci kf).bind fun x => k (s.1, .int x :: st, s.2.2)
  | _ => none
def jo_getJ (ci kf : Nat) : jx_F := fun k s => match s.2.1 with
  | .ref a :: st => (jx_fJ s.2.2 a ci kf).bind fun x => k (s.1, .long x :: st, s.2.2)
  | _ => none
def jo_getA (ci kf : Nat) : jx_F := fun k s => match s.2.1 with
  | .ref a :: st => (jx_fA s.2.2 a ci kf).bind fun x => k (s.1, .ref x :: st, s.2.2)
  | _ => none
def jx_put (h : jx_H) (a ci k : Nat) (v : Value) : Option jx_H := match h.2.2 a with
  | some (.inl (c, fs)) => if c = ci ∧ k < fs.length then some (h.1, h.2.1, jx_up h.2.2 a (.inl (c, fs.set k v))) else none
  | _ => none
def jo_putI (ci kf : Nat) : jx_F := fun k s => match s.2.1 with
  | .int x :: .ref a :: st => (jx_put s.2.2 a ci kf (.int x)).bind fun h => k (s.1, st, h)
  | _ => none
def jo_putZ (ci kf : Nat) : jx_F := fun k s => match s.2.1 with
  | .int x :: .ref a :: st => if x = 0 ∨ x = 1 then (jx_put s.2.2 a ci kf (.int x)).bind (fun h => k (s.1, st, h)) else none
  | _ => none
def jo_putJ (ci kf : Nat) : jx_F := fun k s => match s.2.1 with
  | .long x :: .ref a :: st => (jx_put s.2.2 a ci kf (.long x)).bind fun h => k (s.1, st, h)
  | _ => none
def jo_putA (ci kf : Nat) : jx_F := fun k s => match s.2.1 with
  | .ref x :: .ref a :: st => (jx_put s.2.2 a ci kf (.ref x)).bind fun h => k (s.1, st, h)
  | _ => none
/-- arrays: of type t -/
def jx_in (i : Int32) (n : Nat) : Prop := 0 ≤ i.toInt ∧ i.toInt < n
def jx_inB (i : Int32) (n : Nat) : Bool := decide (0 ≤ i.toInt) && decide (i.toInt < n)
theorem jx_inB_iff {i : Int32} {n : Nat} : jx_inB i n = true ↔ vp_in i n := by
  rw [vp_in_iff]; simp [jx_inB]
def jx_aI (h : jx_H) (t a : Nat) (i : Int32) : Option Int32 := match h.2.2 a with
  | some (.inr (t', n, .inl f)) => if t' = t ∧ jx_inB i n = true then some (f i.toNatClampNeg) else none
  | _ => none
def jx_aJ (h : jx_H) (t a : Nat) (i : Int32) : Option Int64 := match h.2.2 a with
  | some (.inr (t', n, .inr (.inl f))) => if t' = t ∧ jx_inB i n = true then some (f i.toNatClampNeg) else none
  | _ => none
def jx_aA (h : jx_H) (t a : Nat) (i : Int32) : Option (Option Nat) := match h.2.2 a with
  | some (.inr (t', n, .inr (.inr (.inr (.inr f))))) => if t' = t ∧ jx_inB i n = true then some (f i.toNatClampNeg) else none
  | _ => none
def jo_iald (t : Nat) : jx_F := fun k s => match s.2.1 with
  | .int i :: .ref a :: st => (jx_aI s.2.2 t a i).bind fun x => k (s.1, .int x :: st, s.2.2)
  | _ => none
def jo_lald (t : Nat) : jx_F := fun k s => match s.2.1 with
  | .int i :: .ref a :: st => (jx_aJ s.2.2 t a i).bind fun x => k (s.1, .long x :: st, s.2.2)
  | _ => none
def jo_aald (t : Nat) : jx_F := fun k s => match s.2.1 with
  | .int i :: .ref a :: st => (jx_aA s.2.2 t a i).bind fun o => jk_o o (fun x => k (s.1, .ref x :: st, s.2.2)) (k (s.1, .null :: st, s.2.2))
  | _ => none
def jx_sI (h : jx_H) (t a : Nat) (i x : Int32) : Option jx_H := match h.2.2 a with
  | some (.inr (t', n, .inl f)) => if t' = t ∧ jx_inB i n = true then some (h.1, h.2.1, jx_up h.2.2 a (.inr (t', n, .inl (upd f i.toNatClampNeg x)))) else none
  | _ => none
def jx_sJ (h : jx_H) (t a : Nat) (i : Int32) (x : Int64) : Option jx_H := match h.2.2 a with
  | some (.inr (t', n, .inr (.inl f))) => if t' = t ∧ jx_inB i n = true then some (h.1, h.2.1, jx_up h.2.2 a (.inr (t', n, .inr (.inl (vp_updL f i.toNatClampNeg x))))) else none
  | _ => none
/-- int[], byte[] (a byte is what it narrows to) -/
def jo_iast (t : Nat) : jx_F := fun k s => match s.2.1 with
  | .int x :: .int i :: .ref a :: st => (jx_sI s.2.2 t a i x).bind fun h => k (s.1, st, h)
  | _ => none
def jo_bast (t : Nat) : jx_F := fun k s => match s.2.1 with
  | .int x :: .int i :: .ref a :: st => (jx_sI s.2.2 t a i x.toInt8.toInt32).bind fun h => k (s.1, st, h)
  | _ => none
def jo_last (t : Nat) : jx_F := fun k s => match s.2.1 with
  | .long x :: .int i :: .ref a :: st => (jx_sJ s.2.2 t a i x).bind fun h => k (s.1, st, h)
  | _ => none
/-- an object of class ci into an array of references of type t -/
def jx_sA (h : jx_H) (t a : Nat) (i : Int32) (ci x : Nat) : Option jx_H := match h.2.2 x with
  | some (.inl (c, _)) => match h.2.2 a with
    | some (.inr (t', n, .inr (.inr (.inr (.inr f))))) => if c = ci ∧ t' = t ∧ jx_inB i n = true then some (h.1, h.2.1, jx_up h.2.2 a (.inr (t', n, .inr (.inr (.inr (.inr (va_up f i.toNatClampNeg (some x)))))))) else none
    | _ => none
  | _ => none
def jo_aast (t ci : Nat) : jx_F := fun k s => match s.2.1 with
  | .ref x :: .int i :: .ref a :: st => (jx_sA s.2.2 t a i ci x).bind fun h => k (s.1, st, h)
  | _ => none
def jx_len (h : jx_H) (t a : Nat) : Option Nat := match h.2.2 a with
  | some (.inr (t', n, _)) => if t' = t then some n else none
  | _ => none
def jo_alen (t : Nat) : jx_F := fun k s => match s.2.1 with
  | .ref a :: st => (jx_len s.2.2 t a).bind fun n => k (s.1, .int (Int32.ofNat n) :: st, s.2.2)
  | _ => none
/-- new arrays of n places (n below 2 ^ 26), new objects -/
def jo_newa (t : Nat) (z : (Nat → Int32) ⊕ (Nat → Int64) ⊕ (Nat → UInt32) ⊕ (Nat → UInt64) ⊕ (Nat → Option Nat)) : jx_F := fun k s => match s.2.1 with
  | .int n :: st => if jx_inB n 67108864 then k (s.1, .ref s.2.2.1 :: st, (s.2.2.1 + 1, s.2.2.2.1 + n.toNatClampNeg, jx_up s.2.2.2.2 s.2.2.1 (.inr (t, n.toNatClampNeg, z)))) else none
  | _ => none
def jo_new (ci N : Nat) (fs : List Value) : jx_F := fun k s => k (s.1, .ref s.2.2.1 :: s.2.1, (s.2.2.1 + 1, s.2.2.2.1 + N, jx_up s.2.2.2.2 s.2.2.1 (.inl (ci, fs))))
/-- Object's own constructor -/
def jo_objI : jx_F := fun k s => match s.2.1 with
  | .ref _ :: st => if Nat.ble (st.map fun v => v.category).sum 8 then k (s.1, st, s.2.2) else none
  | _ => none
