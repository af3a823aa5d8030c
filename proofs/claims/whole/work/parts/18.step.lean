/-! A BLOCK, STEP BY STEP: each op ahead of what goes on; then the ends of blocks -/
/-- an int that is a truth value -/
def jzo (x : Int32) : Option Unit := if x = 0 ∨ x = 1 then some () else none
/-- a truth value as an int -/
def jbi (b : Bool) : Int32 := cond b (Int32.ofNat 1) (Int32.ofNat 0)
theorem jzo_0 : jzo (Int32.ofNat 0) = some () := rfl
theorem jzo_1 : jzo (Int32.ofNat 1) = some () := rfl
theorem jzo_b (b : Bool) : jzo (jbi b) = some () := by cases b <;> rfl
/-- a new cell -/
def jn (h : jx_H) (N : Nat) (c : jx_C) : jx_H := (h.1 + 1, h.2.1 + N, jx_up h.2.2 h.1 c)
/-- a new array of n places -/
def jna (h : jx_H) (t : Nat) (n : Int32) (z : (Nat → Int32) ⊕ (Nat → Int64) ⊕ (Nat → UInt32) ⊕ (Nat → UInt64) ⊕ (Nat → Option Nat)) : Option jx_H := if jx_inB n 67108864 = true then some (jn h n.toNatClampNeg (.inr (t, n.toNatClampNeg, z))) else none
section JY
variable {os : List jx_F} {k : jx_K} {l l' : jx_L} {st : List Value} {h : jx_H} {r : Option jx_R} {i a t ci kf : Nat} {x y n : Int32} {u w : Int64}
theorem y_const {v : Value} (q : jx_run os k (l, v :: st, h) = r) : jx_run (jo_const v :: os) k (l, st, h) = r := q
theorem y_drop (e : l.set i none = l') (q : jx_run os k (l', st, h) = r) : jx_run (jo_drop i :: os) k (l, st, h) = r := by subst e; exact q
theorem y_il (e : l[i]? = some (some (.int x))) (q : jx_run os k (l, .int x :: st, h) = r) : jx_run (jo_iload i :: os) k (l, st, h) = r := by simp only [jx_run, jo_iload, e]; exact q
theorem y_jl (e : l[i]? = some (some (.long u))) (q : jx_run os k (l, .long u :: st, h) = r) : jx_run (jo_lload i :: os) k (l, st, h) = r := by simp only [jx_run, jo_lload, e]; exact q
theorem y_al (e : l[i]? = some (some (.ref a))) (q : jx_run os k (l, .ref a :: st, h) = r) : jx_run (jo_aload i :: os) k (l, st, h) = r := by simp only [jx_run, jo_aload, e]; exact q
theorem y_nl (e : l[i]? = some (some .null)) (q : jx_run os k (l, .null :: st, h) = r) : jx_run (jo_aload i :: os) k (l, st, h) = r := by simp only [jx_run, jo_aload, e]; exact q
theorem y_is (p : jx_pre l i = true) (e : l.set i (some (.int x)) = l') (q : jx_run os k (l', st, h) = r) : jx_run (jo_istore i :: os) k (l, .int x :: st, h) = r := by simp only [jx_run, jo_istore, p, e, if_true]; exact q
theorem y_js (p : jx_pre l i = true) (e : (l.set i (some (.long u))).set (i + 1) none = l') (q : jx_run os k (l', st, h) = r) : jx_run (jo_lstore i :: os) k (l, .long u :: st, h) = r := by simp only [jx_run, jo_lstore, p, e, if_true]; exact q
theorem y_as (p : jx_pre l i = true) (e : l.set i (some (.ref a)) = l') (q : jx_run os k (l', st, h) = r) : jx_run (jo_astore i :: os) k (l, .ref a :: st, h) = r := by simp only [jx_run, jo_astore, p, e, if_true]; exact q
theorem y_ns (p : jx_pre l i = true) (e : l.set i (some .null) = l') (q : jx_run os k (l', st, h) = r) : jx_run (jo_astore i :: os) k (l, .null :: st, h) = r := by simp only [jx_run, jo_astore, p, e, if_true]; exact q
theorem y_inc (e : l[i]? = some (some (.int x))) (p : jx_pre l i = true) (e' : l.set i (some (.int (x + n))) = l') (q : jx_run os k (l', st, h) = r) : jx_run (jo_iinc i n :: os) k (l, st, h) = r := by simp only [jx_run, jo_iinc, e, p, e', if_true]; exact q
theorem y_ii {f : Int32 → Int32 → Int32} (q : jx_run os k (l, .int (f x y) :: st, h) = r) : jx_run (jo_ii f :: os) k (l, .int y :: .int x :: st, h) = r := q
theorem y_id {f : Int32 → Int32 → Int32} (q : jx_run os k (l, .int (f x y) :: st, h) = r) : jx_run (jo_id f :: os) k (l, .int y :: .int x :: st, h) = if y = Int32.ofNat 0 then none else r := by rw [← q]; rfl
theorem y_i1 {f : Int32 → Int32} (q : jx_run os k (l, .int (f x) :: st, h) = r) : jx_run (jo_i1 f :: os) k (l, .int x :: st, h) = r := q
theorem y_jj {f : Int64 → Int64 → Int64} (q : jx_run os k (l, .long (f u w) :: st, h) = r) : jx_run (jo_ll f :: os) k (l, .long w :: .long u :: st, h) = r := q
theorem y_jd {f : Int64 → Int64 → Int64} (q : jx_run os k (l, .long (f u w) :: st, h) = r) : jx_run (jo_ld f :: os) k (l, .long w :: .long u :: st, h) = if w = 0 then none else r := by rw [← q]; rfl
theorem y_jc {f : Int64 → Int64 → Int32} (q : jx_run os k (l, .int (f u w) :: st, h) = r) : jx_run (jo_lc f :: os) k (l, .long w :: .long u :: st, h) = r := q
theorem y_lsh (q : jx_run os k (l, .long (u <<< (y.toInt64 &&& 63)) :: st, h) = r) : jx_run (jo_lsh :: os) k (l, .int y :: .long u :: st, h) = r := q
theorem y_i2l (q : jx_run os k (l, .long x.toInt64 :: st, h) = r) : jx_run (jo_i2l :: os) k (l, .int x :: st, h) = r := q
theorem y_l2i (q : jx_run os k (l, .int u.toInt32 :: st, h) = r) : jx_run (jo_l2i :: os) k (l, .long u :: st, h) = r := q
theorem y_dupI (q : jx_run os k (l, .int x :: .int x :: st, h) = r) : jx_run (jo_dup :: os) k (l, .int x :: st, h) = r := q
theorem y_dupA (q : jx_run os k (l, .ref a :: .ref a :: st, h) = r) : jx_run (jo_dup :: os) k (l, .ref a :: st, h) = r := q
theorem y_dupN (q : jx_run os k (l, .null :: .null :: st, h) = r) : jx_run (jo_dup :: os) k (l, .null :: st, h) = r := q
theorem y_dup2 (q : jx_run os k (l, .int x :: .ref a :: .int x :: .ref a :: st, h) = r) : jx_run (jo_dup2 :: os) k (l, .int x :: .ref a :: st, h) = r := q
theorem y_popI (q : jx_run os k (l, st, h) = r) : jx_run (jo_pop :: os) k (l, .int x :: st, h) = r := q
theorem y_popA (q : jx_run os k (l, st, h) = r) : jx_run (jo_pop :: os) k (l, .ref a :: st, h) = r := q
theorem y_popN (q : jx_run os k (l, st, h) = r) : jx_run (jo_pop :: os) k (l, .null :: st, h) = r := q
theorem y_obj (p : Nat.ble (st.map fun v => v.category).sum 8 = true) (q : jx_run os k (l, st, h) = r) : jx_run (jo_objI :: os) k (l, .ref a :: st, h) = r := by simp only [jx_run, jo_objI, p, if_true]; exact q
theorem y_m2 {f : Int32 → Int32 → Int32} (p : Nat.ble (st.map fun v => v.category).sum 7 = true) (q : jx_run os k (l, .int (f x y) :: st, h) = r) : jx_run (jo_m2 f :: os) k (l, .int y :: .int x :: st, h) = r := by simp only [jx_run, jo_m2, p, if_true]; exact q
theorem y_m1 {f : Int32 → Int32} (p : Nat.ble (st.map fun v => v.category).sum 7 = true) (q : jx_run os k (l, .int (f x) :: st, h) = r) : jx_run (jo_m1 f :: os) k (l, .int x :: st, h) = r := by simp only [jx_run, jo_m1, p, if_true]; exact q
theorem y_getI {R : Int32 → Option jx_R} (q : ∀ v, jx_run os k (l, .int v :: st, h) = R v) : jx_run (jo_getI ci kf :: os) k (l, .ref a :: st, h) = (jx_fI h a ci kf).bind R := congrArg (Option.bind (jx_fI h a ci kf)) (funext q)
theorem y_getJ {R : Int64 → Option jx_R} (q : ∀ v, jx_run os k (l, .long v :: st, h) = R v) : jx_run (jo_getJ ci kf :: os) k (l, .ref a :: st, h) = (jx_fJ h a ci kf).bind R := congrArg (Option.bind (jx_fJ h a ci kf)) (funext q)
theorem y_getA {R : Nat → Option jx_R} (q : ∀ v, jx_run os k (l, .ref v :: st, h) = R v) : jx_run (jo_getA ci kf :: os) k (l, .ref a :: st, h) = (jx_fA h a ci kf).bind R := congrArg (Option.bind (jx_fA h a ci kf)) (funext q)
theorem y_putI {R : jx_H → Option jx_R} (q : ∀ g, jx_run os k (l, st, g) = R g) : jx_run (jo_putI ci kf :: os) k (l, .int x :: .ref a :: st, h) = (jx_put h a ci kf (.int x)).bind R := congrArg (Option.bind (jx_put h a ci kf (.int x))) (funext q)
theorem y_putJ {R : jx_H → Option jx_R} (q : ∀ g, jx_run os k (l, st, g) = R g) : jx_run (jo_putJ ci kf :: os) k (l, .long u :: .ref a :: st, h) = (jx_put h a ci kf (.long u)).bind R := congrArg (Option.bind (jx_put h a ci kf (.long u))) (funext q)
theorem y_putA {b : Nat} {R : jx_H → Option jx_R} (q : ∀ g, jx_run os k (l, st, g) = R g) : jx_run (jo_putA ci kf :: os) k (l, .ref b :: .ref a :: st, h) = (jx_put h a ci kf (.ref b)).bind R := congrArg (Option.bind (jx_put h a ci kf (.ref b))) (funext q)
theorem y_putZ {R : jx_H → Option jx_R} (q : ∀ g, jx_run os k (l, st, g) = R g) : jx_run (jo_putZ ci kf :: os) k (l, .int x :: .ref a :: st, h) = (jzo x).bind fun _ => (jx_put h a ci kf (.int x)).bind R := by
  have e : R = fun g => jx_run os k (l, st, g) := (funext q).symm
  subst e
  by_cases c : x = 0 ∨ x = 1
  · simp only [jx_run, jo_putZ, jzo, if_pos c, Option.bind_some]
  · simp only [jx_run, jo_putZ, jzo, if_neg c, Option.bind_none]
theorem y_zst {b : Nat} {R : jx_H → Option jx_R} (q : ∀ g, jx_run os k (l, st, g) = R g) : jx_run (jo_zast t :: os) k (l, .int x :: .int y :: .ref b :: st, h) = (jzo x).bind fun _ => (jx_sI h t b y x).bind R := by
  have e : R = fun g => jx_run os k (l, st, g) := (funext q).symm
  subst e
  by_cases c : x = 0 ∨ x = 1
  · simp only [jx_run, jo_zast, jzo, if_pos c, Option.bind_some]
  · simp only [jx_run, jo_zast, jzo, if_neg c, Option.bind_none]
theorem y_ild {R : Int32 → Option jx_R} (q : ∀ v, jx_run os k (l, .int v :: st, h) = R v) : jx_run (jo_iald t :: os) k (l, .int x :: .ref a :: st, h) = (jx_aI h t a x).bind R := congrArg (Option.bind (jx_aI h t a x)) (funext q)
theorem y_jld {R : Int64 → Option jx_R} (q : ∀ v, jx_run os k (l, .long v :: st, h) = R v) : jx_run (jo_lald t :: os) k (l, .int x :: .ref a :: st, h) = (jx_aJ h t a x).bind R := congrArg (Option.bind (jx_aJ h t a x)) (funext q)
theorem y_ald {R : Option Nat → Option jx_R} {R1 : Nat → Option jx_R} {R2 : Option jx_R} (e : R = fun o => jk_o o R1 R2) (q : ∀ v, jx_run os k (l, .ref v :: st, h) = R1 v) (q' : jx_run os k (l, .null :: st, h) = R2) : jx_run (jo_aald t :: os) k (l, .int x :: .ref a :: st, h) = (jx_aA h t a x).bind R := by
  have e1 : R1 = fun v => jx_run os k (l, .ref v :: st, h) := (funext q).symm
  subst e1; subst q'; subst e; rfl
theorem y_ist {b : Nat} {R : jx_H → Option jx_R} (q : ∀ g, jx_run os k (l, st, g) = R g) : jx_run (jo_iast t :: os) k (l, .int x :: .int y :: .ref b :: st, h) = (jx_sI h t b y x).bind R := congrArg (Option.bind (jx_sI h t b y x)) (funext q)
theorem y_bst {b : Nat} {R : jx_H → Option jx_R} (q : ∀ g, jx_run os k (l, st, g) = R g) : jx_run (jo_bast t :: os) k (l, .int x :: .int y :: .ref b :: st, h) = (jx_sI h t b y x.toInt8.toInt32).bind R := congrArg (Option.bind (jx_sI h t b y x.toInt8.toInt32)) (funext q)
theorem y_jst {b : Nat} {R : jx_H → Option jx_R} (q : ∀ g, jx_run os k (l, st, g) = R g) : jx_run (jo_last t :: os) k (l, .long u :: .int y :: .ref b :: st, h) = (jx_sJ h t b y u).bind R := congrArg (Option.bind (jx_sJ h t b y u)) (funext q)
theorem y_ast {b c : Nat} {R : jx_H → Option jx_R} (q : ∀ g, jx_run os k (l, st, g) = R g) : jx_run (jo_aast t ci :: os) k (l, .ref c :: .int y :: .ref b :: st, h) = (jx_sA h t b y ci c).bind R := congrArg (Option.bind (jx_sA h t b y ci c)) (funext q)
theorem y_len {R : Nat → Option jx_R} (q : ∀ v, jx_run os k (l, .int (Int32.ofNat v) :: st, h) = R v) : jx_run (jo_alen t :: os) k (l, .ref a :: st, h) = (jx_len h t a).bind R := congrArg (Option.bind (jx_len h t a)) (funext q)
theorem y_newa {z : (Nat → Int32) ⊕ (Nat → Int64) ⊕ (Nat → UInt32) ⊕ (Nat → UInt64) ⊕ (Nat → Option Nat)} {R : jx_H → Option jx_R} (q : ∀ g, jx_run os k (l, .ref h.1 :: st, g) = R g) : jx_run (jo_newa t z :: os) k (l, .int x :: st, h) = (jna h t x z).bind R := by
  have e : R = fun g => jx_run os k (l, .ref h.1 :: st, g) := (funext q).symm
  subst e
  by_cases c : jx_inB x 67108864 = true
  · simp only [jx_run, jo_newa, jna, jn, if_pos c, Option.bind_some]
  · simp only [jx_run, jo_newa, jna, if_neg c, Option.bind_none]
theorem y_new {N : Nat} {fs : List Value} {R : jx_H → Option jx_R} (q : ∀ g, jx_run os k (l, .ref h.1 :: st, g) = R g) : jx_run (jo_new ci N fs :: os) k (l, st, h) = (some (jn h N (.inl (ci, fs)))).bind R := q _
theorem y_sfV {ad adV : Nat → Nat} {N : Nat} {R : Nat → Option jx_R} (q : ∀ v, jx_run os k (l, .ref (adV v) :: st, h) = R v) : jx_run (jo_sfV ad adV N :: os) k (l, .ref a :: st, h) = (jx_lit ad N a).bind R := congrArg (Option.bind (jx_lit ad N a)) (funext q)
theorem y_sfC {ad : Nat → Nat} {N : Nat} (q : jx_run os k (l, .int (Int32.ofNat 0) :: st, h) = r) : jx_run (jo_sfC ad N :: os) k (l, .ref a :: st, h) = (jx_lit ad N a).bind (fun _ => r) := congrArg (Option.bind (jx_lit ad N a)) (funext fun _ => q)
theorem y_sba {adV : Nat → Nat} {N : Nat} {len : List Nat} {byt : List (List Int32)} {R : Nat → Option jx_R} (q : ∀ i, jx_run os k (l, .int ((byt.getD i []).getD x.toNatClampNeg 0) :: st, h) = R i) : jx_run (jo_sba adV N len byt :: os) k (l, .int x :: .ref a :: st, h) = (jx_lit adV N a).bind (fun i => if jx_inB x (len.getD i 0) = true then R i else none) := by
  have e : R = fun i => jx_run os k (l, .int ((byt.getD i []).getD x.toNatClampNeg 0) :: st, h) := (funext q).symm
  subst e; rfl
theorem y_sln {adV : Nat → Nat} {N : Nat} {len : List Nat} {R : Nat → Option jx_R} (q : ∀ i, jx_run os k (l, .int (Int32.ofNat (len.getD i 0)) :: st, h) = R i) : jx_run (jo_sln adV N len :: os) k (l, .ref a :: st, h) = (jx_lit adV N a).bind R := congrArg (Option.bind (jx_lit adV N a)) (funext q)
theorem y_xld {b L : Nat} {xs : Nat → Int32} (q : jx_run os k (l, .int (xs x.toNatClampNeg) :: st, h) = r) : jx_run (jo_xld b L xs :: os) k (l, .int x :: .ref a :: st, h) = if a = b ∧ jx_inB x L = true then r else none := by subst q; rfl
theorem y_xln {b L : Nat} (q : jx_run os k (l, .int (Int32.ofNat L) :: st, h) = r) : jx_run (jo_xln b L :: os) k (l, .ref a :: st, h) = if a = b then r else none := by subst q; rfl
theorem y_chk {ad : Nat → Nat} {N m : Nat} {st2 : List Value} (e : st.drop m = .ref a :: st2) (q : jx_run os k (l, st, h) = r) : jx_run (jo_chk ad N m :: os) k (l, st, h) = (jx_lit ad N a).bind (fun _ => r) := by
  subst q
  simp only [jx_run, jo_chk, e]
  cases jx_lit ad N a <;> rfl
theorem y_rfA {o : Option Nat} (e : o = some a) (q : jx_run os k (l, .ref a :: st, h) = r) : jx_run (jo_rf o :: os) k (l, st, h) = r := by subst e; exact q
theorem y_rfN {o : Option Nat} (e : o = none) (q : jx_run os k (l, .null :: st, h) = r) : jx_run (jo_rf o :: os) k (l, st, h) = r := by subst e; exact q
theorem y_stop : jx_run (jo_stop :: os) k (l, st, h) = none := rfl
end JY
section JZ
variable {nl : Nat → Nat} {f : jx_Q → Option jx_R} {l ent : jx_L} {st av rest : List Value} {h : jx_H} {m a L L1 L2 y n nn ci : Nat} {x z : Int32} {u : Int64}
theorem z_eq : jx_run [] (jx_term nl f m (.inl (jc_ii (fun x y => decide (x = y)), L1, L2))) (l, .int z :: .int x :: st, h) = if x = z then f (m, L1, l, st, h) else f (m, L2, l, st, h) := Bool.cond_decide _ _ _
theorem z_ne : jx_run [] (jx_term nl f m (.inl (jc_ii (fun x y => decide (¬ x = y)), L1, L2))) (l, .int z :: .int x :: st, h) = if x = z then f (m, L2, l, st, h) else f (m, L1, l, st, h) := (Bool.cond_decide _ _ _).trans (ite_not _ _ _)
theorem z_lt : jx_run [] (jx_term nl f m (.inl (jc_ii (fun x y => decide (x < y)), L1, L2))) (l, .int z :: .int x :: st, h) = if x < z then f (m, L1, l, st, h) else f (m, L2, l, st, h) := Bool.cond_decide _ _ _
theorem z_ge : jx_run [] (jx_term nl f m (.inl (jc_ii (fun x y => decide (y ≤ x)), L1, L2))) (l, .int z :: .int x :: st, h) = if x < z then f (m, L2, l, st, h) else f (m, L1, l, st, h) := by
  refine (Bool.cond_decide _ _ _).trans ?_
  by_cases c : x < z
  · rw [if_pos c, if_neg (Int32.not_le.mpr c)]
  · rw [if_neg c, if_pos (Int32.not_lt.mp c)]
theorem z_gt : jx_run [] (jx_term nl f m (.inl (jc_ii (fun x y => decide (y < x)), L1, L2))) (l, .int z :: .int x :: st, h) = if z < x then f (m, L1, l, st, h) else f (m, L2, l, st, h) := Bool.cond_decide _ _ _
theorem z_le : jx_run [] (jx_term nl f m (.inl (jc_ii (fun x y => decide (x ≤ y)), L1, L2))) (l, .int z :: .int x :: st, h) = if z < x then f (m, L2, l, st, h) else f (m, L1, l, st, h) := by
  refine (Bool.cond_decide _ _ _).trans ?_
  by_cases c : z < x
  · rw [if_pos c, if_neg (Int32.not_le.mpr c)]
  · rw [if_neg c, if_pos (Int32.not_lt.mp c)]
theorem z_eq0 : jx_run [] (jx_term nl f m (.inl (jc_i (fun x => decide (x = 0)), L1, L2))) (l, .int x :: st, h) = if x = Int32.ofNat 0 then f (m, L1, l, st, h) else f (m, L2, l, st, h) := Bool.cond_decide _ _ _
theorem z_ne0 : jx_run [] (jx_term nl f m (.inl (jc_i (fun x => decide (¬ x = 0)), L1, L2))) (l, .int x :: st, h) = if x = Int32.ofNat 0 then f (m, L2, l, st, h) else f (m, L1, l, st, h) := (Bool.cond_decide _ _ _).trans (ite_not _ _ _)
theorem z_lt0 : jx_run [] (jx_term nl f m (.inl (jc_i (fun x => decide (x < 0)), L1, L2))) (l, .int x :: st, h) = if x < Int32.ofNat 0 then f (m, L1, l, st, h) else f (m, L2, l, st, h) := Bool.cond_decide _ _ _
theorem z_ge0 : jx_run [] (jx_term nl f m (.inl (jc_i (fun x => decide (0 ≤ x)), L1, L2))) (l, .int x :: st, h) = if x < Int32.ofNat 0 then f (m, L2, l, st, h) else f (m, L1, l, st, h) := by
  refine (Bool.cond_decide _ _ _).trans ?_
  by_cases c : x < Int32.ofNat 0
  · rw [if_pos c, if_neg (show ¬ (0 : Int32) ≤ x from Int32.not_le.mpr c)]
  · rw [if_neg c, if_pos (show (0 : Int32) ≤ x from Int32.not_lt.mp c)]
theorem z_gt0 : jx_run [] (jx_term nl f m (.inl (jc_i (fun x => decide (0 < x)), L1, L2))) (l, .int x :: st, h) = if Int32.ofNat 0 < x then f (m, L1, l, st, h) else f (m, L2, l, st, h) := Bool.cond_decide _ _ _
theorem z_le0 : jx_run [] (jx_term nl f m (.inl (jc_i (fun x => decide (x ≤ 0)), L1, L2))) (l, .int x :: st, h) = if Int32.ofNat 0 < x then f (m, L2, l, st, h) else f (m, L1, l, st, h) := by
  refine (Bool.cond_decide _ _ _).trans ?_
  by_cases c : Int32.ofNat 0 < x
  · rw [if_pos c, if_neg (show ¬ x ≤ (0 : Int32) from Int32.not_le.mpr c)]
  · rw [if_neg c, if_pos (show x ≤ (0 : Int32) from Int32.not_lt.mp c)]
theorem z_nullA : jx_run [] (jx_term nl f m (.inl (jc_null, L1, L2))) (l, .ref a :: st, h) = f (m, L2, l, st, h) := rfl
theorem z_nullN : jx_run [] (jx_term nl f m (.inl (jc_null, L1, L2))) (l, .null :: st, h) = f (m, L1, l, st, h) := rfl
theorem z_nonnA : jx_run [] (jx_term nl f m (.inl (jc_nonn, L1, L2))) (l, .ref a :: st, h) = f (m, L1, l, st, h) := rfl
theorem z_nonnN : jx_run [] (jx_term nl f m (.inl (jc_nonn, L1, L2))) (l, .null :: st, h) = f (m, L2, l, st, h) := rfl
theorem z_go : jx_run [] (jx_term nl f m (.inr (.inl L))) (l, st, h) = f (m, L, l, st, h) := rfl
theorem z_sw {g : Int32 → Nat} : jx_run [] (jx_term nl f m (.inr (.inr (.inl g)))) (l, .int x :: st, h) = f (m, g x, l, st, h) := rfl
theorem z_rv : jx_run [] (jx_term nl f m (.inr (.inr (.inr (.inr jr_v))))) (l, [], h) = some (none, h) := rfl
theorem z_ri : jx_run [] (jx_term nl f m (.inr (.inr (.inr (.inr jr_i))))) (l, [.int x], h) = some (some (.int x), h) := rfl
theorem z_rj : jx_run [] (jx_term nl f m (.inr (.inr (.inr (.inr jr_l))))) (l, [.long u], h) = some (some (.long u), h) := rfl
theorem z_ra : jx_run [] (jx_term nl f m (.inr (.inr (.inr (.inr jr_a))))) (l, [.ref a], h) = some (some (.ref a), h) := rfl
theorem z_rn : jx_run [] (jx_term nl f m (.inr (.inr (.inr (.inr jr_a))))) (l, [.null], h) = some (some .null, h) := rfl
theorem z_rz : jx_run [] (jx_term nl f m (.inr (.inr (.inr (.inr jr_z))))) (l, [.int x], h) = (jzo x).bind (fun _ => some (some (.int x), h)) := by
  by_cases c : x = 0 ∨ x = 1
  · simp only [jx_run, jx_term, jr_z, jzo, if_pos c, Option.bind_some]
  · simp only [jx_run, jx_term, jr_z, jzo, if_neg c, Option.bind_none]
theorem z_rq {ty : FieldType} : jx_run [] (jx_term nl f m (.inr (.inr (.inr (.inr (jr_n ty)))))) (l, [.int x], h) = if narrow ty (.int x) = .int x then some (some (.int x), h) else none := by
  by_cases c : narrow ty (.int x) = .int x
  · simp only [jx_run, jx_term, jr_n, if_pos c, Option.bind_some]
  · simp only [jx_run, jx_term, jr_n, if_neg c, Option.bind_none]
theorem z_cS (hn : nl y = nn) (ha : jx_args n st = some (av, rest)) (hk : (Nat.ble (jx_en av).length nn && Nat.ble (rest.map fun v => v.category).sum 8) = true) (he : jx_ent nn av = ent) : jx_run [] (jx_term nl f m (.inr (.inr (.inr (.inl (y, n, L, none)))))) (l, st, h) = (f (y, 0, ent, [], h)).bind (fun r => f (m, L, l, r.1.toList ++ rest, r.2)) := by
  have h1 : jx_okc nn av rest h none = true := by
    rw [Bool.and_eq_true] at hk
    simp only [jx_okc, jx_recv, hk.1, hk.2, Bool.and_self]
  simp only [jx_run, jx_term, ha, Option.bind_some, hn, h1, he, if_true]
theorem z_cV (hn : nl y = nn) (ha : jx_args n st = some (av, rest)) (hk : (Nat.ble (jx_en av).length nn && Nat.ble (rest.map fun v => v.category).sum 8) = true) (he : jx_ent nn av = ent) : jx_run [] (jx_term nl f m (.inr (.inr (.inr (.inl (y, n, L, some ci)))))) (l, st, h) = if jx_recv h av (some ci) = true then (f (y, 0, ent, [], h)).bind (fun r => f (m, L, l, r.1.toList ++ rest, r.2)) else none := by
  rw [Bool.and_eq_true] at hk
  by_cases c : jx_recv h av (some ci) = true
  · have h1 : jx_okc nn av rest h (some ci) = true := by simp only [jx_okc, hk.1, hk.2, c, Bool.and_self]
    simp only [jx_run, jx_term, ha, Option.bind_some, hn, h1, he, if_true, if_pos c]
  · have h1 : jx_okc nn av rest h (some ci) = false := by simp only [jx_okc, hk.1, hk.2, Bool.true_and]; exact Bool.eq_false_iff.mpr c
    simp only [jx_run, jx_term, ha, Option.bind_some, hn, h1, if_neg c]
    rfl
end JZ
theorem jE_m {G : jx_Gv} {m pc : Nat} {b : jx_B} {L : List (Nat × jx_B)} (hm : (jBs G).getD m [] = L) (hl : jx_lk L pc = some b) (s : jx_S) : jE G (m, pc, s) = jx_run b.1 (jx_term jNl (jE G) m b.2) s := jE_at (by unfold jB; rw [hm]; exact hl) s
theorem jE_sw {G : jx_Gv} {m d t : Nat} {P : List (Int32 × Nat)} {x c : Int32} {s : jx_S} : jE G (m, jx_sw ((c, t) :: P) d x, s) = if x = c then jE G (m, t, s) else jE G (m, jx_sw P d x, s) := by
  by_cases q : x = c
  · simp only [jx_sw, if_pos q]
  · simp only [jx_sw, if_neg q]
theorem jE_sw0 {G : jx_Gv} {m d : Nat} {x : Int32} {s : jx_S} : jE G (m, jx_sw [] d x, s) = jE G (m, d, s) := rfl
