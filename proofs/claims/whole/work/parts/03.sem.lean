/-! WHAT THE FUNCTION SAYS OF THE MACHINE. Z: the launch, the classes' numbers and slots, the array classes' numbers, the heap at the law's entry, the classes, the array types, the tables' words, what else is known of a state (the literals), the methods, the frames and the words of locals that a method's calls take. -/
abbrev jx_M := MethodName × ByteArray × Nat × Option FieldType
abbrev jx_Z := Launch × (Nat → ClassId) × (Nat → Nat → Nat) × (Nat → ClassId) × Heap × List vw_C × List FieldType × List Cond × (State → Prop) × (Nat → jx_M) × (Nat → Nat × Nat)
abbrev jz_l (Z : jx_Z) : Launch := Z.1
abbrev jz_D (Z : jx_Z) : va_G := (Z.2.1, Z.2.2.1)
abbrev jz_a (Z : jx_Z) : Nat → ClassId := Z.2.2.2.1
abbrev jz_H (Z : jx_Z) : Heap := Z.2.2.2.2.1
abbrev jz_c (Z : jx_Z) : List vw_C := Z.2.2.2.2.2.1
abbrev jz_t (Z : jx_Z) : List FieldType := Z.2.2.2.2.2.2.1
abbrev jz_T (Z : jx_Z) : List Cond := Z.2.2.2.2.2.2.2.1
abbrev jz_K (Z : jx_Z) : State → Prop := Z.2.2.2.2.2.2.2.2.1
abbrev jz_m (Z : jx_Z) : Nat → jx_M := Z.2.2.2.2.2.2.2.2.2.1
abbrev jz_d (Z : jx_Z) : Nat → Nat × Nat := Z.2.2.2.2.2.2.2.2.2.2
/-- what may change -/
def jx_A (Z : jx_Z) : Nat → Prop := fun q => (jz_H Z).size ≤ q
def jx_tys (aC : Nat → ClassId) (tyL : List FieldType) : List (ClassId × FieldType) := tyL.zipIdx.map (fun q => (aC q.2, q.1))
theorem jx_tys_at {aC : Nat → ClassId} {tyL : List FieldType} {t : Nat} {ty : FieldType} (h : tyL[t]? = some ty) : (jx_tys aC tyL)[t]? = some (aC t, ty) := by
  simp [jx_tys, List.getElem?_zipIdx, h]
def jx_E (aC : Nat → ClassId) (c : jx_C) : va_E := match c with
  | .inl o => .inr o
  | .inr a => .inl (aC a.1, a.2)
def jx_Rep (Z : jx_Z) (h : jx_H) (H : Heap) : Prop := H.size = h.1 ∧ (jz_H Z).size ≤ h.1 ∧ (∀ q : Nat, q < (jz_H Z).size → H[q]? = (jz_H Z)[q]?) ∧ ∀ (a : Nat) (e : jx_C), h.2.2 a = some e → (jz_H Z).size ≤ a ∧ va_at (jz_D Z) (jz_c Z) (a, jx_E (jz_a Z) e) H
theorem jx_Rep.lt {Z : jx_Z} {h : jx_H} {H : Heap} (R : jx_Rep Z h H) {a : Nat} {e : jx_C} (he : h.2.2 a = some e) : a < h.1 := by
  have := (R.2.2.2 a e he).2.lt
  rw [R.1] at this
  exact this
theorem jx_Rep.set {Z : jx_Z} {h : jx_H} {H H1 : Heap} (R : jx_Rep Z h H) {a : Nat} {e e' : jx_C} (he : h.2.2 a = some e) (hz : H1.size = H.size) (ho : ∀ q : Nat, q ≠ a → H1[q]? = H[q]?) (hn : va_at (jz_D Z) (jz_c Z) (a, jx_E (jz_a Z) e') H1) : jx_Rep Z (h.1, h.2.1, jx_up h.2.2 a e') H1 := by
  obtain ⟨r1, r2, r3, r4⟩ := R
  have ha := (r4 a e he).1
  refine ⟨hz.trans r1, r2, fun q hq => (ho q (by omega)).trans (r3 q hq), fun b x hx => ?_⟩
  dsimp only at hx
  by_cases hb : b = a
  · subst hb
    rw [show jx_up h.2.2 b e' b = some e' from jx_up_eq _ _ _] at hx
    cases hx
    exact ⟨ha, hn⟩
  · rw [show jx_up h.2.2 a e' b = h.2.2 b from jx_up_ne _ _ hb] at hx
    exact ⟨(r4 b x hx).1, (r4 b x hx).2.kept (ho b hb)⟩
theorem jx_Rep.push {Z : jx_Z} {h : jx_H} {H H1 : Heap} (R : jx_Rep Z h H) {e' : jx_C} (u : Nat) (hz : H1.size = h.1 + 1) (ho : ∀ q : Nat, q < h.1 → H1[q]? = H[q]?) (hn : va_at (jz_D Z) (jz_c Z) (h.1, jx_E (jz_a Z) e') H1) : jx_Rep Z (h.1 + 1, u, jx_up h.2.2 h.1 e') H1 := by
  have hlt : ∀ (a : Nat) (e : jx_C), h.2.2 a = some e → a < h.1 := fun a e he => R.lt he
  obtain ⟨r1, r2, r3, r4⟩ := R
  refine ⟨hz, by show _ ≤ h.1 + 1; omega, fun q hq => (ho q (by omega)).trans (r3 q hq), fun b x hx => ?_⟩
  dsimp only at hx
  by_cases hb : b = h.1
  · subst hb
    rw [show jx_up h.2.2 h.1 e' h.1 = some e' from jx_up_eq _ _ _] at hx
    cases hx
    exact ⟨r2, hn⟩
  · rw [show jx_up h.2.2 h.1 e' b = h.2.2 b from jx_up_ne _ _ hb] at hx
    exact ⟨(r4 b x hx).1, (r4 b x hx).2.kept (ho b (hlt b x hx))⟩
/-- the locals -/
def jx_lx (ls : Array Slot) (n : Nat) (lv : jx_L) : Prop := lv.length = n ∧ ls.size = n ∧ lv_wf ls ∧ ∀ (i : Nat) (v : Value), lv[i]? = some (some v) → ls[i]? = some (.val v)
def jx_as (lv : jx_L) : List (Nat × Value) := (List.range lv.length).filterMap (fun i => (lv[i]?.join).map (fun v => (i, v)))
theorem jx_as_mem {lv : jx_L} {i : Nat} {v : Value} : (i, v) ∈ jx_as lv ↔ lv[i]? = some (some v) := by
  simp only [jx_as, List.mem_filterMap, List.mem_range]
  constructor
  · rintro ⟨j, hj, h⟩
    cases hx : lv[j]? with
    | none => rw [hx] at h; simp at h
    | some z =>
      rw [hx] at h
      cases z with
      | none => simp at h
      | some w => simp at h; obtain ⟨rfl, rfl⟩ := h; exact hx
  · intro h
    exact ⟨i, (List.getElem?_eq_some_iff.mp h).1, by rw [h]; rfl⟩
theorem jx_lx.has {ls : Array Slot} {n : Nat} {lv : jx_L} (h : jx_lx ls n lv) : lv_has ls n (jx_as lv) := ⟨h.2.1, h.2.2.1, fun q hq => h.2.2.2 q.1 q.2 (jx_as_mem.mp hq)⟩
/-- what lies ahead of a slot is no long -/
def jx_n2 (o : Option (Option Value)) : Bool := match o with
  | some (some (.long _)) => false
  | some (some (.double _)) => false
  | _ => true
def jx_pre (lv : jx_L) (i : Nat) : Bool := match i with
  | 0 => true
  | j + 1 => jx_n2 lv[j]?
theorem jx_n2_cat {v : Value} (h : jx_n2 (some (some v)) = true) : v.category = 1 := by cases v <;> simp_all [jx_n2, Value.category]
theorem jx_lx.sto1 {ls' : Array Slot} {n i : Nat} {lv : jx_L} {v : Value} (hi : i < n) (hn : lv.length = n) (hp : jx_pre lv i = true) (h : lv_has ls' n ((i, v) :: (jx_as lv).filter (fun q => !(q.1 == i) && !(q.1 + 1 == i && q.2.category == 2)))) : jx_lx ls' n (lv.set i (some v)) := by
  refine ⟨by simp [hn], h.1, h.2.1, fun j w hj => ?_⟩
  by_cases hji : j = i
  · subst hji
    rw [List.getElem?_set_self (by omega)] at hj
    cases hj
    exact h.2.2 (j, v) List.mem_cons_self
  · rw [List.getElem?_set_ne (Ne.symm hji)] at hj
    refine h.2.2 (j, w) (List.mem_cons_of_mem _ (List.mem_filter.mpr ⟨jx_as_mem.mpr hj, ?_⟩))
    have h1 : (j == i) = false := by simp [hji]
    by_cases h2 : j + 1 = i
    · subst h2
      have h3 : jx_n2 lv[j]? = true := hp
      rw [hj] at h3
      simp [jx_n2_cat h3]
    · simp [hji, h2]
theorem jx_lx.sto2 {ls' : Array Slot} {n i : Nat} {lv : jx_L} {v : Value} (hi : i + 1 < n) (hn : lv.length = n) (hp : jx_pre lv i = true) (h : lv_has ls' n ((i, v) :: (jx_as lv).filter (fun q => !(q.1 == i) && (!(q.1 == i + 1) && !(q.1 + 1 == i && q.2.category == 2))))) : jx_lx ls' n ((lv.set i (some v)).set (i + 1) none) := by
  refine ⟨by simp [hn], h.1, h.2.1, fun j w hj => ?_⟩
  by_cases hj1 : j = i + 1
  · subst hj1
    rw [List.getElem?_set_self (by simp; omega)] at hj
    cases hj
  rw [List.getElem?_set_ne (Ne.symm hj1)] at hj
  by_cases hji : j = i
  · subst hji
    rw [List.getElem?_set_self (by omega)] at hj
    cases hj
    exact h.2.2 (j, v) List.mem_cons_self
  · rw [List.getElem?_set_ne (Ne.symm hji)] at hj
    refine h.2.2 (j, w) (List.mem_cons_of_mem _ (List.mem_filter.mpr ⟨jx_as_mem.mpr hj, ?_⟩))
    by_cases h2 : j + 1 = i
    · subst h2
      have h3 : jx_n2 lv[j]? = true := hp
      rw [hj] at h3
      simp [jx_n2_cat h3, hj1]
    · simp [hji, hj1, h2]
theorem jx_lx.drop {ls : Array Slot} {n i : Nat} {lv : jx_L} (h : jx_lx ls n lv) : jx_lx ls n (lv.set i none) := by
  refine ⟨by simp [h.1], h.2.1, h.2.2.1, fun j w hj => ?_⟩
  by_cases hji : j = i
  · subst hji
    by_cases hl : j < lv.length
    · rw [List.getElem?_set_self hl] at hj
      cases hj
    · rw [List.getElem?_eq_none (by simp; omega)] at hj
      cases hj
  · rw [List.getElem?_set_ne (Ne.symm hji)] at hj
    exact h.2.2.2 j w hj
theorem jx_en_len : ∀ (vs : List Value), (jx_en vs).length = (lg_sl vs).length
  | [] => rfl
  | .long _ :: vs => by simp [jx_en, lg_sl, Value.category, jx_en_len vs]
  | .double _ :: vs => by simp [jx_en, lg_sl, Value.category, jx_en_len vs]
  | .int _ :: vs => by simp [jx_en, lg_sl, Value.category, jx_en_len vs]
  | .float _ :: vs => by simp [jx_en, lg_sl, Value.category, jx_en_len vs]
  | .null :: vs => by simp [jx_en, lg_sl, Value.category, jx_en_len vs]
  | .ref _ :: vs => by simp [jx_en, lg_sl, Value.category, jx_en_len vs]
  | .retAddr _ :: vs => by simp [jx_en, lg_sl, Value.category, jx_en_len vs]
theorem jx_en_get : ∀ (vs : List Value) (j : Nat) (w : Value), (jx_en vs)[j]? = some (some w) → (lg_sl vs)[j]? = some (.val w) := by
  intro vs
  induction vs with
  | nil => intro j w h; simp [jx_en] at h
  | cons v vs ih =>
    intro j w h
    have hc : ∀ u : Value, u.category = 1 → (some u :: jx_en vs)[j]? = some (some w) → (Slot.val u :: lg_sl vs)[j]? = some (.val w) := by
      intro u _ h
      cases j with
      | zero => simp at h; subst h; rfl
      | succ j => simp only [List.getElem?_cons_succ] at h ⊢; exact ih j w h
    have hd : ∀ u : Value, (some u :: none :: jx_en vs)[j]? = some (some w) → (Slot.val u :: Slot.second :: lg_sl vs)[j]? = some (.val w) := by
      intro u h
      match j, h with
      | 0, h => simp at h; subst h; rfl
      | 1, h => simp at h
      | j + 2, h => simp only [List.getElem?_cons_succ] at h ⊢; exact ih j w h
    cases v with
    | long x => exact hd _ h
    | double x => exact hd _ h
    | int x => exact hc _ rfl h
    | float x => exact hc _ rfl h
    | null => exact hc _ rfl h
    | ref x => exact hc _ rfl h
    | retAddr x => exact hc _ rfl h
theorem jx_lx_entry (vs : List Value) {n : Nat} (h : (jx_en vs).length ≤ n) : jx_lx ((lg_sl vs ++ List.replicate (n - (lg_sl vs).length) Slot.unset).toArray) n (jx_ent n vs) := by
  have hl := lv_entry vs (n := n) (by rw [← jx_en_len]; exact h)
  refine ⟨by simp [jx_ent]; omega, hl.1, hl.2.1, fun i v hi => ?_⟩
  by_cases hlt : i < (jx_en vs).length
  · rw [jx_ent, List.getElem?_append_left hlt] at hi
    have := jx_en_get vs i v hi
    rw [List.getElem?_toArray, List.getElem?_append_left (by rw [← jx_en_len]; exact hlt)]
    exact this
  · rw [jx_ent, List.getElem?_append_right (by omega)] at hi
    have := List.mem_of_getElem? hi
    simp at this
/-- a place that answers -/
def jx_Rt (M : jx_M) (pc : Nat) (v : Option Value) : Prop :=
  (v = none ∧ M.2.2.2 = none ∧ decode M.2.1 pc = .ok (.return_, 1)) ∨ (∃ (x : Int32) (ty : FieldType), v = some (.int x) ∧ M.2.2.2 = some ty ∧ narrow ty (.int x) = .int x ∧ decode M.2.1 pc = .ok (.ireturn, 1)) ∨ (∃ x : Int64, v = some (.long x) ∧ M.2.2.2 = some .long ∧ decode M.2.1 pc = .ok (.lreturn, 1)) ∨ ∃ x : Value, v = some x ∧ (x = .null ∨ ∃ a, x = .ref a) ∧ (∃ C, M.2.2.2 = some (.object C)) ∧ decode M.2.1 pc = .ok (.areturn, 1)
/-- what holds all through a method's walk -/
def jx_Fx (Z : jx_Z) (y : Nat) (p : Program) (R : Room) (s : State) (m : MethodId) (args : Array Value) (meth : Method) (c : Code) : Prop :=
  p.tables.exec = Jvm.exec ∧ c.code = (jz_m Z y).2.1 ∧ c.maxLocals = (jz_m Z y).2.2.1 ∧ meth.sig.returnType = (jz_m Z y).2.2.2 ∧ meth.locks = false ∧ s.vm.findClass (jz_m Z y).1.cls = some m.cls ∧ (∀ w ∈ jz_T Z, w.before args s = true) ∧ va_K (jz_D Z) (jz_c Z) (jx_tys (jz_a Z) (jz_t Z)) s ∧ ((jz_d Z y).1 ≤ R.frames ∧ (jz_d Z y).2 ≤ R.locals) ∧ ((jz_H Z).size ≤ s.heap.size ∧ ∀ q : Nat, q < (jz_H Z).size → s.heap[q]? = (jz_H Z)[q]?) ∧ ((jz_m Z y).1.name = "<init>" → meth.name = "<init>") ∧ jz_K Z s
/-- one op: from pc to pc' -/
def jx_Ok (Z : jx_Z) (y pc pc' : Nat) (o : jx_F) : Prop := jx_mono o ∧ ∀ (k : jx_K) (lv : jx_L) (st : List Value) (h : jx_H) (r : jx_R), o k (lv, st, h) = some r →
  ∃ (lv' : jx_L) (st' : List Value) (h' : jx_H), k (lv', st', h') = some r ∧ h.1 ≤ h'.1 ∧ h.2.1 ≤ h'.2.1 ∧ ∀ (p : Program) (e : Env) (R : Room) (s : State) (m : MethodId) (args : Array Value) (below : List Frame) (meth : Method) (c : Code) (H : Heap) (locs : List Loc) (ls : Array Slot) (cells slots : Nat) (QQ : State → Prop),
    jx_Fx Z y p R s m args meth c → jx_lx ls (jz_m Z y).2.2.1 lv → jx_Rep Z h H → va_S (jx_A Z) s.heap H locs → cells + h'.1 ≤ R.cells + h.1 → slots + h'.2.1 ≤ R.slots + h.2.1 →
    (∀ (H1 : Heap) (locs1 : List Loc) (ls1 : Array Slot) (cells1 slots1 : Nat), cells1 + h.1 = cells + h'.1 → slots1 + h.2.1 = slots + h'.2.1 → jx_lx ls1 (jz_m Z y).2.2.1 lv' → jx_Rep Z h' H1 → va_S (jx_A Z) s.heap H1 locs1 → W p (jz_l Z) e R s m args below meth c H1 locs1 cells1 slots1 QQ (F0 m pc' ls1 st')) →
    W p (jz_l Z) e R s m args below meth c H locs cells slots QQ (F0 m pc ls st)
/-- from a point of a method to its end -/
def jx_P (Z : jx_Z) (q : jx_Q) (r : jx_R) : Prop := q.2.2.2.2.1 ≤ r.2.1 ∧ q.2.2.2.2.2.1 ≤ r.2.2.1 ∧ ∀ (p : Program) (e : Env) (R : Room) (s : State) (m : MethodId) (args : Array Value) (below : List Frame) (meth : Method) (c : Code) (H : Heap) (locs : List Loc) (ls : Array Slot) (cells slots : Nat) (QQ : State → Prop),
    jx_Fx Z q.1 p R s m args meth c → jx_lx ls (jz_m Z q.1).2.2.1 q.2.2.1 → jx_Rep Z q.2.2.2.2 H → va_S (jx_A Z) s.heap H locs → cells + r.2.1 ≤ R.cells + q.2.2.2.2.1 → slots + r.2.2.1 ≤ R.slots + q.2.2.2.2.2.1 →
    (∀ (H1 : Heap) (locs1 : List Loc) (ls1 : Array Slot) (cells1 slots1 pc1 : Nat), cells1 ≤ R.cells → slots1 ≤ R.slots → jx_Rep Z r.2 H1 → va_S (jx_A Z) s.heap H1 locs1 → jx_Rt (jz_m Z q.1) pc1 r.1 → W p (jz_l Z) e R s m args below meth c H1 locs1 cells1 slots1 QQ (F0 m pc1 ls1 r.1.toList)) →
    W p (jz_l Z) e R s m args below meth c H locs cells slots QQ (F0 m q.2.1 ls q.2.2.2.1)
theorem jx_P_op {Z : jx_Z} {y pc pc' : Nat} {o : jx_F} (ho : jx_Ok Z y pc pc' o) {k : jx_K} (hk : ∀ s r, k s = some r → jx_P Z (y, pc', s) r) : ∀ s r, o k s = some r → jx_P Z (y, pc, s) r := by
  intro s r hr
  obtain ⟨lv, st, h⟩ := s
  obtain ⟨lv', st', h', h1, h2, h3, h4⟩ := ho.2 k lv st h r hr
  obtain ⟨g1, g2, g3⟩ := hk _ _ h1
  refine ⟨Nat.le_trans h2 g1, Nat.le_trans h3 g2, ?_⟩
  intro p e R s m args below meth c H locs ls cells slots QQ hF hl hR hS hc hsl kk
  refine h4 p e R s m args below meth c H locs ls cells slots QQ hF hl hR hS (by dsimp only at g1 hc; omega) (by dsimp only at g2 hsl; omega) ?_
  intro H1 locs1 ls1 cells1 slots1 e1 e2 hl1 hR1 hS1
  exact g3 p e R s m args below meth c H1 locs1 ls1 cells1 slots1 QQ hF hl1 hR1 hS1 (by dsimp only at g1 hc ⊢; omega) (by dsimp only at g2 hsl ⊢; omega) kk
/-- a block's end -/
def jx_OkT (Z : jx_Z) (nl : Nat → Nat) (y pc : Nat) (t : jx_T) : Prop := ∀ f : jx_Q → Option jx_R, (∀ q r, f q = some r → jx_P Z q r) → ∀ s r, jx_term nl f y t s = some r → jx_P Z (y, pc, s) r
/-- a block -/
def jx_OkB (Z : jx_Z) (nl : Nat → Nat) (y pc : Nat) (b : jx_B) : Prop := (∀ o ∈ b.1, jx_mono o) ∧ ∀ f : jx_Q → Option jx_R, (∀ q r, f q = some r → jx_P Z q r) → ∀ s r, jx_run b.1 (jx_term nl f y b.2) s = some r → jx_P Z (y, pc, s) r
theorem jx_bnil {Z : jx_Z} {nl : Nat → Nat} {y pc : Nat} {t : jx_T} (h : jx_OkT Z nl y pc t) : jx_OkB Z nl y pc ([], t) := ⟨fun _ hm => absurd hm List.not_mem_nil, h⟩
theorem jx_bcons {Z : jx_Z} {nl : Nat → Nat} {y pc pc' : Nat} {o : jx_F} {os : List jx_F} {t : jx_T} (ho : jx_Ok Z y pc pc' o) (hb : jx_OkB Z nl y pc' (os, t)) : jx_OkB Z nl y pc (o :: os, t) := by
  refine ⟨fun q hq => ?_, fun f hf s r hr => jx_P_op ho (fun s r h => hb.2 f hf s r h) s r hr⟩
  rcases List.mem_cons.mp hq with rfl | h
  · exact ho.1
  · exact hb.1 q h
theorem jx_sound {Z : jx_Z} {nl : Nat → Nat} {tb : Nat → Nat → Option jx_B} (hg : jx_good tb) (hb : ∀ (y pc : Nat) (b : jx_B), tb y pc = some b → jx_OkB Z nl y pc b) : ∀ q r, jx_fix nl tb hg q = some r → jx_P Z q r := by
  refine jx_fix_ind hg (jx_P Z) (fun f hf q r hr => ?_)
  unfold jx_body at hr
  cases ht : tb q.1 q.2.1 with
  | none => rw [ht] at hr; cases hr
  | some b =>
    rw [ht] at hr
    exact (hb q.1 q.2.1 b ht).2 f hf q.2.2 r hr
