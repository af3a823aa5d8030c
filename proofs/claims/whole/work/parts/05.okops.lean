/-! EACH OP IS ITS INSTRUCTION -/
theorem jx_ok_st {Z : jx_Z} {y pc pc' : Nat} {o : jx_F} (hm : jx_mono o) (hh : ∀ (k : jx_K) (lv : jx_L) (st : List Value) (h : jx_H) (r : jx_R), o k (lv, st, h) = some r → ∃ st' : List Value, k (lv, st', h) = some r ∧ ∀ (p : Program) (e : Env) (R : Room) (s : State) (m : MethodId) (args : Array Value) (below : List Frame) (meth : Method) (c : Code) (H : Heap) (locs : List Loc) (ls : Array Slot) (cells slots : Nat) (QQ : State → Prop),
    jx_Fx Z y p R s m args meth c → jx_lx ls (jz_m Z y).2.2.1 lv → jx_Rep Z h H → va_S (jx_A Z) s.heap H locs → W p (jz_l Z) e R s m args below meth c H locs cells slots QQ (F0 m pc' ls st') → W p (jz_l Z) e R s m args below meth c H locs cells slots QQ (F0 m pc ls st)) : jx_Ok Z y pc pc' o := by
  refine ⟨hm, fun k lv st h r hr => ?_⟩
  obtain ⟨st', h1, h2⟩ := hh k lv st h r hr
  exact ⟨lv, st', h, h1, Nat.le_refl _, Nat.le_refl _, fun p e R s m args below meth c H locs ls cells slots QQ hF hl hR hS _ _ kk => h2 p e R s m args below meth c H locs ls cells slots QQ hF hl hR hS (kk H locs ls cells slots rfl rfl hl hR hS)⟩
theorem jx_ok_lv {Z : jx_Z} {y pc pc' : Nat} {o : jx_F} (hm : jx_mono o) (hh : ∀ (k : jx_K) (lv : jx_L) (st : List Value) (h : jx_H) (r : jx_R), o k (lv, st, h) = some r → ∃ (lv' : jx_L) (st' : List Value), k (lv', st', h) = some r ∧ ∀ (p : Program) (e : Env) (R : Room) (s : State) (m : MethodId) (args : Array Value) (below : List Frame) (meth : Method) (c : Code) (H : Heap) (locs : List Loc) (ls : Array Slot) (cells slots : Nat) (QQ : State → Prop),
    jx_Fx Z y p R s m args meth c → jx_lx ls (jz_m Z y).2.2.1 lv → (∀ ls1 : Array Slot, jx_lx ls1 (jz_m Z y).2.2.1 lv' → W p (jz_l Z) e R s m args below meth c H locs cells slots QQ (F0 m pc' ls1 st')) → W p (jz_l Z) e R s m args below meth c H locs cells slots QQ (F0 m pc ls st)) : jx_Ok Z y pc pc' o := by
  refine ⟨hm, fun k lv st h r hr => ?_⟩
  obtain ⟨lv', st', h1, h2⟩ := hh k lv st h r hr
  exact ⟨lv', st', h, h1, Nat.le_refl _, Nat.le_refl _, fun p e R s m args below meth c H locs ls cells slots QQ hF hl hR hS _ _ kk => h2 p e R s m args below meth c H locs ls cells slots QQ hF hl (fun ls1 hl1 => kk H locs ls1 cells slots rfl rfl hl1 hR hS)⟩
theorem mo_drop (i : Nat) : jx_mono (jo_drop i) := by
  intro k k' hk s r hr
  simp only [jo_drop] at hr ⊢
  repeat' split at hr
  all_goals first
    | (cases hr; done)
    | exact hk _ _ hr
    | (simp only [*]; exact hk _ _ hr)
    | (simp only [*, if_true, if_false]; exact hk _ _ hr)
    | (obtain ⟨x, hx, hr⟩ := Option.bind_eq_some_iff.mp hr; simp only [*, Option.bind_some]; exact hk _ _ hr)
    | (obtain ⟨x, hx, hr⟩ := Option.bind_eq_some_iff.mp hr; simp only [*, Option.bind_some, if_true]; exact hk _ _ hr)
    | (obtain ⟨x, hx, hr⟩ := Option.bind_eq_some_iff.mp hr; simp only [*, Option.bind_some]; cases x <;> exact hk _ _ hr)
    | (simp_all only [ite_true, ite_false]; exact hk _ _ hr)
theorem mo_const (v : Value) : jx_mono (jo_const v) := by
  intro k k' hk s r hr
  simp only [jo_const] at hr ⊢
  repeat' split at hr
  all_goals first
    | (cases hr; done)
    | exact hk _ _ hr
    | (simp only [*]; exact hk _ _ hr)
    | (simp only [*, if_true, if_false]; exact hk _ _ hr)
    | (obtain ⟨x, hx, hr⟩ := Option.bind_eq_some_iff.mp hr; simp only [*, Option.bind_some]; exact hk _ _ hr)
    | (obtain ⟨x, hx, hr⟩ := Option.bind_eq_some_iff.mp hr; simp only [*, Option.bind_some, if_true]; exact hk _ _ hr)
    | (obtain ⟨x, hx, hr⟩ := Option.bind_eq_some_iff.mp hr; simp only [*, Option.bind_some]; cases x <;> exact hk _ _ hr)
    | (simp_all only [ite_true, ite_false]; exact hk _ _ hr)
theorem mo_iload (i : Nat) : jx_mono (jo_iload i) := by
  intro k k' hk s r hr
  simp only [jo_iload] at hr ⊢
  repeat' split at hr
  all_goals first
    | (cases hr; done)
    | exact hk _ _ hr
    | (simp only [*]; exact hk _ _ hr)
    | (simp only [*, if_true, if_false]; exact hk _ _ hr)
    | (obtain ⟨x, hx, hr⟩ := Option.bind_eq_some_iff.mp hr; simp only [*, Option.bind_some]; exact hk _ _ hr)
    | (obtain ⟨x, hx, hr⟩ := Option.bind_eq_some_iff.mp hr; simp only [*, Option.bind_some, if_true]; exact hk _ _ hr)
    | (obtain ⟨x, hx, hr⟩ := Option.bind_eq_some_iff.mp hr; simp only [*, Option.bind_some]; cases x <;> exact hk _ _ hr)
    | (simp_all only [ite_true, ite_false]; exact hk _ _ hr)
theorem mo_lload (i : Nat) : jx_mono (jo_lload i) := by
  intro k k' hk s r hr
  simp only [jo_lload] at hr ⊢
  repeat' split at hr
  all_goals first
    | (cases hr; done)
    | exact hk _ _ hr
    | (simp only [*]; exact hk _ _ hr)
    | (simp only [*, if_true, if_false]; exact hk _ _ hr)
    | (obtain ⟨x, hx, hr⟩ := Option.bind_eq_some_iff.mp hr; simp only [*, Option.bind_some]; exact hk _ _ hr)
    | (obtain ⟨x, hx, hr⟩ := Option.bind_eq_some_iff.mp hr; simp only [*, Option.bind_some, if_true]; exact hk _ _ hr)
    | (obtain ⟨x, hx, hr⟩ := Option.bind_eq_some_iff.mp hr; simp only [*, Option.bind_some]; cases x <;> exact hk _ _ hr)
    | (simp_all only [ite_true, ite_false]; exact hk _ _ hr)
theorem mo_aload (i : Nat) : jx_mono (jo_aload i) := by
  intro k k' hk s r hr
  simp only [jo_aload] at hr ⊢
  repeat' split at hr
  all_goals first
    | (cases hr; done)
    | exact hk _ _ hr
    | (simp only [*]; exact hk _ _ hr)
    | (simp only [*, if_true, if_false]; exact hk _ _ hr)
    | (obtain ⟨x, hx, hr⟩ := Option.bind_eq_some_iff.mp hr; simp only [*, Option.bind_some]; exact hk _ _ hr)
    | (obtain ⟨x, hx, hr⟩ := Option.bind_eq_some_iff.mp hr; simp only [*, Option.bind_some, if_true]; exact hk _ _ hr)
    | (obtain ⟨x, hx, hr⟩ := Option.bind_eq_some_iff.mp hr; simp only [*, Option.bind_some]; cases x <;> exact hk _ _ hr)
    | (simp_all only [ite_true, ite_false]; exact hk _ _ hr)
theorem mo_istore (i : Nat) : jx_mono (jo_istore i) := by
  intro k k' hk s r hr
  simp only [jo_istore] at hr ⊢
  repeat' split at hr
  all_goals first
    | (cases hr; done)
    | exact hk _ _ hr
    | (simp only [*]; exact hk _ _ hr)
    | (simp only [*, if_true, if_false]; exact hk _ _ hr)
    | (obtain ⟨x, hx, hr⟩ := Option.bind_eq_some_iff.mp hr; simp only [*, Option.bind_some]; exact hk _ _ hr)
    | (obtain ⟨x, hx, hr⟩ := Option.bind_eq_some_iff.mp hr; simp only [*, Option.bind_some, if_true]; exact hk _ _ hr)
    | (obtain ⟨x, hx, hr⟩ := Option.bind_eq_some_iff.mp hr; simp only [*, Option.bind_some]; cases x <;> exact hk _ _ hr)
    | (simp_all only [ite_true, ite_false]; exact hk _ _ hr)
theorem mo_lstore (i : Nat) : jx_mono (jo_lstore i) := by
  intro k k' hk s r hr
  simp only [jo_lstore] at hr ⊢
  repeat' split at hr
  all_goals first
    | (cases hr; done)
    | exact hk _ _ hr
    | (simp only [*]; exact hk _ _ hr)
    | (simp only [*, if_true, if_false]; exact hk _ _ hr)
    | (obtain ⟨x, hx, hr⟩ := Option.bind_eq_some_iff.mp hr; simp only [*, Option.bind_some]; exact hk _ _ hr)
    | (obtain ⟨x, hx, hr⟩ := Option.bind_eq_some_iff.mp hr; simp only [*, Option.bind_some, if_true]; exact hk _ _ hr)
    | (obtain ⟨x, hx, hr⟩ := Option.bind_eq_some_iff.mp hr; simp only [*, Option.bind_some]; cases x <;> exact hk _ _ hr)
    | (simp_all only [ite_true, ite_false]; exact hk _ _ hr)
theorem mo_astore (i : Nat) : jx_mono (jo_astore i) := by
  intro k k' hk s r hr
  simp only [jo_astore] at hr ⊢
  repeat' split at hr
  all_goals first
    | (cases hr; done)
    | exact hk _ _ hr
    | (simp only [*]; exact hk _ _ hr)
    | (simp only [*, if_true, if_false]; exact hk _ _ hr)
    | (obtain ⟨x, hx, hr⟩ := Option.bind_eq_some_iff.mp hr; simp only [*, Option.bind_some]; exact hk _ _ hr)
    | (obtain ⟨x, hx, hr⟩ := Option.bind_eq_some_iff.mp hr; simp only [*, Option.bind_some, if_true]; exact hk _ _ hr)
    | (obtain ⟨x, hx, hr⟩ := Option.bind_eq_some_iff.mp hr; simp only [*, Option.bind_some]; cases x <;> exact hk _ _ hr)
    | (simp_all only [ite_true, ite_false]; exact hk _ _ hr)
theorem mo_iinc (i : Nat) (n : Int32) : jx_mono (jo_iinc i n) := by
  intro k k' hk s r hr
  simp only [jo_iinc] at hr ⊢
  repeat' split at hr
  all_goals first
    | (cases hr; done)
    | exact hk _ _ hr
    | (simp only [*]; exact hk _ _ hr)
    | (simp only [*, if_true, if_false]; exact hk _ _ hr)
    | (obtain ⟨x, hx, hr⟩ := Option.bind_eq_some_iff.mp hr; simp only [*, Option.bind_some]; exact hk _ _ hr)
    | (obtain ⟨x, hx, hr⟩ := Option.bind_eq_some_iff.mp hr; simp only [*, Option.bind_some, if_true]; exact hk _ _ hr)
    | (obtain ⟨x, hx, hr⟩ := Option.bind_eq_some_iff.mp hr; simp only [*, Option.bind_some]; cases x <;> exact hk _ _ hr)
    | (simp_all only [ite_true, ite_false]; exact hk _ _ hr)
theorem mo_ii (f : Int32 → Int32 → Int32) : jx_mono (jo_ii f) := by
  intro k k' hk s r hr
  simp only [jo_ii] at hr ⊢
  repeat' split at hr
  all_goals first
    | (cases hr; done)
    | exact hk _ _ hr
    | (simp only [*]; exact hk _ _ hr)
    | (simp_all only [ite_true, ite_false]; exact hk _ _ hr)
theorem mo_id (f : Int32 → Int32 → Int32) : jx_mono (jo_id f) := by
  intro k k' hk s r hr
  simp only [jo_id] at hr ⊢
  repeat' split at hr
  all_goals first
    | (cases hr; done)
    | exact hk _ _ hr
    | (simp only [*]; exact hk _ _ hr)
    | (simp_all only [ite_true, ite_false]; exact hk _ _ hr)
theorem mo_i1 (f : Int32 → Int32) : jx_mono (jo_i1 f) := by
  intro k k' hk s r hr
  simp only [jo_i1] at hr ⊢
  repeat' split at hr
  all_goals first
    | (cases hr; done)
    | exact hk _ _ hr
    | (simp only [*]; exact hk _ _ hr)
    | (simp_all only [ite_true, ite_false]; exact hk _ _ hr)
theorem mo_ll (f : Int64 → Int64 → Int64) : jx_mono (jo_ll f) := by
  intro k k' hk s r hr
  simp only [jo_ll] at hr ⊢
  repeat' split at hr
  all_goals first
    | (cases hr; done)
    | exact hk _ _ hr
    | (simp only [*]; exact hk _ _ hr)
    | (simp_all only [ite_true, ite_false]; exact hk _ _ hr)
theorem mo_ld (f : Int64 → Int64 → Int64) : jx_mono (jo_ld f) := by
  intro k k' hk s r hr
  simp only [jo_ld] at hr ⊢
  repeat' split at hr
  all_goals first
    | (cases hr; done)
    | exact hk _ _ hr
    | (simp only [*]; exact hk _ _ hr)
    | (simp_all only [ite_true, ite_false]; exact hk _ _ hr)
theorem mo_lc (f : Int64 → Int64 → Int32) : jx_mono (jo_lc f) := by
  intro k k' hk s r hr
  simp only [jo_lc] at hr ⊢
  repeat' split at hr
  all_goals first
    | (cases hr; done)
    | exact hk _ _ hr
    | (simp only [*]; exact hk _ _ hr)
    | (simp_all only [ite_true, ite_false]; exact hk _ _ hr)
theorem mo_i2l  : jx_mono (jo_i2l) := by
  intro k k' hk s r hr
  simp only [jo_i2l] at hr ⊢
  repeat' split at hr
  all_goals first
    | (cases hr; done)
    | exact hk _ _ hr
    | (simp only [*]; exact hk _ _ hr)
    | (simp only [*, if_true, if_false]; exact hk _ _ hr)
    | (obtain ⟨x, hx, hr⟩ := Option.bind_eq_some_iff.mp hr; simp only [*, Option.bind_some]; exact hk _ _ hr)
    | (obtain ⟨x, hx, hr⟩ := Option.bind_eq_some_iff.mp hr; simp only [*, Option.bind_some, if_true]; exact hk _ _ hr)
    | (obtain ⟨x, hx, hr⟩ := Option.bind_eq_some_iff.mp hr; simp only [*, Option.bind_some]; cases x <;> exact hk _ _ hr)
    | (simp_all only [ite_true, ite_false]; exact hk _ _ hr)
theorem mo_l2i  : jx_mono (jo_l2i) := by
  intro k k' hk s r hr
  simp only [jo_l2i] at hr ⊢
  repeat' split at hr
  all_goals first
    | (cases hr; done)
    | exact hk _ _ hr
    | (simp only [*]; exact hk _ _ hr)
    | (simp only [*, if_true, if_false]; exact hk _ _ hr)
    | (obtain ⟨x, hx, hr⟩ := Option.bind_eq_some_iff.mp hr; simp only [*, Option.bind_some]; exact hk _ _ hr)
    | (obtain ⟨x, hx, hr⟩ := Option.bind_eq_some_iff.mp hr; simp only [*, Option.bind_some, if_true]; exact hk _ _ hr)
    | (obtain ⟨x, hx, hr⟩ := Option.bind_eq_some_iff.mp hr; simp only [*, Option.bind_some]; cases x <;> exact hk _ _ hr)
    | (simp_all only [ite_true, ite_false]; exact hk _ _ hr)
theorem mo_dup  : jx_mono (jo_dup) := by
  intro k k' hk s r hr
  simp only [jo_dup] at hr ⊢
  repeat' split at hr
  all_goals first
    | (cases hr; done)
    | exact hk _ _ hr
    | (simp only [*]; exact hk _ _ hr)
    | (simp only [*, if_true, if_false]; exact hk _ _ hr)
    | (obtain ⟨x, hx, hr⟩ := Option.bind_eq_some_iff.mp hr; simp only [*, Option.bind_some]; exact hk _ _ hr)
    | (obtain ⟨x, hx, hr⟩ := Option.bind_eq_some_iff.mp hr; simp only [*, Option.bind_some, if_true]; exact hk _ _ hr)
    | (obtain ⟨x, hx, hr⟩ := Option.bind_eq_some_iff.mp hr; simp only [*, Option.bind_some]; cases x <;> exact hk _ _ hr)
    | (simp_all only [ite_true, ite_false]; exact hk _ _ hr)
theorem mo_pop  : jx_mono (jo_pop) := by
  intro k k' hk s r hr
  simp only [jo_pop] at hr ⊢
  repeat' split at hr
  all_goals first
    | (cases hr; done)
    | exact hk _ _ hr
    | (simp only [*]; exact hk _ _ hr)
    | (simp only [*, if_true, if_false]; exact hk _ _ hr)
    | (obtain ⟨x, hx, hr⟩ := Option.bind_eq_some_iff.mp hr; simp only [*, Option.bind_some]; exact hk _ _ hr)
    | (obtain ⟨x, hx, hr⟩ := Option.bind_eq_some_iff.mp hr; simp only [*, Option.bind_some, if_true]; exact hk _ _ hr)
    | (obtain ⟨x, hx, hr⟩ := Option.bind_eq_some_iff.mp hr; simp only [*, Option.bind_some]; cases x <;> exact hk _ _ hr)
    | (simp_all only [ite_true, ite_false]; exact hk _ _ hr)
theorem mo_getI (ci : Nat) (kf : Nat) : jx_mono (jo_getI ci kf) := by
  intro k k' hk s r hr
  simp only [jo_getI] at hr ⊢
  repeat' split at hr
  all_goals first
    | (cases hr; done)
    | exact hk _ _ hr
    | (simp only [*]; exact hk _ _ hr)
    | (simp only [*, if_true, if_false]; exact hk _ _ hr)
    | (obtain ⟨x, hx, hr⟩ := Option.bind_eq_some_iff.mp hr; simp only [*, Option.bind_some]; exact hk _ _ hr)
    | (obtain ⟨x, hx, hr⟩ := Option.bind_eq_some_iff.mp hr; simp only [*, Option.bind_some, if_true]; exact hk _ _ hr)
    | (obtain ⟨x, hx, hr⟩ := Option.bind_eq_some_iff.mp hr; simp only [*, Option.bind_some]; cases x <;> exact hk _ _ hr)
    | (simp_all only [ite_true, ite_false]; exact hk _ _ hr)
theorem mo_getJ (ci : Nat) (kf : Nat) : jx_mono (jo_getJ ci kf) := by
  intro k k' hk s r hr
  simp only [jo_getJ] at hr ⊢
  repeat' split at hr
  all_goals first
    | (cases hr; done)
    | exact hk _ _ hr
    | (simp only [*]; exact hk _ _ hr)
    | (simp only [*, if_true, if_false]; exact hk _ _ hr)
    | (obtain ⟨x, hx, hr⟩ := Option.bind_eq_some_iff.mp hr; simp only [*, Option.bind_some]; exact hk _ _ hr)
    | (obtain ⟨x, hx, hr⟩ := Option.bind_eq_some_iff.mp hr; simp only [*, Option.bind_some, if_true]; exact hk _ _ hr)
    | (obtain ⟨x, hx, hr⟩ := Option.bind_eq_some_iff.mp hr; simp only [*, Option.bind_some]; cases x <;> exact hk _ _ hr)
    | (simp_all only [ite_true, ite_false]; exact hk _ _ hr)
theorem mo_getA (ci : Nat) (kf : Nat) : jx_mono (jo_getA ci kf) := by
  intro k k' hk s r hr
  simp only [jo_getA] at hr ⊢
  repeat' split at hr
  all_goals first
    | (cases hr; done)
    | exact hk _ _ hr
    | (simp only [*]; exact hk _ _ hr)
    | (simp only [*, if_true, if_false]; exact hk _ _ hr)
    | (obtain ⟨x, hx, hr⟩ := Option.bind_eq_some_iff.mp hr; simp only [*, Option.bind_some]; exact hk _ _ hr)
    | (obtain ⟨x, hx, hr⟩ := Option.bind_eq_some_iff.mp hr; simp only [*, Option.bind_some, if_true]; exact hk _ _ hr)
    | (obtain ⟨x, hx, hr⟩ := Option.bind_eq_some_iff.mp hr; simp only [*, Option.bind_some]; cases x <;> exact hk _ _ hr)
    | (simp_all only [ite_true, ite_false]; exact hk _ _ hr)
theorem mo_putI (ci : Nat) (kf : Nat) : jx_mono (jo_putI ci kf) := by
  intro k k' hk s r hr
  simp only [jo_putI] at hr ⊢
  repeat' split at hr
  all_goals first
    | (cases hr; done)
    | exact hk _ _ hr
    | (simp only [*]; exact hk _ _ hr)
    | (simp only [*, if_true, if_false]; exact hk _ _ hr)
    | (obtain ⟨x, hx, hr⟩ := Option.bind_eq_some_iff.mp hr; simp only [*, Option.bind_some]; exact hk _ _ hr)
    | (obtain ⟨x, hx, hr⟩ := Option.bind_eq_some_iff.mp hr; simp only [*, Option.bind_some, if_true]; exact hk _ _ hr)
    | (obtain ⟨x, hx, hr⟩ := Option.bind_eq_some_iff.mp hr; simp only [*, Option.bind_some]; cases x <;> exact hk _ _ hr)
    | (simp_all only [ite_true, ite_false]; exact hk _ _ hr)
theorem mo_putZ (ci : Nat) (kf : Nat) : jx_mono (jo_putZ ci kf) := by
  intro k k' hk s r hr
  simp only [jo_putZ] at hr ⊢
  repeat' split at hr
  all_goals first
    | (cases hr; done)
    | exact hk _ _ hr
    | (simp only [*]; exact hk _ _ hr)
    | (simp only [*, if_true, if_false]; exact hk _ _ hr)
    | (obtain ⟨x, hx, hr⟩ := Option.bind_eq_some_iff.mp hr; simp only [*, Option.bind_some]; exact hk _ _ hr)
    | (obtain ⟨x, hx, hr⟩ := Option.bind_eq_some_iff.mp hr; simp only [*, Option.bind_some, if_true]; exact hk _ _ hr)
    | (obtain ⟨x, hx, hr⟩ := Option.bind_eq_some_iff.mp hr; simp only [*, Option.bind_some]; cases x <;> exact hk _ _ hr)
    | (simp_all only [ite_true, ite_false]; exact hk _ _ hr)
theorem mo_putJ (ci : Nat) (kf : Nat) : jx_mono (jo_putJ ci kf) := by
  intro k k' hk s r hr
  simp only [jo_putJ] at hr ⊢
  repeat' split at hr
  all_goals first
    | (cases hr; done)
    | exact hk _ _ hr
    | (simp only [*]; exact hk _ _ hr)
    | (simp only [*, if_true, if_false]; exact hk _ _ hr)
    | (obtain ⟨x, hx, hr⟩ := Option.bind_eq_some_iff.mp hr; simp only [*, Option.bind_some]; exact hk _ _ hr)
    | (obtain ⟨x, hx, hr⟩ := Option.bind_eq_some_iff.mp hr; simp only [*, Option.bind_some, if_true]; exact hk _ _ hr)
    | (obtain ⟨x, hx, hr⟩ := Option.bind_eq_some_iff.mp hr; simp only [*, Option.bind_some]; cases x <;> exact hk _ _ hr)
    | (simp_all only [ite_true, ite_false]; exact hk _ _ hr)
theorem mo_putA (ci : Nat) (kf : Nat) : jx_mono (jo_putA ci kf) := by
  intro k k' hk s r hr
  simp only [jo_putA] at hr ⊢
  repeat' split at hr
  all_goals first
    | (cases hr; done)
    | exact hk _ _ hr
    | (simp only [*]; exact hk _ _ hr)
    | (simp only [*, if_true, if_false]; exact hk _ _ hr)
    | (obtain ⟨x, hx, hr⟩ := Option.bind_eq_some_iff.mp hr; simp only [*, Option.bind_some]; exact hk _ _ hr)
    | (obtain ⟨x, hx, hr⟩ := Option.bind_eq_some_iff.mp hr; simp only [*, Option.bind_some, if_true]; exact hk _ _ hr)
    | (obtain ⟨x, hx, hr⟩ := Option.bind_eq_some_iff.mp hr; simp only [*, Option.bind_some]; cases x <;> exact hk _ _ hr)
    | (simp_all only [ite_true, ite_false]; exact hk _ _ hr)
theorem mo_iald (t : Nat) : jx_mono (jo_iald t) := by
  intro k k' hk s r hr
  simp only [jo_iald] at hr ⊢
  repeat' split at hr
  all_goals first
    | (cases hr; done)
    | exact hk _ _ hr
    | (simp only [*]; exact hk _ _ hr)
    | (simp only [*, if_true, if_false]; exact hk _ _ hr)
    | (obtain ⟨x, hx, hr⟩ := Option.bind_eq_some_iff.mp hr; simp only [*, Option.bind_some]; exact hk _ _ hr)
    | (obtain ⟨x, hx, hr⟩ := Option.bind_eq_some_iff.mp hr; simp only [*, Option.bind_some, if_true]; exact hk _ _ hr)
    | (obtain ⟨x, hx, hr⟩ := Option.bind_eq_some_iff.mp hr; simp only [*, Option.bind_some]; cases x <;> exact hk _ _ hr)
    | (simp_all only [ite_true, ite_false]; exact hk _ _ hr)
theorem mo_lald (t : Nat) : jx_mono (jo_lald t) := by
  intro k k' hk s r hr
  simp only [jo_lald] at hr ⊢
  repeat' split at hr
  all_goals first
    | (cases hr; done)
    | exact hk _ _ hr
    | (simp only [*]; exact hk _ _ hr)
    | (simp only [*, if_true, if_false]; exact hk _ _ hr)
    | (obtain ⟨x, hx, hr⟩ := Option.bind_eq_some_iff.mp hr; simp only [*, Option.bind_some]; exact hk _ _ hr)
    | (obtain ⟨x, hx, hr⟩ := Option.bind_eq_some_iff.mp hr; simp only [*, Option.bind_some, if_true]; exact hk _ _ hr)
    | (obtain ⟨x, hx, hr⟩ := Option.bind_eq_some_iff.mp hr; simp only [*, Option.bind_some]; cases x <;> exact hk _ _ hr)
    | (simp_all only [ite_true, ite_false]; exact hk _ _ hr)
theorem mo_aald (t : Nat) : jx_mono (jo_aald t) := by
  intro k k' hk s r hr
  simp only [jo_aald] at hr ⊢
  repeat' split at hr
  all_goals first
    | (cases hr; done)
    | exact hk _ _ hr
    | (simp only [*]; exact hk _ _ hr)
    | (simp only [*, if_true, if_false]; exact hk _ _ hr)
    | (obtain ⟨x, hx, hr⟩ := Option.bind_eq_some_iff.mp hr; simp only [*, Option.bind_some]; exact hk _ _ hr)
    | (obtain ⟨x, hx, hr⟩ := Option.bind_eq_some_iff.mp hr; simp only [*, Option.bind_some, if_true]; exact hk _ _ hr)
    | (obtain ⟨x, hx, hr⟩ := Option.bind_eq_some_iff.mp hr; simp only [*, Option.bind_some]; cases x <;> exact hk _ _ hr)
    | (simp_all only [ite_true, ite_false]; exact hk _ _ hr)
theorem mo_iast (t : Nat) : jx_mono (jo_iast t) := by
  intro k k' hk s r hr
  simp only [jo_iast] at hr ⊢
  repeat' split at hr
  all_goals first
    | (cases hr; done)
    | exact hk _ _ hr
    | (simp only [*]; exact hk _ _ hr)
    | (simp only [*, if_true, if_false]; exact hk _ _ hr)
    | (obtain ⟨x, hx, hr⟩ := Option.bind_eq_some_iff.mp hr; simp only [*, Option.bind_some]; exact hk _ _ hr)
    | (obtain ⟨x, hx, hr⟩ := Option.bind_eq_some_iff.mp hr; simp only [*, Option.bind_some, if_true]; exact hk _ _ hr)
    | (obtain ⟨x, hx, hr⟩ := Option.bind_eq_some_iff.mp hr; simp only [*, Option.bind_some]; cases x <;> exact hk _ _ hr)
    | (simp_all only [ite_true, ite_false]; exact hk _ _ hr)
theorem mo_bast (t : Nat) : jx_mono (jo_bast t) := by
  intro k k' hk s r hr
  simp only [jo_bast] at hr ⊢
  repeat' split at hr
  all_goals first
    | (cases hr; done)
    | exact hk _ _ hr
    | (simp only [*]; exact hk _ _ hr)
    | (simp only [*, if_true, if_false]; exact hk _ _ hr)
    | (obtain ⟨x, hx, hr⟩ := Option.bind_eq_some_iff.mp hr; simp only [*, Option.bind_some]; exact hk _ _ hr)
    | (obtain ⟨x, hx, hr⟩ := Option.bind_eq_some_iff.mp hr; simp only [*, Option.bind_some, if_true]; exact hk _ _ hr)
    | (obtain ⟨x, hx, hr⟩ := Option.bind_eq_some_iff.mp hr; simp only [*, Option.bind_some]; cases x <;> exact hk _ _ hr)
    | (simp_all only [ite_true, ite_false]; exact hk _ _ hr)
theorem mo_last (t : Nat) : jx_mono (jo_last t) := by
  intro k k' hk s r hr
  simp only [jo_last] at hr ⊢
  repeat' split at hr
  all_goals first
    | (cases hr; done)
    | exact hk _ _ hr
    | (simp only [*]; exact hk _ _ hr)
    | (simp only [*, if_true, if_false]; exact hk _ _ hr)
    | (obtain ⟨x, hx, hr⟩ := Option.bind_eq_some_iff.mp hr; simp only [*, Option.bind_some]; exact hk _ _ hr)
    | (obtain ⟨x, hx, hr⟩ := Option.bind_eq_some_iff.mp hr; simp only [*, Option.bind_some, if_true]; exact hk _ _ hr)
    | (obtain ⟨x, hx, hr⟩ := Option.bind_eq_some_iff.mp hr; simp only [*, Option.bind_some]; cases x <;> exact hk _ _ hr)
    | (simp_all only [ite_true, ite_false]; exact hk _ _ hr)
theorem mo_aast (t : Nat) (ci : Nat) : jx_mono (jo_aast t ci) := by
  intro k k' hk s r hr
  simp only [jo_aast] at hr ⊢
  repeat' split at hr
  all_goals first
    | (cases hr; done)
    | exact hk _ _ hr
    | (simp only [*]; exact hk _ _ hr)
    | (simp only [*, if_true, if_false]; exact hk _ _ hr)
    | (obtain ⟨x, hx, hr⟩ := Option.bind_eq_some_iff.mp hr; simp only [*, Option.bind_some]; exact hk _ _ hr)
    | (obtain ⟨x, hx, hr⟩ := Option.bind_eq_some_iff.mp hr; simp only [*, Option.bind_some, if_true]; exact hk _ _ hr)
    | (obtain ⟨x, hx, hr⟩ := Option.bind_eq_some_iff.mp hr; simp only [*, Option.bind_some]; cases x <;> exact hk _ _ hr)
    | (simp_all only [ite_true, ite_false]; exact hk _ _ hr)
theorem mo_alen (t : Nat) : jx_mono (jo_alen t) := by
  intro k k' hk s r hr
  simp only [jo_alen] at hr ⊢
  repeat' split at hr
  all_goals first
    | (cases hr; done)
    | exact hk _ _ hr
    | (simp only [*]; exact hk _ _ hr)
    | (simp only [*, if_true, if_false]; exact hk _ _ hr)
    | (obtain ⟨x, hx, hr⟩ := Option.bind_eq_some_iff.mp hr; simp only [*, Option.bind_some]; exact hk _ _ hr)
    | (obtain ⟨x, hx, hr⟩ := Option.bind_eq_some_iff.mp hr; simp only [*, Option.bind_some, if_true]; exact hk _ _ hr)
    | (obtain ⟨x, hx, hr⟩ := Option.bind_eq_some_iff.mp hr; simp only [*, Option.bind_some]; cases x <;> exact hk _ _ hr)
    | (simp_all only [ite_true, ite_false]; exact hk _ _ hr)
theorem mo_newa (t : Nat) (z : (Nat → Int32) ⊕ (Nat → Int64) ⊕ (Nat → UInt32) ⊕ (Nat → UInt64) ⊕ (Nat → Option Nat)) : jx_mono (jo_newa t z) := by
  intro k k' hk s r hr
  simp only [jo_newa] at hr ⊢
  repeat' split at hr
  all_goals first
    | (cases hr; done)
    | (simp only [*, if_true]; exact hk _ _ hr)
    | (simp_all only [ite_true, ite_false]; exact hk _ _ hr)
theorem mo_new (ci : Nat) (N : Nat) (fs : List Value) : jx_mono (jo_new ci N fs) := by
  intro k k' hk s r hr
  simp only [jo_new] at hr ⊢
  repeat' split at hr
  all_goals first
    | (cases hr; done)
    | exact hk _ _ hr
    | (simp only [*]; exact hk _ _ hr)
    | (simp only [*, if_true, if_false]; exact hk _ _ hr)
    | (obtain ⟨x, hx, hr⟩ := Option.bind_eq_some_iff.mp hr; simp only [*, Option.bind_some]; exact hk _ _ hr)
    | (obtain ⟨x, hx, hr⟩ := Option.bind_eq_some_iff.mp hr; simp only [*, Option.bind_some, if_true]; exact hk _ _ hr)
    | (obtain ⟨x, hx, hr⟩ := Option.bind_eq_some_iff.mp hr; simp only [*, Option.bind_some]; cases x <;> exact hk _ _ hr)
    | (simp_all only [ite_true, ite_false]; exact hk _ _ hr)
theorem mo_objI  : jx_mono (jo_objI) := by
  intro k k' hk s r hr
  simp only [jo_objI] at hr ⊢
  repeat' split at hr
  all_goals first
    | (cases hr; done)
    | exact hk _ _ hr
    | (simp only [*]; exact hk _ _ hr)
    | (simp only [*, if_true, if_false]; exact hk _ _ hr)
    | (obtain ⟨x, hx, hr⟩ := Option.bind_eq_some_iff.mp hr; simp only [*, Option.bind_some]; exact hk _ _ hr)
    | (obtain ⟨x, hx, hr⟩ := Option.bind_eq_some_iff.mp hr; simp only [*, Option.bind_some, if_true]; exact hk _ _ hr)
    | (obtain ⟨x, hx, hr⟩ := Option.bind_eq_some_iff.mp hr; simp only [*, Option.bind_some]; cases x <;> exact hk _ _ hr)
    | (simp_all only [ite_true, ite_false]; exact hk _ _ hr)
theorem ok_iadd {Z : jx_Z} {y pc : Nat} {cc : ByteArray} (hM : (jz_m Z y).2.1 = cc)  (hd : decode cc pc = .ok (.iadd, 1)) : jx_Ok Z y pc (pc + 1) (jo_ii (· + ·)) := by
  refine jx_ok_st (mo_ii _) (fun k lv st h r hr => ?_)
  simp only [jo_ii] at hr
  repeat' split at hr
  all_goals first
    | (cases hr; done)
    | exact ⟨_, hr, fun _ _ _ _ _ _ _ _ _ _ _ _ _ _ _ hF hl hR hS w => lv_iadd hF.1 (hF.2.1.trans hM) hd w⟩
theorem ok_isub {Z : jx_Z} {y pc : Nat} {cc : ByteArray} (hM : (jz_m Z y).2.1 = cc)  (hd : decode cc pc = .ok (.isub, 1)) : jx_Ok Z y pc (pc + 1) (jo_ii (· - ·)) := by
  refine jx_ok_st (mo_ii _) (fun k lv st h r hr => ?_)
  simp only [jo_ii] at hr
  repeat' split at hr
  all_goals first
    | (cases hr; done)
    | exact ⟨_, hr, fun _ _ _ _ _ _ _ _ _ _ _ _ _ _ _ hF hl hR hS w => lv_isub hF.1 (hF.2.1.trans hM) hd w⟩
theorem ok_imul {Z : jx_Z} {y pc : Nat} {cc : ByteArray} (hM : (jz_m Z y).2.1 = cc)  (hd : decode cc pc = .ok (.imul, 1)) : jx_Ok Z y pc (pc + 1) (jo_ii (· * ·)) := by
  refine jx_ok_st (mo_ii _) (fun k lv st h r hr => ?_)
  simp only [jo_ii] at hr
  repeat' split at hr
  all_goals first
    | (cases hr; done)
    | exact ⟨_, hr, fun _ _ _ _ _ _ _ _ _ _ _ _ _ _ _ hF hl hR hS w => lv_imul hF.1 (hF.2.1.trans hM) hd w⟩
theorem ok_iand {Z : jx_Z} {y pc : Nat} {cc : ByteArray} (hM : (jz_m Z y).2.1 = cc)  (hd : decode cc pc = .ok (.iand, 1)) : jx_Ok Z y pc (pc + 1) (jo_ii (· &&& ·)) := by
  refine jx_ok_st (mo_ii _) (fun k lv st h r hr => ?_)
  simp only [jo_ii] at hr
  repeat' split at hr
  all_goals first
    | (cases hr; done)
    | exact ⟨_, hr, fun _ _ _ _ _ _ _ _ _ _ _ _ _ _ _ hF hl hR hS w => lv_iand hF.1 (hF.2.1.trans hM) hd w⟩
theorem ok_ior {Z : jx_Z} {y pc : Nat} {cc : ByteArray} (hM : (jz_m Z y).2.1 = cc)  (hd : decode cc pc = .ok (.ior, 1)) : jx_Ok Z y pc (pc + 1) (jo_ii (· ||| ·)) := by
  refine jx_ok_st (mo_ii _) (fun k lv st h r hr => ?_)
  simp only [jo_ii] at hr
  repeat' split at hr
  all_goals first
    | (cases hr; done)
    | exact ⟨_, hr, fun _ _ _ _ _ _ _ _ _ _ _ _ _ _ _ hF hl hR hS w => lv_ior hF.1 (hF.2.1.trans hM) hd w⟩
theorem ok_ixor {Z : jx_Z} {y pc : Nat} {cc : ByteArray} (hM : (jz_m Z y).2.1 = cc)  (hd : decode cc pc = .ok (.ixor, 1)) : jx_Ok Z y pc (pc + 1) (jo_ii (· ^^^ ·)) := by
  refine jx_ok_st (mo_ii _) (fun k lv st h r hr => ?_)
  simp only [jo_ii] at hr
  repeat' split at hr
  all_goals first
    | (cases hr; done)
    | exact ⟨_, hr, fun _ _ _ _ _ _ _ _ _ _ _ _ _ _ _ hF hl hR hS w => lv_ixor hF.1 (hF.2.1.trans hM) hd w⟩
theorem ok_ladd {Z : jx_Z} {y pc : Nat} {cc : ByteArray} (hM : (jz_m Z y).2.1 = cc)  (hd : decode cc pc = .ok (.ladd, 1)) : jx_Ok Z y pc (pc + 1) (jo_ll (· + ·)) := by
  refine jx_ok_st (mo_ll _) (fun k lv st h r hr => ?_)
  simp only [jo_ll] at hr
  repeat' split at hr
  all_goals first
    | (cases hr; done)
    | exact ⟨_, hr, fun _ _ _ _ _ _ _ _ _ _ _ _ _ _ _ hF hl hR hS w => lv_ladd hF.1 (hF.2.1.trans hM) hd w⟩
theorem ok_lsub {Z : jx_Z} {y pc : Nat} {cc : ByteArray} (hM : (jz_m Z y).2.1 = cc)  (hd : decode cc pc = .ok (.lsub, 1)) : jx_Ok Z y pc (pc + 1) (jo_ll (· - ·)) := by
  refine jx_ok_st (mo_ll _) (fun k lv st h r hr => ?_)
  simp only [jo_ll] at hr
  repeat' split at hr
  all_goals first
    | (cases hr; done)
    | exact ⟨_, hr, fun _ _ _ _ _ _ _ _ _ _ _ _ _ _ _ hF hl hR hS w => lv_lsub hF.1 (hF.2.1.trans hM) hd w⟩
theorem ok_lmul {Z : jx_Z} {y pc : Nat} {cc : ByteArray} (hM : (jz_m Z y).2.1 = cc)  (hd : decode cc pc = .ok (.lmul, 1)) : jx_Ok Z y pc (pc + 1) (jo_ll (· * ·)) := by
  refine jx_ok_st (mo_ll _) (fun k lv st h r hr => ?_)
  simp only [jo_ll] at hr
  repeat' split at hr
  all_goals first
    | (cases hr; done)
    | exact ⟨_, hr, fun _ _ _ _ _ _ _ _ _ _ _ _ _ _ _ hF hl hR hS w => lv_lmul hF.1 (hF.2.1.trans hM) hd w⟩
theorem ok_land {Z : jx_Z} {y pc : Nat} {cc : ByteArray} (hM : (jz_m Z y).2.1 = cc)  (hd : decode cc pc = .ok (.land, 1)) : jx_Ok Z y pc (pc + 1) (jo_ll (· &&& ·)) := by
  refine jx_ok_st (mo_ll _) (fun k lv st h r hr => ?_)
  simp only [jo_ll] at hr
  repeat' split at hr
  all_goals first
    | (cases hr; done)
    | exact ⟨_, hr, fun _ _ _ _ _ _ _ _ _ _ _ _ _ _ _ hF hl hR hS w => lv_land hF.1 (hF.2.1.trans hM) hd w⟩
theorem ok_lor {Z : jx_Z} {y pc : Nat} {cc : ByteArray} (hM : (jz_m Z y).2.1 = cc)  (hd : decode cc pc = .ok (.lor, 1)) : jx_Ok Z y pc (pc + 1) (jo_ll (· ||| ·)) := by
  refine jx_ok_st (mo_ll _) (fun k lv st h r hr => ?_)
  simp only [jo_ll] at hr
  repeat' split at hr
  all_goals first
    | (cases hr; done)
    | exact ⟨_, hr, fun _ _ _ _ _ _ _ _ _ _ _ _ _ _ _ hF hl hR hS w => lv_lor hF.1 (hF.2.1.trans hM) hd w⟩
theorem ok_lxor {Z : jx_Z} {y pc : Nat} {cc : ByteArray} (hM : (jz_m Z y).2.1 = cc)  (hd : decode cc pc = .ok (.lxor, 1)) : jx_Ok Z y pc (pc + 1) (jo_ll (· ^^^ ·)) := by
  refine jx_ok_st (mo_ll _) (fun k lv st h r hr => ?_)
  simp only [jo_ll] at hr
  repeat' split at hr
  all_goals first
    | (cases hr; done)
    | exact ⟨_, hr, fun _ _ _ _ _ _ _ _ _ _ _ _ _ _ _ hF hl hR hS w => lv_lxor hF.1 (hF.2.1.trans hM) hd w⟩
theorem ok_ineg {Z : jx_Z} {y pc : Nat} {cc : ByteArray} (hM : (jz_m Z y).2.1 = cc)  (hd : decode cc pc = .ok (.ineg, 1)) : jx_Ok Z y pc (pc + 1) (jo_i1 (fun x => -x)) := by
  refine jx_ok_st (mo_i1 _) (fun k lv st h r hr => ?_)
  simp only [jo_i1] at hr
  repeat' split at hr
  all_goals first
    | (cases hr; done)
    | exact ⟨_, hr, fun _ _ _ _ _ _ _ _ _ _ _ _ _ _ _ hF hl hR hS w => lv_ineg hF.1 (hF.2.1.trans hM) hd w⟩
theorem ok_idiv {Z : jx_Z} {y pc : Nat} {cc : ByteArray} (hM : (jz_m Z y).2.1 = cc)  (hd : decode cc pc = .ok (.idiv, 1)) : jx_Ok Z y pc (pc + 1) (jo_id (fun x y => x / y)) := by
  refine jx_ok_st (mo_id _) (fun k lv st h r hr => ?_)
  simp only [jo_id] at hr
  repeat' split at hr
  all_goals first
    | (cases hr; done)
    | exact ⟨_, hr, fun _ _ _ _ _ _ _ _ _ _ _ _ _ _ _ hF hl hR hS w => lv_idiv hF.1 (hF.2.1.trans hM) hd (by assumption) w⟩
theorem ok_irem {Z : jx_Z} {y pc : Nat} {cc : ByteArray} (hM : (jz_m Z y).2.1 = cc)  (hd : decode cc pc = .ok (.irem, 1)) : jx_Ok Z y pc (pc + 1) (jo_id (fun x y => x - x / y * y)) := by
  refine jx_ok_st (mo_id _) (fun k lv st h r hr => ?_)
  simp only [jo_id] at hr
  repeat' split at hr
  all_goals first
    | (cases hr; done)
    | exact ⟨_, hr, fun _ _ _ _ _ _ _ _ _ _ _ _ _ _ _ hF hl hR hS w => lv_irem hF.1 (hF.2.1.trans hM) hd (by assumption) w⟩
theorem ok_ldiv {Z : jx_Z} {y pc : Nat} {cc : ByteArray} (hM : (jz_m Z y).2.1 = cc)  (hd : decode cc pc = .ok (.ldiv, 1)) : jx_Ok Z y pc (pc + 1) (jo_ld (fun x y => x / y)) := by
  refine jx_ok_st (mo_ld _) (fun k lv st h r hr => ?_)
  simp only [jo_ld] at hr
  repeat' split at hr
  all_goals first
    | (cases hr; done)
    | exact ⟨_, hr, fun _ _ _ _ _ _ _ _ _ _ _ _ _ _ _ hF hl hR hS w => lv_ldiv hF.1 (hF.2.1.trans hM) hd (by assumption) w⟩
theorem ok_lrem {Z : jx_Z} {y pc : Nat} {cc : ByteArray} (hM : (jz_m Z y).2.1 = cc)  (hd : decode cc pc = .ok (.lrem, 1)) : jx_Ok Z y pc (pc + 1) (jo_ld (fun x y => x - x / y * y)) := by
  refine jx_ok_st (mo_ld _) (fun k lv st h r hr => ?_)
  simp only [jo_ld] at hr
  repeat' split at hr
  all_goals first
    | (cases hr; done)
    | exact ⟨_, hr, fun _ _ _ _ _ _ _ _ _ _ _ _ _ _ _ hF hl hR hS w => lv_lrem hF.1 (hF.2.1.trans hM) hd (by assumption) w⟩
theorem ok_ishl {Z : jx_Z} {y pc : Nat} {cc : ByteArray} (hM : (jz_m Z y).2.1 = cc)  (hd : decode cc pc = .ok (.ishl, 1)) : jx_Ok Z y pc (pc + 1) (jo_ii (fun x y => x <<< (y &&& 31))) := by
  refine jx_ok_st (mo_ii _) (fun k lv st h r hr => ?_)
  simp only [jo_ii] at hr
  repeat' split at hr
  all_goals first
    | (cases hr; done)
    | exact ⟨_, hr, fun _ _ _ _ _ _ _ _ _ _ _ _ _ _ _ hF hl hR hS w => lv_ishl hF.1 (hF.2.1.trans hM) hd w⟩
theorem ok_ishr {Z : jx_Z} {y pc : Nat} {cc : ByteArray} (hM : (jz_m Z y).2.1 = cc)  (hd : decode cc pc = .ok (.ishr, 1)) : jx_Ok Z y pc (pc + 1) (jo_ii (fun x y => x >>> (y &&& 31))) := by
  refine jx_ok_st (mo_ii _) (fun k lv st h r hr => ?_)
  simp only [jo_ii] at hr
  repeat' split at hr
  all_goals first
    | (cases hr; done)
    | exact ⟨_, hr, fun _ _ _ _ _ _ _ _ _ _ _ _ _ _ _ hF hl hR hS w => lv_ishr hF.1 (hF.2.1.trans hM) hd w⟩
theorem ok_iushr {Z : jx_Z} {y pc : Nat} {cc : ByteArray} (hM : (jz_m Z y).2.1 = cc)  (hd : decode cc pc = .ok (.iushr, 1)) : jx_Ok Z y pc (pc + 1) (jo_ii (fun x y => (x.toUInt32 >>> (y.toUInt32 &&& Int32.toUInt32 31)).toInt32)) := by
  refine jx_ok_st (mo_ii _) (fun k lv st h r hr => ?_)
  simp only [jo_ii] at hr
  repeat' split at hr
  all_goals first
    | (cases hr; done)
    | exact ⟨_, hr, fun _ _ _ _ _ _ _ _ _ _ _ _ _ _ _ hF hl hR hS w => lv_iushr hF.1 (hF.2.1.trans hM) hd rfl w⟩
theorem ok_i2l {Z : jx_Z} {y pc : Nat} {cc : ByteArray} (hM : (jz_m Z y).2.1 = cc)  (hd : decode cc pc = .ok (.i2l, 1)) : jx_Ok Z y pc (pc + 1) (jo_i2l) := by
  refine jx_ok_st (mo_i2l) (fun k lv st h r hr => ?_)
  simp only [jo_i2l] at hr
  repeat' split at hr
  all_goals first
    | (cases hr; done)
    | exact ⟨_, hr, fun _ _ _ _ _ _ _ _ _ _ _ _ _ _ _ hF hl hR hS w => lv_i2l hF.1 (hF.2.1.trans hM) hd rfl w⟩
theorem ok_l2i {Z : jx_Z} {y pc : Nat} {cc : ByteArray} (hM : (jz_m Z y).2.1 = cc)  (hd : decode cc pc = .ok (.l2i, 1)) : jx_Ok Z y pc (pc + 1) (jo_l2i) := by
  refine jx_ok_st (mo_l2i) (fun k lv st h r hr => ?_)
  simp only [jo_l2i] at hr
  repeat' split at hr
  all_goals first
    | (cases hr; done)
    | exact ⟨_, hr, fun _ _ _ _ _ _ _ _ _ _ _ _ _ _ _ hF hl hR hS w => lv_l2i hF.1 (hF.2.1.trans hM) hd rfl w⟩
theorem ok_i2c {Z : jx_Z} {y pc : Nat} {cc : ByteArray} (hM : (jz_m Z y).2.1 = cc)  (hd : decode cc pc = .ok (.i2c, 1)) : jx_Ok Z y pc (pc + 1) (jo_i1 (fun x => (x.toUInt32 % 65536).toInt32)) := by
  refine jx_ok_st (mo_i1 _) (fun k lv st h r hr => ?_)
  simp only [jo_i1] at hr
  repeat' split at hr
  all_goals first
    | (cases hr; done)
    | exact ⟨_, hr, fun _ _ _ _ _ _ _ _ _ _ _ _ _ _ _ hF hl hR hS w => lv_i2c hF.1 (hF.2.1.trans hM) hd rfl w⟩
theorem ok_i2b {Z : jx_Z} {y pc : Nat} {cc : ByteArray} (hM : (jz_m Z y).2.1 = cc)  (hd : decode cc pc = .ok (.i2b, 1)) : jx_Ok Z y pc (pc + 1) (jo_i1 (fun x => x.toInt8.toInt32)) := by
  refine jx_ok_st (mo_i1 _) (fun k lv st h r hr => ?_)
  simp only [jo_i1] at hr
  repeat' split at hr
  all_goals first
    | (cases hr; done)
    | exact ⟨_, hr, fun _ _ _ _ _ _ _ _ _ _ _ _ _ _ _ hF hl hR hS w => lv_i2b hF.1 (hF.2.1.trans hM) hd rfl w⟩
theorem ok_lcmp {Z : jx_Z} {y pc : Nat} {cc : ByteArray} (hM : (jz_m Z y).2.1 = cc)  (hd : decode cc pc = .ok (.lcmp, 1)) : jx_Ok Z y pc (pc + 1) (jo_lc lg_cmp) := by
  refine jx_ok_st (mo_lc _) (fun k lv st h r hr => ?_)
  simp only [jo_lc] at hr
  repeat' split at hr
  all_goals first
    | (cases hr; done)
    | exact ⟨_, hr, fun _ _ _ _ _ _ _ _ _ _ _ _ _ _ _ hF hl hR hS w => W.lcmp hF.1 (hF.2.1.trans hM) hd w⟩
theorem ok_iconst {Z : jx_Z} {y pc : Nat} {cc : ByteArray} (hM : (jz_m Z y).2.1 = cc) {n : Int} {v : Int32} (hd : decode cc pc = .ok (.iconst n, 1)) (hv : Int32.ofInt n = v) : jx_Ok Z y pc (pc + 1) (jo_const (.int v)) := by
  refine jx_ok_st (mo_const _) (fun k lv st h r hr => ?_)
  simp only [jo_const] at hr
  repeat' split at hr
  all_goals first
    | (cases hr; done)
    | exact ⟨_, hr, fun _ _ _ _ _ _ _ _ _ _ _ _ _ _ _ hF hl hR hS w => lv_iconst hF.1 (hF.2.1.trans hM) hd hv w⟩
theorem ok_bipush {Z : jx_Z} {y pc : Nat} {cc : ByteArray} (hM : (jz_m Z y).2.1 = cc) {n : Int} {v : Int32} (hd : decode cc pc = .ok (.bipush n, 2)) (hv : (Int8.ofInt n).toInt32 = v) : jx_Ok Z y pc (pc + 2) (jo_const (.int v)) := by
  refine jx_ok_st (mo_const _) (fun k lv st h r hr => ?_)
  simp only [jo_const] at hr
  repeat' split at hr
  all_goals first
    | (cases hr; done)
    | exact ⟨_, hr, fun _ _ _ _ _ _ _ _ _ _ _ _ _ _ _ hF hl hR hS w => lv_bipush hF.1 (hF.2.1.trans hM) hd hv w⟩
theorem ok_sipush {Z : jx_Z} {y pc : Nat} {cc : ByteArray} (hM : (jz_m Z y).2.1 = cc) {n : Int} {v : Int32} (hd : decode cc pc = .ok (.sipush n, 3)) (hv : (Int16.ofInt n).toInt32 = v) : jx_Ok Z y pc (pc + 3) (jo_const (.int v)) := by
  refine jx_ok_st (mo_const _) (fun k lv st h r hr => ?_)
  simp only [jo_const] at hr
  repeat' split at hr
  all_goals first
    | (cases hr; done)
    | exact ⟨_, hr, fun _ _ _ _ _ _ _ _ _ _ _ _ _ _ _ hF hl hR hS w => lv_sipush hF.1 (hF.2.1.trans hM) hd hv w⟩
theorem ok_lconst {Z : jx_Z} {y pc : Nat} {cc : ByteArray} (hM : (jz_m Z y).2.1 = cc) {n : Fin 2} {v : Int64} (hd : decode cc pc = .ok (.lconst n, 1)) (hv : Int64.ofNat (n : Nat) = v) : jx_Ok Z y pc (pc + 1) (jo_const (.long v)) := by
  refine jx_ok_st (mo_const _) (fun k lv st h r hr => ?_)
  simp only [jo_const] at hr
  repeat' split at hr
  all_goals first
    | (cases hr; done)
    | exact ⟨_, hr, fun _ _ _ _ _ _ _ _ _ _ _ _ _ _ _ hF hl hR hS w => lv_lconst hF.1 (hF.2.1.trans hM) hd hv w⟩
theorem ok_ldc {Z : jx_Z} {y pc : Nat} {cc : ByteArray} (hM : (jz_m Z y).2.1 = cc) {own : String} (hO : (jz_m Z y).1.cls = own) {index : Nat} {v : Int32} (hw : Jvm.Cond.constant own index v ∈ jz_T Z) (hd : decode cc pc = .ok (.ldc index, 2)) : jx_Ok Z y pc (pc + 2) (jo_const (.int v)) := by
  refine jx_ok_st (mo_const _) (fun k lv st h r hr => ?_)
  simp only [jo_const] at hr
  repeat' split at hr
  all_goals first
    | (cases hr; done)
    | exact ⟨_, hr, fun _ _ _ _ _ _ _ _ _ _ _ _ _ _ _ hF hl hR hS w => lv_ldc hF.1 (hF.2.1.trans hM) (by rw [← hO]; exact hF.2.2.2.2.2.1) (hF.2.2.2.2.2.2.1 _ hw) hd w⟩
theorem ok_ldc2 {Z : jx_Z} {y pc : Nat} {cc : ByteArray} (hM : (jz_m Z y).2.1 = cc) {own : String} (hO : (jz_m Z y).1.cls = own) {index : Nat} {v : Int64} (hw : Jvm.Cond.constantLong own index v ∈ jz_T Z) (hd : decode cc pc = .ok (.ldc2_w index, 3)) : jx_Ok Z y pc (pc + 3) (jo_const (.long v)) := by
  refine jx_ok_st (mo_const _) (fun k lv st h r hr => ?_)
  simp only [jo_const] at hr
  repeat' split at hr
  all_goals first
    | (cases hr; done)
    | exact ⟨_, hr, fun _ _ _ _ _ _ _ _ _ _ _ _ _ _ _ hF hl hR hS w => lv_ldc2 hF.1 (hF.2.1.trans hM) (by rw [← hO]; exact hF.2.2.2.2.2.1) (hF.2.2.2.2.2.2.1 _ hw) hd w⟩
theorem ok_iload {Z : jx_Z} {y pc : Nat} {cc : ByteArray} (hM : (jz_m Z y).2.1 = cc) {i : Nat} (hd : decode cc pc = .ok (.iload i, 2)) : jx_Ok Z y pc (pc + 2) (jo_iload i) := by
  refine jx_ok_st (mo_iload _) (fun k lv st h r hr => ?_)
  simp only [jo_iload] at hr
  repeat' split at hr
  all_goals first
    | (cases hr; done)
    | exact ⟨_, hr, fun _ _ _ _ _ _ _ _ _ _ _ _ _ _ _ hF hl hR hS w => lv_iload hF.1 (hF.2.1.trans hM) hd (hl.2.2.2 _ _ (by assumption)) w⟩
theorem ok_iload_n {Z : jx_Z} {y pc : Nat} {cc : ByteArray} (hM : (jz_m Z y).2.1 = cc) {i : Nat} {n : Fin 4} (hd : decode cc pc = .ok (.iload_n n, 1)) (hi : (n : Nat) = i) : jx_Ok Z y pc (pc + 1) (jo_iload i) := by
  refine jx_ok_st (mo_iload _) (fun k lv st h r hr => ?_)
  simp only [jo_iload] at hr
  repeat' split at hr
  all_goals first
    | (cases hr; done)
    | exact ⟨_, hr, fun _ _ _ _ _ _ _ _ _ _ _ _ _ _ _ hF hl hR hS w => lv_iload_n hF.1 (hF.2.1.trans hM) hd hi (hl.2.2.2 _ _ (by assumption)) w⟩
theorem ok_lload {Z : jx_Z} {y pc : Nat} {cc : ByteArray} (hM : (jz_m Z y).2.1 = cc) {i : Nat} (hd : decode cc pc = .ok (.lload i, 2)) : jx_Ok Z y pc (pc + 2) (jo_lload i) := by
  refine jx_ok_st (mo_lload _) (fun k lv st h r hr => ?_)
  simp only [jo_lload] at hr
  repeat' split at hr
  all_goals first
    | (cases hr; done)
    | exact ⟨_, hr, fun _ _ _ _ _ _ _ _ _ _ _ _ _ _ _ hF hl hR hS w => lv_lload hF.1 (hF.2.1.trans hM) hd (hl.2.2.2 _ _ (by assumption)) w⟩
theorem ok_lload_n {Z : jx_Z} {y pc : Nat} {cc : ByteArray} (hM : (jz_m Z y).2.1 = cc) {i : Nat} {n : Fin 4} (hd : decode cc pc = .ok (.lload_n n, 1)) (hi : (n : Nat) = i) : jx_Ok Z y pc (pc + 1) (jo_lload i) := by
  refine jx_ok_st (mo_lload _) (fun k lv st h r hr => ?_)
  simp only [jo_lload] at hr
  repeat' split at hr
  all_goals first
    | (cases hr; done)
    | exact ⟨_, hr, fun _ _ _ _ _ _ _ _ _ _ _ _ _ _ _ hF hl hR hS w => lv_lload_n hF.1 (hF.2.1.trans hM) hd hi (hl.2.2.2 _ _ (by assumption)) w⟩
theorem ok_aload {Z : jx_Z} {y pc : Nat} {cc : ByteArray} (hM : (jz_m Z y).2.1 = cc) {i : Nat} (hd : decode cc pc = .ok (.aload i, 2)) : jx_Ok Z y pc (pc + 2) (jo_aload i) := by
  refine jx_ok_st (mo_aload _) (fun k lv st h r hr => ?_)
  simp only [jo_aload] at hr
  repeat' split at hr
  all_goals first
    | (cases hr; done)
    | exact ⟨_, hr, fun _ _ _ _ _ _ _ _ _ _ _ _ _ _ _ hF hl hR hS w => lv_aload hF.1 (hF.2.1.trans hM) hd (hl.2.2.2 _ _ (by assumption)) w⟩
    | exact ⟨_, hr, fun _ _ _ _ _ _ _ _ _ _ _ _ _ _ _ hF hl hR hS w => lv_aloadN hF.1 (hF.2.1.trans hM) hd (hl.2.2.2 _ _ (by assumption)) w⟩
theorem ok_aload_n {Z : jx_Z} {y pc : Nat} {cc : ByteArray} (hM : (jz_m Z y).2.1 = cc) {i : Nat} {n : Fin 4} (hd : decode cc pc = .ok (.aload_n n, 1)) (hi : (n : Nat) = i) : jx_Ok Z y pc (pc + 1) (jo_aload i) := by
  refine jx_ok_st (mo_aload _) (fun k lv st h r hr => ?_)
  simp only [jo_aload] at hr
  repeat' split at hr
  all_goals first
    | (cases hr; done)
    | exact ⟨_, hr, fun _ _ _ _ _ _ _ _ _ _ _ _ _ _ _ hF hl hR hS w => lv_aload_n hF.1 (hF.2.1.trans hM) hd hi (hl.2.2.2 _ _ (by assumption)) w⟩
    | exact ⟨_, hr, fun _ _ _ _ _ _ _ _ _ _ _ _ _ _ _ hF hl hR hS w => lv_aload_nN hF.1 (hF.2.1.trans hM) hd hi (hl.2.2.2 _ _ (by assumption)) w⟩
theorem ok_dup {Z : jx_Z} {y pc : Nat} {cc : ByteArray} (hM : (jz_m Z y).2.1 = cc)  (hd : decode cc pc = .ok (.dup, 1)) : jx_Ok Z y pc (pc + 1) (jo_dup) := by
  refine jx_ok_st (mo_dup) (fun k lv st h r hr => ?_)
  simp only [jo_dup] at hr
  repeat' split at hr
  all_goals first
    | (cases hr; done)
    | exact ⟨_, hr, fun _ _ _ _ _ _ _ _ _ _ _ _ _ _ _ hF hl hR hS w => lv_dup hF.1 (hF.2.1.trans hM) hd rfl w⟩
theorem ok_pop {Z : jx_Z} {y pc : Nat} {cc : ByteArray} (hM : (jz_m Z y).2.1 = cc)  (hd : decode cc pc = .ok (.pop, 1)) : jx_Ok Z y pc (pc + 1) (jo_pop) := by
  refine jx_ok_st (mo_pop) (fun k lv st h r hr => ?_)
  simp only [jo_pop] at hr
  repeat' split at hr
  all_goals first
    | (cases hr; done)
    | exact ⟨_, hr, fun _ _ _ _ _ _ _ _ _ _ _ _ _ _ _ hF hl hR hS w => lv_pop hF.1 (hF.2.1.trans hM) hd rfl w⟩
theorem ok_istore {Z : jx_Z} {y pc : Nat} {cc : ByteArray} (hM : (jz_m Z y).2.1 = cc) {i : Nat} (hd : decode cc pc = .ok (.istore i, 2)) (hL : i < (jz_m Z y).2.2.1) : jx_Ok Z y pc (pc + 2) (jo_istore i) := by
  refine jx_ok_lv (mo_istore _) (fun k lv st h r hr => ?_)
  simp only [jo_istore] at hr
  repeat' split at hr
  all_goals first
    | (cases hr; done)
    | exact ⟨_, _, hr, fun _ _ _ _ _ _ _ _ _ _ _ _ _ _ _ hF hl w => lv_istore hF.1 (hF.2.1.trans hM) hd hl.has hL rfl (fun ls1 h1 => w ls1 (jx_lx.sto1 hL hl.1 (by assumption) h1))⟩
theorem ok_istore_n {Z : jx_Z} {y pc : Nat} {cc : ByteArray} (hM : (jz_m Z y).2.1 = cc) {i : Nat} {n : Fin 4} (hd : decode cc pc = .ok (.istore_n n, 1)) (hi : (n : Nat) = i) (hL : i < (jz_m Z y).2.2.1) : jx_Ok Z y pc (pc + 1) (jo_istore i) := by
  refine jx_ok_lv (mo_istore _) (fun k lv st h r hr => ?_)
  simp only [jo_istore] at hr
  repeat' split at hr
  all_goals first
    | (cases hr; done)
    | exact ⟨_, _, hr, fun _ _ _ _ _ _ _ _ _ _ _ _ _ _ _ hF hl w => lv_istore_n hF.1 (hF.2.1.trans hM) hd hi hl.has hL rfl (fun ls1 h1 => w ls1 (jx_lx.sto1 hL hl.1 (by assumption) h1))⟩
theorem ok_lstore {Z : jx_Z} {y pc : Nat} {cc : ByteArray} (hM : (jz_m Z y).2.1 = cc) {i : Nat} (hd : decode cc pc = .ok (.lstore i, 2)) (hL : i + 1 < (jz_m Z y).2.2.1) : jx_Ok Z y pc (pc + 2) (jo_lstore i) := by
  refine jx_ok_lv (mo_lstore _) (fun k lv st h r hr => ?_)
  simp only [jo_lstore] at hr
  repeat' split at hr
  all_goals first
    | (cases hr; done)
    | exact ⟨_, _, hr, fun _ _ _ _ _ _ _ _ _ _ _ _ _ _ _ hF hl w => lv_lstore hF.1 (hF.2.1.trans hM) hd hl.has hL rfl (fun ls1 h1 => w ls1 (jx_lx.sto2 hL hl.1 (by assumption) h1))⟩
theorem ok_lstore_n {Z : jx_Z} {y pc : Nat} {cc : ByteArray} (hM : (jz_m Z y).2.1 = cc) {i : Nat} {n : Fin 4} (hd : decode cc pc = .ok (.lstore_n n, 1)) (hi : (n : Nat) = i) (hL : i + 1 < (jz_m Z y).2.2.1) : jx_Ok Z y pc (pc + 1) (jo_lstore i) := by
  refine jx_ok_lv (mo_lstore _) (fun k lv st h r hr => ?_)
  simp only [jo_lstore] at hr
  repeat' split at hr
  all_goals first
    | (cases hr; done)
    | exact ⟨_, _, hr, fun _ _ _ _ _ _ _ _ _ _ _ _ _ _ _ hF hl w => lv_lstore_n hF.1 (hF.2.1.trans hM) hd hi hl.has hL rfl (fun ls1 h1 => w ls1 (jx_lx.sto2 hL hl.1 (by assumption) h1))⟩
theorem ok_astore {Z : jx_Z} {y pc : Nat} {cc : ByteArray} (hM : (jz_m Z y).2.1 = cc) {i : Nat} (hd : decode cc pc = .ok (.astore i, 2)) (hL : i < (jz_m Z y).2.2.1) : jx_Ok Z y pc (pc + 2) (jo_astore i) := by
  refine jx_ok_lv (mo_astore _) (fun k lv st h r hr => ?_)
  simp only [jo_astore] at hr
  repeat' split at hr
  all_goals first
    | (cases hr; done)
    | exact ⟨_, _, hr, fun _ _ _ _ _ _ _ _ _ _ _ _ _ _ _ hF hl w => lv_astore hF.1 (hF.2.1.trans hM) hd hl.has hL rfl (fun ls1 h1 => w ls1 (jx_lx.sto1 hL hl.1 (by assumption) h1))⟩
    | exact ⟨_, _, hr, fun _ _ _ _ _ _ _ _ _ _ _ _ _ _ _ hF hl w => lv_astoreN hF.1 (hF.2.1.trans hM) hd hl.has hL rfl (fun ls1 h1 => w ls1 (jx_lx.sto1 hL hl.1 (by assumption) h1))⟩
theorem ok_astore_n {Z : jx_Z} {y pc : Nat} {cc : ByteArray} (hM : (jz_m Z y).2.1 = cc) {i : Nat} {n : Fin 4} (hd : decode cc pc = .ok (.astore_n n, 1)) (hi : (n : Nat) = i) (hL : i < (jz_m Z y).2.2.1) : jx_Ok Z y pc (pc + 1) (jo_astore i) := by
  refine jx_ok_lv (mo_astore _) (fun k lv st h r hr => ?_)
  simp only [jo_astore] at hr
  repeat' split at hr
  all_goals first
    | (cases hr; done)
    | exact ⟨_, _, hr, fun _ _ _ _ _ _ _ _ _ _ _ _ _ _ _ hF hl w => lv_astore_n hF.1 (hF.2.1.trans hM) hd hi hl.has hL rfl (fun ls1 h1 => w ls1 (jx_lx.sto1 hL hl.1 (by assumption) h1))⟩
    | exact ⟨_, _, hr, fun _ _ _ _ _ _ _ _ _ _ _ _ _ _ _ hF hl w => lv_astore_nN hF.1 (hF.2.1.trans hM) hd hi hl.has hL rfl (fun ls1 h1 => w ls1 (jx_lx.sto1 hL hl.1 (by assumption) h1))⟩
theorem ok_iinc {Z : jx_Z} {y pc : Nat} {cc : ByteArray} (hM : (jz_m Z y).2.1 = cc) {i : Nat} {n : Int} {v : Int32} (hd : decode cc pc = .ok (.iinc i n, 3)) (hv : Int32.ofInt n = v) (hL : i < (jz_m Z y).2.2.1) : jx_Ok Z y pc (pc + 3) (jo_iinc i v) := by
  refine jx_ok_lv (mo_iinc _ _) (fun k lv st h r hr => ?_)
  simp only [jo_iinc] at hr
  repeat' split at hr
  all_goals first
    | (cases hr; done)
    | skip
  rename_i x hx hp
  refine ⟨_, _, hr, fun _ _ _ _ _ _ _ _ _ _ _ _ _ _ _ hF hl w => ?_⟩
  obtain ⟨j, hj⟩ := List.getElem?_of_mem (jx_as_mem.mpr hx)
  exact lv_iinc hF.1 (hF.2.1.trans hM) hd hl.has hj (by rw [hv]) hL rfl (fun ls1 h1 => w ls1 (jx_lx.sto1 hL hl.1 (by assumption) h1))
theorem ok_drop {Z : jx_Z} {y pc : Nat} (i : Nat) : jx_Ok Z y pc pc (jo_drop i) := by
  refine jx_ok_lv (mo_drop _) (fun k lv st h r hr => ?_)
  exact ⟨_, _, hr, fun _ _ _ _ _ _ _ _ _ _ _ _ _ _ _ _ hl w => w _ hl.drop⟩
