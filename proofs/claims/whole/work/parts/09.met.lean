/-! CALLS: what the function says of a method is a contract -/
def jx_rm (d : Nat × Nat) (mc ms : Nat) : Room := { frames := d.1, cells := mc, slots := ms, locals := d.2 }
def jx_ws (Z : jx_Z) (y : Nat) : List Cond := Jvm.Cond.code (jz_m Z y).1 (jz_m Z y).2.1 (jz_m Z y).2.2.1 (jz_m Z y).2.2.2 :: jz_T Z
def jx_Pre (Z : jx_Z) (h : jx_H) (U : State) : Prop := jx_Rep Z h U.heap ∧ va_K (jz_D Z) (jz_c Z) (jx_tys (jz_a Z) (jz_t Z)) U ∧ jz_K Z U
def jx_Post (Z : jx_Z) (v : Option Value) (h1 : jx_H) : Array Value → State → Outcome → State → Prop := fun _ st o t => o = .returned v ∧ jx_Rep Z h1 t.heap ∧ va_F (jx_A Z) st t
/-- the tables' words hold in every later state; what is known (jz_K) stays -/
def jx_GZ (Z : jx_Z) : Prop := (∀ w ∈ jz_T Z, (w.onTables && w.keeps) = true ∨ ∃ ty, w = Jvm.Cond.arrayClass ty) ∧ (∀ s U : State, s.WarmedH U.vm → jz_K Z s → jz_K Z U) ∧ ∀ (s : State) (g : JFrame) (mk : MethodId) (a : Array Value), jz_K Z s → jz_K Z (s.calling g mk a)
theorem jx_met {Z : jx_Z} {y : Nat} {av : List Value} {h : jx_H} {v : Option Value} {h1 : jx_H} (hP : jx_P Z (y, 0, jx_ent (jz_m Z y).2.2.1 av, [], h) (v, h1)) (hlen : (jx_en av).length ≤ (jz_m Z y).2.2.1) (hname : plainName (jz_m Z y).1.cls = true) :
    Met (jz_l Z) (jz_m Z y).1 (jx_ws Z y) (jx_rm (jz_d Z y) (h1.1 - h.1) (h1.2.1 - h.2.1)) (va_Pc av (jx_Pre Z h)) (jx_Post Z v h1) (h1.1 - h.1) (h1.2.1 - h.2.1) (jx_A Z) := by
  obtain ⟨hl1, hl2, hP⟩ := hP
  dsimp only at hl1 hl2
  refine Met.ofW (cc := (jz_m Z y).2.1) (maxL := (jz_m Z y).2.2.1) (ret := (jz_m Z y).2.2.2) hname rfl ?_
  intro p e s m args below meth c s₁ B hml hv
  obtain ⟨rfl, hR, hK, hKS⟩ := hv
  have hx := B.exec
  have hb := B.bytes
  have hr := B.returns
  have hts := atoms_spec (ws := jx_ws Z y) B.pre
  have hown : s.vm.findClass (jz_m Z y).1.cls = some m.cls := findClass_of_methodNamed B.named
  have hlocks := B.notSynchronized
  have hin : meth.name = (jz_m Z y).1.name := (name_of_methodNamed B.named B.method).1
  rw [lg_entry_eq]
  refine hP p e _ s m _ below meth c s.heap [] _ 0 0 _ ⟨hx, hb, hml, hr, hlocks, hown, fun w hw => hts w (List.mem_cons_of_mem _ hw), hK, ⟨Nat.le_refl _, Nat.le_refl _⟩, ⟨by rw [hR.1]; exact hR.2.1, hR.2.2.1⟩, fun q => by rw [hin, q], hKS⟩ (jx_lx_entry av hlen) hR va_S.rf (by show 0 + h1.1 ≤ (h1.1 - h.1) + h.1; omega) (by show 0 + h1.2.1 ≤ (h1.2.1 - h.2.1) + h.2.1; omega) ?_
  intro H1 locs1 ls1 cells1 slots1 pc1 hc1 hs1 hR1 hS1 hrt
  refine W.widen (k := h1.1 - h.1) (n := h1.2.1 - h.2.1) hc1 hs1 ?_
  rcases hrt with ⟨e1, e2, e3⟩ | ⟨x, ty, e1, e2, e3, e4⟩ | ⟨x, e1, e2, e3⟩ | ⟨x, e1, e2, ⟨C, e3⟩, e4⟩
  · dsimp only at e1
    subst e1
    exact W.vret hx hb (hr.trans e2) (fun t ht hW => ⟨rfl, by rw [ht]; exact hR1, hS1.F ht⟩) hS1.2.2 e3
  · dsimp only at e1
    subst e1
    exact W.zret hx hb (hr.trans e2) e3 (fun t ht hW => ⟨rfl, by rw [ht]; exact hR1, hS1.F ht⟩) hS1.2.2 e4
  · dsimp only at e1
    subst e1
    exact W.lret hx hb (hr.trans e2) (fun t ht hW => ⟨rfl, by rw [ht]; exact hR1, hS1.F ht⟩) hS1.2.2 e3
  · dsimp only at e1
    subst e1
    exact W.aret hx hb (hr.trans e3) (Or.inl ⟨C, rfl⟩) e2 (fun t ht hW => ⟨rfl, by rw [ht]; exact hR1, hS1.F ht⟩) hS1.2.2 e4
/-- behind a call -/
theorem jx_behind {Z : jx_Z} {p : Program} {e : Env} {R : Room} {s : State} {m : MethodId} {args : Array Value} {below : List Frame} {meth : Method} {c : Code} {H : Heap} {locs : List Loc} {cells slots mc ms pc : Nat} {QQ : State → Prop} {ls : Array Slot} {st0 rest : List Value} {v : Option Value} {h1 : jx_H} {a : Array Value}
    (hr : va_Run p (jz_l Z) e R s m args below meth c H locs cells slots mc ms (F0 m pc ls st0) rest (jx_Post Z v h1 a) (jx_A Z)) (hS : va_S (jx_A Z) s.heap H locs)
    (kk : ∀ (H1 : Heap) (locs1 : List Loc), jx_Rep Z h1 H1 → va_S (jx_A Z) s.heap H1 locs1 → W p (jz_l Z) e R s m args below meth c H1 locs1 (cells + mc) (slots + ms) QQ (F0 m (pc + 3) ls (v.toList ++ rest))) : W p (jz_l Z) e R s m args below meth c H locs cells slots QQ (F0 m pc ls st0) := by
  intro T hT X
  obtain ⟨v', st₀, t, T', L, h0, X', hL, e1, e2, ⟨hv, hR1, hz, hk⟩, st⟩ := hr T hT X
  cases hv
  rw [h0] at hz hk
  obtain ⟨t2, a1, b1⟩ := kk T'.heap (locs ++ L) (by rw [e1]; exact hR1)
    ⟨Nat.le_trans hS.1 (by rw [e1]; exact hz), fun q h1 h2 => by rw [e1, hk q (Nat.lt_of_lt_of_le h1 hS.1) h2]; exact hS.2.1 q h1 h2, fun q hq => by
      rcases List.mem_append.mp hq with h | h
      · exact hS.2.2 q h
      · exact hL q h⟩ T' rfl X'
  exact ⟨t2, st t2 a1, b1⟩
theorem jx_args_spec {n : Nat} {st av rest : List Value} (h : jx_args n st = some (av, rest)) : st = av.reverse ++ rest ∧ av.length = n := by
  unfold jx_args at h
  split at h
  · rename_i hn
    cases h
    refine ⟨by simp, by simp; omega⟩
  · cases h
section JC
variable {Z : jx_Z} {nl : Nat → Nat} {y pc : Nat} {cc : ByteArray} {own : String}
theorem jx_okt_call {y' n : Nat} {o : Option Nat} (hnl : nl y' = (jz_m Z y').2.2.1) (hh : ∀ (av rest : List Value) (h : jx_H) (v : Option Value) (h1 : jx_H), av.length = n → jx_P Z (y', 0, jx_ent (jz_m Z y').2.2.1 av, [], h) (v, h1) → (jx_en av).length ≤ (jz_m Z y').2.2.1 → (rest.map fun v => v.category).sum ≤ 8 → jx_recv h av o = true → ∀ (p : Program) (e : Env) (R : Room) (s : State) (m : MethodId) (args : Array Value) (below : List Frame) (meth : Method) (cd : Code) (H : Heap) (locs : List Loc) (ls : Array Slot) (cells slots : Nat) (QQ : State → Prop),
    jx_Fx Z y p R s m args meth cd → ls.size = (jz_m Z y).2.2.1 → jx_Rep Z h H → va_S (jx_A Z) s.heap H locs → cells + (h1.1 - h.1) ≤ R.cells → slots + (h1.2.1 - h.2.1) ≤ R.slots →
    (∀ (H1 : Heap) (locs1 : List Loc), jx_Rep Z h1 H1 → va_S (jx_A Z) s.heap H1 locs1 → W p (jz_l Z) e R s m args below meth cd H1 locs1 (cells + (h1.1 - h.1)) (slots + (h1.2.1 - h.2.1)) QQ (F0 m (pc + 3) ls (v.toList ++ rest))) →
    W p (jz_l Z) e R s m args below meth cd H locs cells slots QQ (F0 m pc ls (av.reverse ++ rest))) : jx_OkT Z nl y pc (.inr (.inr (.inr (.inl (y', n, pc + 3, o))))) := by
  intro f hf s r hr
  obtain ⟨lv, st, h⟩ := s
  simp only [jx_term] at hr
  cases ha : jx_args n st with
  | none => rw [ha] at hr; cases hr
  | some a =>
    obtain ⟨av, rest⟩ := a
    rw [ha] at hr
    simp only [Option.bind_some] at hr
    split at hr
    · rename_i hok
      simp only [jx_okc, Bool.and_eq_true] at hok
      obtain ⟨k1, k2, k3⟩ := hok
      cases hc : f (y', 0, jx_ent (nl y') av, [], h) with
      | none => rw [hc] at hr; cases hr
      | some x =>
        obtain ⟨v, h1⟩ := x
        rw [hc] at hr
        simp only [Option.bind_some] at hr
        have hPc := hf _ _ hc
        rw [hnl] at hPc
        obtain ⟨g1, g2, g3⟩ := hf _ _ hr
        dsimp only at g1 g2
        obtain ⟨es, en⟩ := jx_args_spec ha
        subst es
        have m1 := hPc.1
        have m2 := hPc.2.1
        dsimp only at m1 m2
        refine ⟨Nat.le_trans m1 g1, Nat.le_trans m2 g2, ?_⟩
        intro p e R s m args below meth c H locs ls cells slots QQ hF hl hR hS h5 h6 kk
        dsimp only at h5 h6 kk hl hR hF ⊢
        refine hh av rest h v h1 en hPc (by rw [← hnl]; exact Nat.le_of_ble_eq_true k1) (Nat.le_of_ble_eq_true k2) k3 p e R s m args below meth c H locs ls cells slots QQ hF hl.2.1 hR hS (by omega) (by omega) ?_
        intro H1 locs1 hR1 hS1
        exact g3 p e R s m args below meth c H1 locs1 ls _ _ QQ hF hl hR1 hS1 (by dsimp only; omega) (by dsimp only; omega) kk
    · cases hr
theorem jx_blind {av : List Value} {h : jx_H} (hG : jx_GZ Z) : FrameBlind (va_Pc av (jx_Pre Z h)) := by
  intro a U g mk q
  obtain ⟨q0, q1, q2, q3⟩ := q
  exact ⟨q0, q1, va_K.moved (u := U) (U := U.calling g mk a) (Vm.Alike.refl U.vm) q2, hG.2.2 U g mk a q3⟩
theorem jx_pre_at {h : jx_H} {H : Heap} {s : State} {p : Program} {R : Room} {m : MethodId} {args : Array Value} {meth : Method} {c : Code} (hG : jx_GZ Z) (hF : jx_Fx Z y p R s m args meth c) (hR : jx_Rep Z h H) : ∀ U : State, U.heap = H → s.WarmedH U.vm → jx_Pre Z h U :=
  fun U hU hW => ⟨by rw [hU]; exact hR, va_K.moved hW.alike hF.2.2.2.2.2.2.2.1, hG.2.1 s U hW hF.2.2.2.2.2.2.2.2.2.2.2⟩
theorem jx_good_ws (hG : jx_GZ Z) {y' : Nat} (hcode : Jvm.Cond.code (jz_m Z y').1 (jz_m Z y').2.1 (jz_m Z y').2.2.1 (jz_m Z y').2.2.2 ∈ jz_T Z) : GoodIn (jz_T Z) (jx_ws Z y') := by
  intro w hw
  rcases List.mem_cons.mp hw with rfl | hw
  · exact ⟨hcode, hG.1 _ hcode⟩
  · exact ⟨hw, hG.1 w hw⟩
theorem okt_callS (hG : jx_GZ Z) (hM : (jz_m Z y).2.1 = cc) (hO : (jz_m Z y).1.cls = own) {y' n index : Nat} (hnl : nl y' = (jz_m Z y').2.2.1) (hname : plainName (jz_m Z y').1.cls = true) (hcode : Jvm.Cond.code (jz_m Z y').1 (jz_m Z y').2.1 (jz_m Z y').2.2.1 (jz_m Z y').2.2.2 ∈ jz_T Z) (hw1 : Jvm.Cond.methodLink own index (jz_m Z y').1 ∈ jz_T Z) (hw2 : Jvm.Cond.static (jz_m Z y').1 ∈ jz_T Z) (hw3 : Jvm.Cond.initialized (jz_m Z y').1.cls ∈ jz_T Z)
    (hds : (jz_m Z y').1.cls ≠ "java/lang/invoke/MethodHandle" ∧ (jz_m Z y').1.cls ≠ "java/lang/invoke/VarHandle" ∧ (parseMethodDescriptor (jz_m Z y').1.desc).map (fun d => d.parameters.length) = some n) (hdep : (jz_d Z y').1 + 1 ≤ (jz_d Z y).1 ∧ 19 + (jz_m Z y').2.2.1 + (jz_d Z y').2 ≤ (jz_d Z y).2) (hd : decode cc pc = .ok (.invokestatic index, 3)) : jx_OkT Z nl y pc (.inr (.inr (.inr (.inl (y', n, pc + 3, none))))) := by
  refine jx_okt_call hnl (fun av rest h v h1 en hPc hlen hrest _ p e R s m args below meth c H locs ls cells slots QQ hF hsz hR hS hc hs kk => ?_)
  have hts := hF.2.2.2.2.2.2.1
  have hrm := hF.2.2.2.2.2.2.2.2.1
  have hown : s.vm.findClass own = some m.cls := by rw [← hO]; exact hF.2.2.2.2.2.1
  have hGd : GoodIn (jz_T Z) (va_wsS own index (jz_m Z y').1 (jx_ws Z y')) := by
    intro w hw
    unfold va_wsS at hw
    rcases List.mem_append.mp hw with hw | hw
    · simp only [List.mem_cons, List.not_mem_nil, or_false] at hw
      rcases hw with rfl | rfl | rfl
      · exact ⟨hw1, hG.1 _ hw1⟩
      · exact ⟨hw2, hG.1 _ hw2⟩
      · exact ⟨hw3, hG.1 _ hw3⟩
    · exact jx_good_ws hG hcode w hw
  refine jx_behind (va_runS (As := av) (rest := rest) (nL := (jz_m Z y).2.2.1) ⟨hF.1, hF.2.1.trans hM, hF.2.2.1, hown, hts⟩ (jx_met hPc hlen hname) (va_cwS n hts hGd rfl rfl rfl hds ⟨by show (jz_d Z y').1 + 1 ≤ _; omega, by show 8 + ((jz_m Z y').2.2.1 + 11) + (jz_d Z y').2 ≤ _; omega⟩) ⟨jx_blind hG, fun U hU hW => ⟨rfl, jx_pre_at hG hF hR U hU hW⟩⟩ rfl en hsz rfl (lv_room hrest) hd ⟨hc, hs⟩) hS kk
theorem okt_callI (hG : jx_GZ Z) (hM : (jz_m Z y).2.1 = cc) (hO : (jz_m Z y).1.cls = own) {y' n index : Nat} (hnl : nl y' = (jz_m Z y').2.2.1) (hname : plainName (jz_m Z y').1.cls = true) (hcode : Jvm.Cond.code (jz_m Z y').1 (jz_m Z y').2.1 (jz_m Z y').2.2.1 (jz_m Z y').2.2.2 ∈ jz_T Z) (hret : (jz_m Z y').2.2.2 = none) (hy1 : (jz_m Z y').1.name = "<init>") (hw1 : Jvm.Cond.methodLink own index (jz_m Z y').1 ∈ jz_T Z) (hw2 : Jvm.Cond.instanceMethod (jz_m Z y').1 ∈ jz_T Z) (hw3 : Jvm.Cond.initialized (jz_m Z y').1.cls ∈ jz_T Z)
    (hds : (jz_m Z y').1.cls ≠ "java/lang/invoke/MethodHandle" ∧ (jz_m Z y').1.cls ≠ "java/lang/invoke/VarHandle" ∧ (parseMethodDescriptor (jz_m Z y').1.desc).map (fun d => d.parameters.length) = some n) (hdep : (jz_d Z y').1 + 1 ≤ (jz_d Z y).1 ∧ 19 + (jz_m Z y').2.2.1 + (jz_d Z y').2 ≤ (jz_d Z y).2) (ci : Nat) (hd : decode cc pc = .ok (.invokespecial index, 3)) : jx_OkT Z nl y pc (.inr (.inr (.inr (.inl (y', n + 1, pc + 3, some ci))))) := by
  refine jx_okt_call hnl (fun av rest h v h1 en hPc hlen hrest hrc p e R s m args below meth c H locs ls cells slots QQ hF hsz hR hS hc hs kk => ?_)
  have hts := hF.2.2.2.2.2.2.1
  have hrm := hF.2.2.2.2.2.2.2.2.1
  have hown : s.vm.findClass own = some m.cls := by rw [← hO]; exact hF.2.2.2.2.2.1
  unfold jx_recv at hrc
  dsimp only at hrc
  split at hrc
  · rename_i b As
    have hws : jx_ws Z y' = Jvm.Cond.code (jz_m Z y').1 (jz_m Z y').2.1 (jz_m Z y').2.2.1 none :: jz_T Z := by rw [jx_ws, hret]
    refine W.eq (g2 := F0 m pc ls (As.reverse ++ .ref b :: rest)) (by simp) ?_
    exact jx_behind (va_runI (own := own) (As := As) (b := b) (rest := rest) (nL := (jz_m Z y).2.2.1) ⟨hF.1, hF.2.1.trans hM, hF.2.2.1, hown, hts⟩ (jx_met hPc hlen hname) (cwI n hts (jx_good_ws hG hcode) hws rfl rfl (hts _ hw3) (hts _ hw1) (hts _ hw2) hy1 hds ⟨by show (jz_d Z y').1 + 1 ≤ _; omega, by show 8 + ((jz_m Z y').2.2.1 + 11) + (jz_d Z y').2 ≤ _; omega⟩) ⟨jx_blind hG, fun U hU hW => ⟨rfl, jx_pre_at hG hF hR U hU hW⟩⟩ rfl (by simpa using en) hsz rfl (lv_room hrest) hd ⟨hc, hs⟩) hS kk
  · cases hrc
theorem okt_callV (hG : jx_GZ Z) (hM : (jz_m Z y).2.1 = cc) (hO : (jz_m Z y).1.cls = own) {y' n index : Nat} (hnl : nl y' = (jz_m Z y').2.2.1) (hname : plainName (jz_m Z y').1.cls = true) (hcode : Jvm.Cond.code (jz_m Z y').1 (jz_m Z y').2.1 (jz_m Z y').2.2.1 (jz_m Z y').2.2.2 ∈ jz_T Z) (hw1 : Jvm.Cond.methodLink own index (jz_m Z y').1 ∈ jz_T Z) (hw2 : Jvm.Cond.instanceMethod (jz_m Z y').1 ∈ jz_T Z) (hw3 : Jvm.Cond.initialized (jz_m Z y').1.cls ∈ jz_T Z) (hw4 : Jvm.Cond.selects (jz_m Z y').1.cls (jz_m Z y').1 (jz_m Z y').1 ∈ jz_T Z)
    (hds : (jz_m Z y').1.cls ≠ "java/lang/invoke/MethodHandle" ∧ (jz_m Z y').1.cls ≠ "java/lang/invoke/VarHandle" ∧ (parseMethodDescriptor (jz_m Z y').1.desc).map (fun d => d.parameters.length) = some n) (hdep : (jz_d Z y').1 + 1 ≤ (jz_d Z y).1 ∧ 19 + (jz_m Z y').2.2.1 + (jz_d Z y').2 ≤ (jz_d Z y).2) {ci : Nat} {r0 : vw_C} (hci : (jz_c Z)[ci]? = some r0) (hr0 : r0.1 = (jz_m Z y').1.cls) (hd : decode cc pc = .ok (.invokevirtual index, 3)) : jx_OkT Z nl y pc (.inr (.inr (.inr (.inl (y', n + 1, pc + 3, some ci))))) := by
  refine jx_okt_call hnl (fun av rest h v h1 en hPc hlen hrest hrc p e R s m args below meth c H locs ls cells slots QQ hF hsz hR hS hc hs kk => ?_)
  have hts := hF.2.2.2.2.2.2.1
  have hrm := hF.2.2.2.2.2.2.2.2.1
  have hown : s.vm.findClass own = some m.cls := by rw [← hO]; exact hF.2.2.2.2.2.1
  have hGd : GoodIn (jz_T Z) (wsV own index (jz_m Z y').1.cls (jz_m Z y').1 (jx_ws Z y')) := by
    intro w hw
    unfold wsV at hw
    rcases List.mem_append.mp hw with hw | hw
    · simp only [List.mem_cons, List.not_mem_nil, or_false] at hw
      rcases hw with rfl | rfl | rfl | rfl
      · exact ⟨hw1, hG.1 _ hw1⟩
      · exact ⟨hw2, hG.1 _ hw2⟩
      · exact ⟨hw4, hG.1 _ hw4⟩
      · exact ⟨hw3, hG.1 _ hw3⟩
    · exact jx_good_ws hG hcode w hw
  unfold jx_recv at hrc
  dsimp only at hrc
  split at hrc
  · rename_i b As
    split at hrc
    · rename_i c' fs hb
      have hcc : c' = ci := Nat.eq_of_beq_eq_true hrc
      subst hcc
      have hrecv : ∃ cell : Cell, H[b]? = some cell ∧ cell.vm.isStatics = false ∧ s.vm.findClass (jz_m Z y').1.cls = some cell.cls := by
        rw [← hr0]
        exact va_recv hF.2.2.2.2.2.2.2.1 (hR.one hb) hci (q0 := 0) rfl
      refine W.eq (g2 := F0 m pc ls (As.reverse ++ .ref b :: rest)) (by simp) ?_
      exact jx_behind (va_runV (own := own) (C := (jz_m Z y').1.cls) (As := As) (b := b) (rest := rest) (nL := (jz_m Z y).2.2.1) ⟨hF.1, hF.2.1.trans hM, hF.2.2.1, hown, hts⟩ (jx_met hPc hlen hname) (cwV n hts hGd rfl rfl rfl ⟨rfl, hds⟩ ⟨by show (jz_d Z y').1 + 1 ≤ _; omega, by show 8 + ((jz_m Z y').2.2.1 + 11) + (jz_d Z y').2 ≤ _; omega⟩) ⟨jx_blind hG, hrecv, fun U hU hW => ⟨rfl, jx_pre_at hG hF hR U hU hW⟩⟩ rfl (by simpa using en) hsz rfl (lv_room hrest) hd ⟨hc, hs⟩) hS kk
    · cases hrc
  · cases hrc
end JC
