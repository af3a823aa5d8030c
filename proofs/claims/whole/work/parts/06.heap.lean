/-! FIELDS, ARRAYS, NEW CELLS -/
theorem jx_Rep.one {Z : jx_Z} {h : jx_H} {H : Heap} (R : jx_Rep Z h H) {a : Nat} {e : jx_C} (he : h.2.2 a = some e) : va_P (jz_D Z) (jz_c Z) [(a, jx_E (jz_a Z) e)] H := by
  intro k q hk
  match k, hk with
  | 0, hk => cases hk; exact (R.2.2.2 a e he).2
  | k + 1, hk => simp at hk
theorem jx_fld_spec {h : jx_H} {a ci k : Nat} {v : Value} (e : jx_fld h a ci k = some v) : ∃ fs : List Value, h.2.2 a = some (.inl (ci, fs)) ∧ fs[k]? = some v := by
  unfold jx_fld at e
  split at e
  · rename_i c fs hx
    split at e
    · rename_i hc
      subst hc
      exact ⟨fs, hx, e⟩
    · cases e
  · cases e
theorem jx_fI_spec {h : jx_H} {a ci k : Nat} {v : Int32} (e : jx_fI h a ci k = some v) : ∃ fs : List Value, h.2.2 a = some (.inl (ci, fs)) ∧ fs[k]? = some (.int v) := by
  unfold jx_fI at e
  split at e
  · rename_i hx; cases e; exact jx_fld_spec hx
  · cases e
theorem jx_fJ_spec {h : jx_H} {a ci k : Nat} {v : Int64} (e : jx_fJ h a ci k = some v) : ∃ fs : List Value, h.2.2 a = some (.inl (ci, fs)) ∧ fs[k]? = some (.long v) := by
  unfold jx_fJ at e
  split at e
  · rename_i hx; cases e; exact jx_fld_spec hx
  · cases e
theorem jx_fA_spec {h : jx_H} {a ci k : Nat} {v : Nat} (e : jx_fA h a ci k = some v) : ∃ fs : List Value, h.2.2 a = some (.inl (ci, fs)) ∧ fs[k]? = some (.ref v) := by
  unfold jx_fA at e
  split at e
  · rename_i hx; cases e; exact jx_fld_spec hx
  · cases e
theorem jx_put_spec {h h' : jx_H} {a ci k : Nat} {v : Value} (e : jx_put h a ci k v = some h') : ∃ fs : List Value, h.2.2 a = some (.inl (ci, fs)) ∧ k < fs.length ∧ h' = (h.1, h.2.1, jx_up h.2.2 a (.inl (ci, fs.set k v))) := by
  unfold jx_put at e
  split at e
  · rename_i c fs hx
    split at e
    · rename_i hc
      obtain ⟨hc, hl⟩ := hc
      subst hc
      exact ⟨fs, hx, hl, (Option.some.inj e).symm⟩
    · cases e
  · cases e
theorem jx_aI_spec {h : jx_H} {t a : Nat} {i x : Int32} (e : jx_aI h t a i = some x) : ∃ (n : Nat) (f : Nat → Int32), h.2.2 a = some (.inr (t, n, .inl f)) ∧ vp_in i n ∧ x = f i.toNatClampNeg := by
  unfold jx_aI at e
  split at e
  · rename_i t' n f hx
    split at e
    · rename_i hc
      obtain ⟨hc, hl⟩ := hc
      subst hc
      exact ⟨n, f, hx, jx_inB_iff.mp hl, (Option.some.inj e).symm⟩
    · cases e
  · cases e
theorem jx_aJ_spec {h : jx_H} {t a : Nat} {i : Int32} {x : Int64} (e : jx_aJ h t a i = some x) : ∃ (n : Nat) (f : Nat → Int64), h.2.2 a = some (.inr (t, n, .inr (.inl f))) ∧ vp_in i n ∧ x = f i.toNatClampNeg := by
  unfold jx_aJ at e
  split at e
  · rename_i t' n f hx
    split at e
    · rename_i hc
      obtain ⟨hc, hl⟩ := hc
      subst hc
      exact ⟨n, f, hx, jx_inB_iff.mp hl, (Option.some.inj e).symm⟩
    · cases e
  · cases e
theorem jx_aA_spec {h : jx_H} {t a : Nat} {i : Int32} {x : Option Nat} (e : jx_aA h t a i = some x) : ∃ (n : Nat) (f : Nat → Option Nat), h.2.2 a = some (.inr (t, n, .inr (.inr (.inr (.inr f))))) ∧ vp_in i n ∧ x = f i.toNatClampNeg := by
  unfold jx_aA at e
  split at e
  · rename_i t' n f hx
    split at e
    · rename_i hc
      obtain ⟨hc, hl⟩ := hc
      subst hc
      exact ⟨n, f, hx, jx_inB_iff.mp hl, (Option.some.inj e).symm⟩
    · cases e
  · cases e
theorem jx_sI_spec {h h' : jx_H} {t a : Nat} {i x : Int32} (e : jx_sI h t a i x = some h') : ∃ (n : Nat) (f : Nat → Int32), h.2.2 a = some (.inr (t, n, .inl f)) ∧ vp_in i n ∧ h' = (h.1, h.2.1, jx_up h.2.2 a (.inr (t, n, .inl (upd f i.toNatClampNeg x)))) := by
  unfold jx_sI at e
  split at e
  · rename_i t' n f hx
    split at e
    · rename_i hc
      obtain ⟨hc, hl⟩ := hc
      subst hc
      exact ⟨n, f, hx, jx_inB_iff.mp hl, (Option.some.inj e).symm⟩
    · cases e
  · cases e
theorem jx_sJ_spec {h h' : jx_H} {t a : Nat} {i : Int32} {x : Int64} (e : jx_sJ h t a i x = some h') : ∃ (n : Nat) (f : Nat → Int64), h.2.2 a = some (.inr (t, n, .inr (.inl f))) ∧ vp_in i n ∧ h' = (h.1, h.2.1, jx_up h.2.2 a (.inr (t, n, .inr (.inl (vp_updL f i.toNatClampNeg x))))) := by
  unfold jx_sJ at e
  split at e
  · rename_i t' n f hx
    split at e
    · rename_i hc
      obtain ⟨hc, hl⟩ := hc
      subst hc
      exact ⟨n, f, hx, jx_inB_iff.mp hl, (Option.some.inj e).symm⟩
    · cases e
  · cases e
theorem jx_sA_spec {h h' : jx_H} {t a : Nat} {i : Int32} {ci x : Nat} (e : jx_sA h t a i ci x = some h') : ∃ (n : Nat) (f : Nat → Option Nat) (fs : List Value), h.2.2 x = some (.inl (ci, fs)) ∧ h.2.2 a = some (.inr (t, n, .inr (.inr (.inr (.inr f))))) ∧ vp_in i n ∧ h' = (h.1, h.2.1, jx_up h.2.2 a (.inr (t, n, .inr (.inr (.inr (.inr (va_up f i.toNatClampNeg (some x)))))))) := by
  unfold jx_sA at e
  split at e
  · rename_i c fs hv
    split at e
    · rename_i t' n f hx
      split at e
      · rename_i hc
        obtain ⟨hc, ht, hl⟩ := hc
        subst hc
        subst ht
        exact ⟨n, f, fs, hv, hx, jx_inB_iff.mp hl, (Option.some.inj e).symm⟩
      · cases e
    · cases e
  · cases e
theorem jx_len_spec {h : jx_H} {t a n : Nat} (e : jx_len h t a = some n) : ∃ g, h.2.2 a = some (.inr (t, n, g)) := by
  unfold jx_len at e
  split at e
  · rename_i t' n' g hx
    split at e
    · rename_i hc
      subst hc
      cases e
      exact ⟨g, hx⟩
    · cases e
  · cases e
section JH
variable {Z : jx_Z} {y pc : Nat} {cc : ByteArray} {own : String} {index ci kf : Nat} {C : String} {T : u_T} {N : Nat}
variable {p : Program} {e : Env} {R : Room} {s : State} {m : MethodId} {args : Array Value} {below : List Frame} {meth : Method} {c : Code} {H : Heap} {locs : List Loc} {ls : Array Slot} {cells slots : Nat} {QQ : State → Prop} {h : jx_H} {a : Nat} {rest : List Value}
theorem jx_w_get (hM : (jz_m Z y).2.1 = cc) (hO : (jz_m Z y).1.cls = own) (hc : (jz_c Z)[ci]? = some (C, T, N)) (hin : ∀ w ∈ u_ws C T N, w ∈ jz_T Z) (hk : kf < N) (hw : Jvm.Cond.fieldLink own index (T kf).1 (T kf).2.1 (T kf).2.2.1 ∈ jz_T Z) (hd : decode cc pc = .ok (.getfield index, 3)) {fs : List Value} {v : Value} (he : h.2.2 a = some (.inl (ci, fs))) (hv : fs[kf]? = some v)
    (hF : jx_Fx Z y p R s m args meth c) (hR : jx_Rep Z h H) (w : W p (jz_l Z) e R s m args below meth c H locs cells slots QQ (F0 m (pc + 3) ls (v :: rest))) : W p (jz_l Z) e R s m args below meth c H locs cells slots QQ (F0 m pc ls (.ref a :: rest)) :=
  va_get hF.1 (hF.2.1.trans hM) hF.2.2.2.2.2.2.1 hin (by rw [← hO]; exact hF.2.2.2.2.2.1) hF.2.2.2.2.2.2.2.1 (hR.one he) 0 rfl hc kf hk (hF.2.2.2.2.2.2.1 _ hw) (fun _ h => h) hv hd w
theorem jx_w_put (hM : (jz_m Z y).2.1 = cc) (hO : (jz_m Z y).1.cls = own) (hc : (jz_c Z)[ci]? = some (C, T, N)) (hin : ∀ w ∈ u_ws C T N, w ∈ jz_T Z) (ty0 : Nat → FieldType) (hty : ∀ k, k < N → parseFieldDescriptor (T k).2.2.1 = some (ty0 k)) (hnm : ∀ a, a < N → ∀ b, b < N → a ≠ b → (T a).2.1 ≠ (T b).2.1) (hk : kf < N) (hfin : (T kf).2.2.2 = false ∨ ((T kf).2.2.2 = true ∧ (jz_m Z y).1.name = "<init>" ∧ (T kf).1 = own)) (hw : Jvm.Cond.fieldLink own index (T kf).1 (T kf).2.1 (T kf).2.2.1 ∈ jz_T Z) (hd : decode cc pc = .ok (.putfield index, 3)) {fs : List Value} {v : Value} (he : h.2.2 a = some (.inl (ci, fs))) (hl : kf < fs.length) (hn : narrow (ty0 kf) v = v) (hfit : fits (ty0 kf) v = true)
    (hF : jx_Fx Z y p R s m args meth c) (hR : jx_Rep Z h H) (hS : va_S (jx_A Z) s.heap H locs) (kk : ∀ (H1 : Heap) (locs1 : List Loc), jx_Rep Z (h.1, h.2.1, jx_up h.2.2 a (.inl (ci, fs.set kf v))) H1 → va_S (jx_A Z) s.heap H1 locs1 → W p (jz_l Z) e R s m args below meth c H1 locs1 cells slots QQ (F0 m (pc + 3) ls rest)) : W p (jz_l Z) e R s m args below meth c H locs cells slots QQ (F0 m pc ls (v :: .ref a :: rest)) := by
  have hts := hF.2.2.2.2.2.2.1
  have hK := hF.2.2.2.2.2.2.2.1
  have hown : s.vm.findClass own = some m.cls := by rw [← hO]; exact hF.2.2.2.2.2.1
  have hap := va_apart (own := own) hts hin ty0 hty hnm hK hc
  have hA : jx_A Z a := (hR.2.2.2 a _ he).1
  obtain ⟨r, h1, cell, q1, q2, q3, q4⟩ := (hR.2.2.2 a _ he).2
  have hr : r = (C, T, N) := Option.some.inj (h1.symm.trans hc)
  subst hr
  obtain ⟨hS0, hfc, kC, hkC, hkind⟩ := hK.1 ci _ hc
  obtain ⟨cf, kf', fi, f, hi, hsl⟩ := hS0 kf hk
  have hlay := hts _ (hin _ (u_in_lay hk))
  unfold u_lay at hlay
  have hst := (u_facts hfc hkC (u_lays hts hin hk) hi).1
  rcases hfin with hfin | ⟨hfin, hin2, hdecl⟩
  · rw [if_neg (by rw [hfin]; decide)] at hlay
    have h6 := u_store hfc hkC hkind hlay hi (hty kf hk) hn hfit
    refine W.putK hF.1 (hF.2.1.trans hM) (f := f) ⟨hown, hts _ hw, ⟨_, _, _, hi⟩, hst⟩ (by rw [q2]; exact h6) q1 q3 (by rw [hsl]; exact k2_hasslot (q4 kf hk)) rfl rfl hd fun H' e1 e2 e3 => ?_
    rw [hsl] at e1 ⊢
    exact kk H' _ (hR.set he e2 e3 ⟨_, hc, t_OB.to (V := updV (vp_V fs) kf v) ⟨_, e1, q2, q3, t_set q4 hap hk v⟩ (fun j _ => vp_updV_set hl v j)⟩) (hS.put e2 e3 hA)
  · rw [if_pos hfin] at hlay
    have hcf : m.cls = cf := by
      obtain ⟨_, _, c', _, _, _, -, -, hf', -, -, -, hown2, -⟩ := Cond.laysFinal_spec hlay
      have e1 : c' = cf := by have := hi.symm.trans hf'; simp at this; exact this.1.symm
      rw [hdecl] at hown2
      rw [← e1]; exact Option.some.inj (hown.symm.trans hown2)
    have h6 := u_fits hfc hkC hkind (Or.inr hlay) hi (hty kf hk) hn hfit
    refine W.putFinK hF.1 (hF.2.1.trans hM) hown (hts _ hw) hi hst hcf (hF.2.2.2.2.2.2.2.2.2.2.1 hin2) (by rw [q2]; exact h6) q1 q3 (by rw [hsl]; exact k2_hasslot (q4 kf hk)) rfl rfl hd fun H' e1 e2 e3 => ?_
    rw [hsl] at e1 ⊢
    exact kk H' _ (hR.set he e2 e3 ⟨_, hc, t_OB.to (V := updV (vp_V fs) kf v) ⟨_, e1, q2, q3, t_set q4 hap hk v⟩ (fun j _ => vp_updV_set hl v j)⟩) (hS.put e2 e3 hA)
end JH
section JO
variable {Z : jx_Z} {y pc : Nat} {cc : ByteArray} {own : String} {index ci kf : Nat} {C : String} {T : u_T} {N : Nat}
theorem ok_getI (hM : (jz_m Z y).2.1 = cc) (hO : (jz_m Z y).1.cls = own) (hc : (jz_c Z)[ci]? = some (C, T, N)) (hin : ∀ w ∈ u_ws C T N, w ∈ jz_T Z) (hk : kf < N) (hw : Jvm.Cond.fieldLink own index (T kf).1 (T kf).2.1 (T kf).2.2.1 ∈ jz_T Z) (hd : decode cc pc = .ok (.getfield index, 3)) : jx_Ok Z y pc (pc + 3) (jo_getI ci kf) := by
  refine jx_ok_st (mo_getI _ _) (fun k lv st h r hr => ?_)
  simp only [jo_getI] at hr
  repeat' split at hr
  all_goals first
    | (cases hr; done)
    | skip
  obtain ⟨x, hx, hr⟩ := Option.bind_eq_some_iff.mp hr
  obtain ⟨fs, he, hv⟩ := jx_fI_spec hx
  exact ⟨_, hr, fun _ _ _ _ _ _ _ _ _ _ _ _ _ _ _ hF hl hR hS w => jx_w_get hM hO hc hin hk hw hd he hv hF hR w⟩
theorem ok_getJ (hM : (jz_m Z y).2.1 = cc) (hO : (jz_m Z y).1.cls = own) (hc : (jz_c Z)[ci]? = some (C, T, N)) (hin : ∀ w ∈ u_ws C T N, w ∈ jz_T Z) (hk : kf < N) (hw : Jvm.Cond.fieldLink own index (T kf).1 (T kf).2.1 (T kf).2.2.1 ∈ jz_T Z) (hd : decode cc pc = .ok (.getfield index, 3)) : jx_Ok Z y pc (pc + 3) (jo_getJ ci kf) := by
  refine jx_ok_st (mo_getJ _ _) (fun k lv st h r hr => ?_)
  simp only [jo_getJ] at hr
  repeat' split at hr
  all_goals first
    | (cases hr; done)
    | skip
  obtain ⟨x, hx, hr⟩ := Option.bind_eq_some_iff.mp hr
  obtain ⟨fs, he, hv⟩ := jx_fJ_spec hx
  exact ⟨_, hr, fun _ _ _ _ _ _ _ _ _ _ _ _ _ _ _ hF hl hR hS w => jx_w_get hM hO hc hin hk hw hd he hv hF hR w⟩
theorem ok_getA (hM : (jz_m Z y).2.1 = cc) (hO : (jz_m Z y).1.cls = own) (hc : (jz_c Z)[ci]? = some (C, T, N)) (hin : ∀ w ∈ u_ws C T N, w ∈ jz_T Z) (hk : kf < N) (hw : Jvm.Cond.fieldLink own index (T kf).1 (T kf).2.1 (T kf).2.2.1 ∈ jz_T Z) (hd : decode cc pc = .ok (.getfield index, 3)) : jx_Ok Z y pc (pc + 3) (jo_getA ci kf) := by
  refine jx_ok_st (mo_getA _ _) (fun k lv st h r hr => ?_)
  simp only [jo_getA] at hr
  repeat' split at hr
  all_goals first
    | (cases hr; done)
    | skip
  obtain ⟨x, hx, hr⟩ := Option.bind_eq_some_iff.mp hr
  obtain ⟨fs, he, hv⟩ := jx_fA_spec hx
  exact ⟨_, hr, fun _ _ _ _ _ _ _ _ _ _ _ _ _ _ _ hF hl hR hS w => jx_w_get hM hO hc hin hk hw hd he hv hF hR w⟩
/-- ops that write the heap -/
theorem jx_ok_hp {pc' : Nat} {o : jx_F} (hm : jx_mono o) (hh : ∀ (k : jx_K) (lv : jx_L) (st : List Value) (h : jx_H) (r : jx_R), o k (lv, st, h) = some r → ∃ (st' : List Value) (h' : jx_H), k (lv, st', h') = some r ∧ h'.1 = h.1 ∧ h'.2.1 = h.2.1 ∧ ∀ (p : Program) (e : Env) (R : Room) (s : State) (m : MethodId) (args : Array Value) (below : List Frame) (meth : Method) (c : Code) (H : Heap) (locs : List Loc) (ls : Array Slot) (cells slots : Nat) (QQ : State → Prop),
    jx_Fx Z y p R s m args meth c → jx_Rep Z h H → va_S (jx_A Z) s.heap H locs → (∀ (H1 : Heap) (locs1 : List Loc), jx_Rep Z h' H1 → va_S (jx_A Z) s.heap H1 locs1 → W p (jz_l Z) e R s m args below meth c H1 locs1 cells slots QQ (F0 m pc' ls st')) → W p (jz_l Z) e R s m args below meth c H locs cells slots QQ (F0 m pc ls st)) : jx_Ok Z y pc pc' o := by
  refine ⟨hm, fun k lv st h r hr => ?_⟩
  obtain ⟨st', h', h1, h2, h3, h4⟩ := hh k lv st h r hr
  refine ⟨lv, st', h', h1, Nat.le_of_eq h2.symm, Nat.le_of_eq h3.symm, fun p e R s m args below meth c H locs ls cells slots QQ hF hl hR hS _ _ kk => ?_⟩
  exact h4 p e R s m args below meth c H locs ls cells slots QQ hF hR hS (fun H1 locs1 hR1 hS1 => kk H1 locs1 ls cells slots (by rw [h2]) (by rw [h3]) hl hR1 hS1)
theorem ok_putI (hM : (jz_m Z y).2.1 = cc) (hO : (jz_m Z y).1.cls = own) (hc : (jz_c Z)[ci]? = some (C, T, N)) (hin : ∀ w ∈ u_ws C T N, w ∈ jz_T Z) (ty0 : Nat → FieldType) (hty : ∀ k, k < N → parseFieldDescriptor (T k).2.2.1 = some (ty0 k)) (hnm : ∀ a, a < N → ∀ b, b < N → a ≠ b → (T a).2.1 ≠ (T b).2.1) (hk : kf < N) (hfin : (T kf).2.2.2 = false ∨ ((T kf).2.2.2 = true ∧ (jz_m Z y).1.name = "<init>" ∧ (T kf).1 = own)) (hw : Jvm.Cond.fieldLink own index (T kf).1 (T kf).2.1 (T kf).2.2.1 ∈ jz_T Z) (hd : decode cc pc = .ok (.putfield index, 3)) (ht : ty0 kf = .int) : jx_Ok Z y pc (pc + 3) (jo_putI ci kf) := by
  refine jx_ok_hp (mo_putI _ _) (fun k lv st h r hr => ?_)
  simp only [jo_putI] at hr
  repeat' split at hr
  all_goals first
    | (cases hr; done)
    | skip
  obtain ⟨h', hx, hr⟩ := Option.bind_eq_some_iff.mp hr
  obtain ⟨fs, he, hl, rfl⟩ := jx_put_spec hx
  exact ⟨_, _, hr, rfl, rfl, fun _ _ _ _ _ _ _ _ _ _ _ _ _ _ _ hF hR hS w => jx_w_put hM hO hc hin ty0 hty hnm hk hfin hw hd he hl (by rw [ht]; rfl) (by rw [ht]; rfl) hF hR hS w⟩
theorem ok_putZ (hM : (jz_m Z y).2.1 = cc) (hO : (jz_m Z y).1.cls = own) (hc : (jz_c Z)[ci]? = some (C, T, N)) (hin : ∀ w ∈ u_ws C T N, w ∈ jz_T Z) (ty0 : Nat → FieldType) (hty : ∀ k, k < N → parseFieldDescriptor (T k).2.2.1 = some (ty0 k)) (hnm : ∀ a, a < N → ∀ b, b < N → a ≠ b → (T a).2.1 ≠ (T b).2.1) (hk : kf < N) (hfin : (T kf).2.2.2 = false ∨ ((T kf).2.2.2 = true ∧ (jz_m Z y).1.name = "<init>" ∧ (T kf).1 = own)) (hw : Jvm.Cond.fieldLink own index (T kf).1 (T kf).2.1 (T kf).2.2.1 ∈ jz_T Z) (hd : decode cc pc = .ok (.putfield index, 3)) (ht : ty0 kf = .boolean) : jx_Ok Z y pc (pc + 3) (jo_putZ ci kf) := by
  refine jx_ok_hp (mo_putZ _ _) (fun k lv st h r hr => ?_)
  simp only [jo_putZ] at hr
  repeat' split at hr
  all_goals first
    | (cases hr; done)
    | skip
  rename_i h01
  obtain ⟨h', hx, hr⟩ := Option.bind_eq_some_iff.mp hr
  obtain ⟨fs, he, hl, rfl⟩ := jx_put_spec hx
  exact ⟨_, _, hr, rfl, rfl, fun _ _ _ _ _ _ _ _ _ _ _ _ _ _ _ hF hR hS w => jx_w_put hM hO hc hin ty0 hty hnm hk hfin hw hd he hl (by rw [ht]; rcases h01 with rfl | rfl <;> decide +kernel) (by rw [ht]; rcases h01 with rfl | rfl <;> decide +kernel) hF hR hS w⟩
theorem ok_putJ (hM : (jz_m Z y).2.1 = cc) (hO : (jz_m Z y).1.cls = own) (hc : (jz_c Z)[ci]? = some (C, T, N)) (hin : ∀ w ∈ u_ws C T N, w ∈ jz_T Z) (ty0 : Nat → FieldType) (hty : ∀ k, k < N → parseFieldDescriptor (T k).2.2.1 = some (ty0 k)) (hnm : ∀ a, a < N → ∀ b, b < N → a ≠ b → (T a).2.1 ≠ (T b).2.1) (hk : kf < N) (hfin : (T kf).2.2.2 = false ∨ ((T kf).2.2.2 = true ∧ (jz_m Z y).1.name = "<init>" ∧ (T kf).1 = own)) (hw : Jvm.Cond.fieldLink own index (T kf).1 (T kf).2.1 (T kf).2.2.1 ∈ jz_T Z) (hd : decode cc pc = .ok (.putfield index, 3)) (ht : ty0 kf = .long) : jx_Ok Z y pc (pc + 3) (jo_putJ ci kf) := by
  refine jx_ok_hp (mo_putJ _ _) (fun k lv st h r hr => ?_)
  simp only [jo_putJ] at hr
  repeat' split at hr
  all_goals first
    | (cases hr; done)
    | skip
  obtain ⟨h', hx, hr⟩ := Option.bind_eq_some_iff.mp hr
  obtain ⟨fs, he, hl, rfl⟩ := jx_put_spec hx
  exact ⟨_, _, hr, rfl, rfl, fun _ _ _ _ _ _ _ _ _ _ _ _ _ _ _ hF hR hS w => jx_w_put hM hO hc hin ty0 hty hnm hk hfin hw hd he hl (by rw [ht]; rfl) (by rw [ht]; rfl) hF hR hS w⟩
theorem ok_putA (hM : (jz_m Z y).2.1 = cc) (hO : (jz_m Z y).1.cls = own) (hc : (jz_c Z)[ci]? = some (C, T, N)) (hin : ∀ w ∈ u_ws C T N, w ∈ jz_T Z) (ty0 : Nat → FieldType) (hty : ∀ k, k < N → parseFieldDescriptor (T k).2.2.1 = some (ty0 k)) (hnm : ∀ a, a < N → ∀ b, b < N → a ≠ b → (T a).2.1 ≠ (T b).2.1) (hk : kf < N) (hfin : (T kf).2.2.2 = false ∨ ((T kf).2.2.2 = true ∧ (jz_m Z y).1.name = "<init>" ∧ (T kf).1 = own)) (hw : Jvm.Cond.fieldLink own index (T kf).1 (T kf).2.1 (T kf).2.2.1 ∈ jz_T Z) (hd : decode cc pc = .ok (.putfield index, 3)) (ht : (ty0 kf).isReference = true) : jx_Ok Z y pc (pc + 3) (jo_putA ci kf) := by
  refine jx_ok_hp (mo_putA _ _) (fun k lv st h r hr => ?_)
  simp only [jo_putA] at hr
  repeat' split at hr
  all_goals first
    | (cases hr; done)
    | skip
  obtain ⟨h', hx, hr⟩ := Option.bind_eq_some_iff.mp hr
  obtain ⟨fs, he, hl, rfl⟩ := jx_put_spec hx
  exact ⟨_, _, hr, rfl, rfl, fun _ _ _ _ _ _ _ _ _ _ _ _ _ _ _ hF hR hS w => jx_w_put hM hO hc hin ty0 hty hnm hk hfin hw hd he hl (by revert ht; cases ty0 kf <;> intro ht <;> first | rfl | cases ht) (by revert ht; cases ty0 kf <;> intro ht <;> first | rfl | cases ht) hF hR hS w⟩
end JO
