/-! ARRAYS, NEW CELLS, Object's constructor -/
section JA
variable {Z : jx_Z} {y pc : Nat} {cc : ByteArray} {own : String} {t : Nat}
theorem ok_iald (hM : (jz_m Z y).2.1 = cc) (ht : (jz_t Z)[t]? = some .int) (hd : decode cc pc = .ok (.iaload, 1)) : jx_Ok Z y pc (pc + 1) (jo_iald t) := by
  refine jx_ok_st (mo_iald _) (fun k lv st h r hr => ?_)
  simp only [jo_iald] at hr
  repeat' split at hr
  all_goals first
    | (cases hr; done)
    | skip
  obtain ⟨x', hx, hr⟩ := Option.bind_eq_some_iff.mp hr
  obtain ⟨n, f, he, hi, rfl⟩ := jx_aI_spec hx
  exact ⟨_, hr, fun _ _ _ _ _ _ _ _ _ _ _ _ _ _ _ hF hl hR hS w => va_iald hF.1 (hF.2.1.trans hM) hF.2.2.2.2.2.2.2.1 (hR.one he) 0 t rfl (jx_tys_at ht) hi hd w⟩
theorem ok_bald (hM : (jz_m Z y).2.1 = cc) (ht : (jz_t Z)[t]? = some .byte) (hd : decode cc pc = .ok (.baload, 1)) : jx_Ok Z y pc (pc + 1) (jo_iald t) := by
  refine jx_ok_st (mo_iald _) (fun k lv st h r hr => ?_)
  simp only [jo_iald] at hr
  repeat' split at hr
  all_goals first
    | (cases hr; done)
    | skip
  obtain ⟨x', hx, hr⟩ := Option.bind_eq_some_iff.mp hr
  obtain ⟨n, f, he, hi, rfl⟩ := jx_aI_spec hx
  exact ⟨_, hr, fun _ _ _ _ _ _ _ _ _ _ _ _ _ _ _ hF hl hR hS w => va_bald hF.1 (hF.2.1.trans hM) hF.2.2.2.2.2.2.2.1 (hR.one he) 0 t rfl (jx_tys_at ht) hi hd w⟩
theorem ok_zald (hM : (jz_m Z y).2.1 = cc) (ht : (jz_t Z)[t]? = some .boolean) (hd : decode cc pc = .ok (.baload, 1)) : jx_Ok Z y pc (pc + 1) (jo_iald t) := by
  refine jx_ok_st (mo_iald _) (fun k lv st h r hr => ?_)
  simp only [jo_iald] at hr
  repeat' split at hr
  all_goals first
    | (cases hr; done)
    | skip
  obtain ⟨x', hx, hr⟩ := Option.bind_eq_some_iff.mp hr
  obtain ⟨n, f, he, hi, rfl⟩ := jx_aI_spec hx
  exact ⟨_, hr, fun _ _ _ _ _ _ _ _ _ _ _ _ _ _ _ hF hl hR hS w => va_zald hF.1 (hF.2.1.trans hM) hF.2.2.2.2.2.2.2.1 (hR.one he) 0 t rfl (jx_tys_at ht) hi hd w⟩
theorem ok_lald (hM : (jz_m Z y).2.1 = cc) (ht : (jz_t Z)[t]? = some .long) (hd : decode cc pc = .ok (.laload, 1)) : jx_Ok Z y pc (pc + 1) (jo_lald t) := by
  refine jx_ok_st (mo_lald _) (fun k lv st h r hr => ?_)
  simp only [jo_lald] at hr
  repeat' split at hr
  all_goals first
    | (cases hr; done)
    | skip
  obtain ⟨x', hx, hr⟩ := Option.bind_eq_some_iff.mp hr
  obtain ⟨n, f, he, hi, rfl⟩ := jx_aJ_spec hx
  exact ⟨_, hr, fun _ _ _ _ _ _ _ _ _ _ _ _ _ _ _ hF hl hR hS w => va_lald hF.1 (hF.2.1.trans hM) hF.2.2.2.2.2.2.2.1 (hR.one he) 0 t rfl (jx_tys_at ht) hi hd w⟩
theorem ok_aald (hM : (jz_m Z y).2.1 = cc) {C : String} (ht : (jz_t Z)[t]? = some (.object C)) (hd : decode cc pc = .ok (.aaload, 1)) : jx_Ok Z y pc (pc + 1) (jo_aald t) := by
  refine jx_ok_st (mo_aald _) (fun k lv st h r hr => ?_)
  simp only [jo_aald] at hr
  repeat' split at hr
  all_goals first
    | (cases hr; done)
    | skip
  obtain ⟨o, hx, hr⟩ := Option.bind_eq_some_iff.mp hr
  obtain ⟨n, f, he, hi, hf⟩ := jx_aA_spec hx
  cases o with
  | some x => exact ⟨_, hr, fun _ _ _ _ _ _ _ _ _ _ _ _ _ _ _ hF hl hR hS w => va_aldq hF.1 (hF.2.1.trans hM) hF.2.2.2.2.2.2.2.1 (hR.one he) 0 t rfl (jx_tys_at ht) hi hd (by rw [← hf]; exact w)⟩
  | none => exact ⟨_, hr, fun _ _ _ _ _ _ _ _ _ _ _ _ _ _ _ hF hl hR hS w => va_aldq hF.1 (hF.2.1.trans hM) hF.2.2.2.2.2.2.2.1 (hR.one he) 0 t rfl (jx_tys_at ht) hi hd (by rw [← hf]; exact w)⟩
theorem ok_alen (hM : (jz_m Z y).2.1 = cc) {ty : FieldType} (ht : (jz_t Z)[t]? = some ty) (hd : decode cc pc = .ok (.arraylength, 1)) : jx_Ok Z y pc (pc + 1) (jo_alen t) := by
  refine jx_ok_st (mo_alen _) (fun k lv st h r hr => ?_)
  simp only [jo_alen] at hr
  repeat' split at hr
  all_goals first
    | (cases hr; done)
    | skip
  obtain ⟨x', hx, hr⟩ := Option.bind_eq_some_iff.mp hr
  obtain ⟨g, he⟩ := jx_len_spec hx
  exact ⟨_, hr, fun _ _ _ _ _ _ _ _ _ _ _ _ _ _ _ hF hl hR hS w => va_alen hF.1 (hF.2.1.trans hM) hF.2.2.2.2.2.2.2.1 (hR.one he) 0 t rfl (jx_tys_at ht) rfl hd w⟩
theorem ok_iast (hM : (jz_m Z y).2.1 = cc) (ht : (jz_t Z)[t]? = some .int) (hd : decode cc pc = .ok (.iastore, 1)) : jx_Ok Z y pc (pc + 1) (jo_iast t) := by
  refine jx_ok_hp (mo_iast _) (fun k lv st h r hr => ?_)
  simp only [jo_iast] at hr
  repeat' split at hr
  all_goals first
    | (cases hr; done)
    | skip
  obtain ⟨x', hx, hr⟩ := Option.bind_eq_some_iff.mp hr
  obtain ⟨n, f, he, hi, rfl⟩ := jx_sI_spec hx
  refine ⟨_, _, hr, rfl, rfl, fun p e R s m args below meth c H locs ls cells slots QQ hF hR hS w => ?_⟩
  refine W.iast hF.1 (hF.2.1.trans hM) (hR.2.2.2 _ _ he).2 ((hF.2.2.2.2.2.2.2.1.2 t _ (jx_tys_at ht)).1 n (fun j => .int (f j))) (fun q => by cases q) (by show ¬ (_ < 0 ∨ (arrV _ _ _).slots.size ≤ _); rw [arrV_size]; exact hi) rfl rfl hd fun H1 e1 z oq => ?_
  refine w H1 _ (hR.set he z oq ?_) (hS.put z oq (hR.2.2.2 _ _ he).1)
  show H1[_]? = some (vp_cell _ _)
  rw [e1]
  rw [vp_cell_i, vp_cell_i, arrV_store]
  congr 2
  funext q
  simp only [updV, upd]
  split <;> rfl
theorem ok_bast (hM : (jz_m Z y).2.1 = cc) (ht : (jz_t Z)[t]? = some .byte) (hd : decode cc pc = .ok (.bastore, 1)) : jx_Ok Z y pc (pc + 1) (jo_bast t) := by
  refine jx_ok_hp (mo_bast _) (fun k lv st h r hr => ?_)
  simp only [jo_bast] at hr
  repeat' split at hr
  all_goals first
    | (cases hr; done)
    | skip
  obtain ⟨x', hx, hr⟩ := Option.bind_eq_some_iff.mp hr
  obtain ⟨n, f, he, hi, rfl⟩ := jx_sI_spec hx
  refine ⟨_, _, hr, rfl, rfl, fun p e R s m args below meth c H locs ls cells slots QQ hF hR hS w => ?_⟩
  refine W.bast hF.1 (hF.2.1.trans hM) (hR.2.2.2 _ _ he).2 ((hF.2.2.2.2.2.2.2.1.2 t _ (jx_tys_at ht)).1 n (fun j => .int (f j))) (fun q => by cases q) (by show ¬ (_ < 0 ∨ (arrV _ _ _).slots.size ≤ _); rw [arrV_size]; exact hi) rfl rfl hd fun H1 e1 z oq => ?_
  refine w H1 _ (hR.set he z oq ?_) (hS.put z oq (hR.2.2.2 _ _ he).1)
  show H1[_]? = some (vp_cell _ _)
  rw [e1]
  rw [narrow_byte, vp_cell_i, vp_cell_i, arrV_store]
  congr 2
  funext q
  simp only [updV, upd]
  split <;> rfl
theorem ok_last (hM : (jz_m Z y).2.1 = cc) (ht : (jz_t Z)[t]? = some .long) (hd : decode cc pc = .ok (.lastore, 1)) : jx_Ok Z y pc (pc + 1) (jo_last t) := by
  refine jx_ok_hp (mo_last _) (fun k lv st h r hr => ?_)
  simp only [jo_last] at hr
  repeat' split at hr
  all_goals first
    | (cases hr; done)
    | skip
  obtain ⟨x', hx, hr⟩ := Option.bind_eq_some_iff.mp hr
  obtain ⟨n, f, he, hi, rfl⟩ := jx_sJ_spec hx
  refine ⟨_, _, hr, rfl, rfl, fun p e R s m args below meth c H locs ls cells slots QQ hF hR hS w => ?_⟩
  refine W.last hF.1 (hF.2.1.trans hM) (hR.2.2.2 _ _ he).2 ((hF.2.2.2.2.2.2.2.1.2 t _ (jx_tys_at ht)).1 n (fun j => .long (f j))) (fun q => by cases q) (by show ¬ (_ < 0 ∨ (arrV _ _ _).slots.size ≤ _); rw [arrV_size]; exact hi) rfl rfl hd fun H1 e1 z oq => ?_
  refine w H1 _ (hR.set he z oq ?_) (hS.put z oq (hR.2.2.2 _ _ he).1)
  show H1[_]? = some (vp_cell _ _)
  rw [e1]
  rw [vp_cell_l, vp_cell_l, arrV_store]
  congr 2
  funext q
  simp only [updV, vp_updL]
  split <;> rfl
theorem ok_aast (hM : (jz_m Z y).2.1 = cc) {ci : Nat} {r0 : vw_C} (hc : (jz_c Z)[ci]? = some r0) (ht : (jz_t Z)[t]? = some (.object r0.1)) (hd : decode cc pc = .ok (.aastore, 1)) : jx_Ok Z y pc (pc + 1) (jo_aast t ci) := by
  refine jx_ok_hp (mo_aast _ _) (fun k lv st h r hr => ?_)
  simp only [jo_aast] at hr
  repeat' split at hr
  all_goals first
    | (cases hr; done)
    | skip
  rename_i x i a st'
  obtain ⟨h', hx, hr⟩ := Option.bind_eq_some_iff.mp hr
  obtain ⟨n, f, fs, hv, he, hi, rfl⟩ := jx_sA_spec hx
  refine ⟨_, _, hr, rfl, rfl, fun p e R s m args below meth c H locs ls cells slots QQ hF hR hS w => ?_⟩
  have hK := hF.2.2.2.2.2.2.2.1
  have hlt : i.toNatClampNeg < n := Nat.not_le.mp fun q => hi (Or.inr q)
  have h0 : ¬ i < (0 : Int32) := fun q => hi (Or.inl q)
  obtain ⟨r', hr', cellV, g1, g2, g3, -⟩ := (hR.2.2.2 _ _ hv).2
  have hcls := (hK.1 ci r0 hc).2
  obtain ⟨kA, comp, k1, k2, k3, -⟩ := (hK.2 t _ (jx_tys_at ht)).2
  have hcomp : comp = (jz_D Z).1 ci := Option.some.inj (k3.symm.trans hcls.1)
  subst hcomp
  obtain ⟨kC, hkC, -⟩ := hcls.2
  refine W.aast hF.1 (hF.2.1.trans hM) (hR.2.2.2 _ _ he).2 (fun q h => by cases h) (fun h => by cases h) k1 k2 rfl hkC ⟨h0, by show _ < (arrV _ _ _).slots.size; rw [arrV_size]; exact hlt⟩ g1 (fun q h => by rw [g3] at h; cases h) (by rw [g2]; exact hkC) (by rw [g2]; exact va_assign hcls) rfl rfl hd fun H1 e1 z oq => ?_
  refine w H1 _ (hR.set he z oq ?_) (hS.put z oq (hR.2.2.2 _ _ he).1)
  show H1[_]? = some (vp_cell _ _)
  rw [e1]
  rw [vp_cell_q, vp_cell_q, arrV_store]
  congr 2
  funext q
  simp only [updV, va_up]
  split <;> rfl
theorem jx_n_in {n : Int32} {N : Nat} (h : jx_inB n N = true) : ¬ n < 0 ∧ n.toNatClampNeg < N := by
  have h1 := jx_inB_iff.mp h
  exact ⟨fun q => h1 (Or.inl q), Nat.not_le.mp fun q => h1 (Or.inr q)⟩
theorem ok_newa (hM : (jz_m Z y).2.1 = cc) {atype : ArrayType} {ty : FieldType} {z : (Nat → Int32) ⊕ (Nat → Int64) ⊕ (Nat → UInt32) ⊕ (Nat → UInt64) ⊕ (Nat → Option Nat)} (hty : newarray.typeOf atype = ty) (ht : (jz_t Z)[t]? = some ty) (hw : Jvm.Cond.arrayClass ty ∈ jz_T Z) (hz : ∀ (cA : ClassId) (n : Nat), vp_cell cA (n, z) = arrV cA n (fun _ => defaultValue ty)) (hb : componentBytes ty ≤ 8) (hd : decode cc pc = .ok (.newarray atype, 2)) : jx_Ok Z y pc (pc + 2) (jo_newa t z) := by
  subst hty
  refine ⟨mo_newa _ _, fun k lv st h r hr => ?_⟩
  simp only [jo_newa] at hr
  repeat' split at hr
  all_goals first
    | (cases hr; done)
    | skip
  rename_i n st' hn
  obtain ⟨hn0, hnN⟩ := jx_n_in hn
  refine ⟨_, _, _, hr, Nat.le_succ _, Nat.le_add_right _ _, fun p e R s m args below meth c H locs ls cells slots QQ hF hl hR hS hc hs kk => ?_⟩
  dsimp only at hc hs kk
  refine va_newaK hF.1 (hF.2.1.trans hM) (hF.2.2.2.2.2.2.1 _ hw) rfl hd rfl hn0 rfl (Nat.le_trans (Nat.mul_le_mul (Nat.le_of_lt hnN) hb) (by decide)) (by omega) (by omega) hR.1 fun H1 cA e1 z1 o1 hAr hNm => ?_
  have hcA : cA = jz_a Z t := by
    have h2 := (hF.2.2.2.2.2.2.2.1.2 t _ (jx_tys_at ht)).2
    have h3 : s.vm.findClass ("[" ++ (newarray.typeOf atype).toString) = some (jz_a Z t) := by cases atype <;> exact h2
    exact Option.some.inj (hNm.symm.trans h3)
  subst hcA
  refine kk H1 locs ls (cells + 1) (slots + n.toNatClampNeg) (by omega) (by omega) hl (hR.push _ z1 o1 ?_) ⟨Nat.le_trans hS.1 (by rw [z1, hR.1]; omega), fun q h1 h2 => (o1 q (by have := hS.1; rw [hR.1] at this; omega)).trans (hS.2.1 q h1 h2), hS.2.2⟩
  show H1[h.1]? = some (vp_cell _ _)
  rw [hz]
  exact e1
theorem ok_anew (hM : (jz_m Z y).2.1 = cc) (hO : (jz_m Z y).1.cls = own) {C : String} {index : Nat} (ht : (jz_t Z)[t]? = some (.object C)) (hw : Jvm.Cond.classLink own index C ∈ jz_T Z) (hov : ∀ s : State, jz_K Z s → va_AO C s) (hd : decode cc pc = .ok (.anewarray index, 3)) : jx_Ok Z y pc (pc + 3) (jo_newa t (.inr (.inr (.inr (.inr (fun _ => none)))))) := by
  refine ⟨mo_newa _ _, fun k lv st h r hr => ?_⟩
  simp only [jo_newa] at hr
  repeat' split at hr
  all_goals first
    | (cases hr; done)
    | skip
  rename_i n st' hn
  obtain ⟨hn0, hnN⟩ := jx_n_in hn
  refine ⟨_, _, _, hr, Nat.le_succ _, Nat.le_add_right _ _, fun p e R s m args below meth c H locs ls cells slots QQ hF hl hR hS hc hs kk => ?_⟩
  dsimp only at hc hs kk
  refine W.anew hF.1 (hF.2.1.trans hM) (by rw [← hO]; exact hF.2.2.2.2.2.1) (hF.2.2.2.2.2.2.1 _ hw) (va_AO.use (hov s hF.2.2.2.2.2.2.2.2.2.2.2)) rfl hd rfl hn0 (by omega) (by omega) (by omega) fun cA kA comp f1 f2 f3 f4 => ?_
  have hcA : cA = jz_a Z t := by
    obtain ⟨kA', comp', g1, g2, g3, g4⟩ := (hF.2.2.2.2.2.2.2.1.2 t _ (jx_tys_at ht)).2
    exact Option.some.inj (f1.symm.trans g4)
  subst hcA
  have hz1 : (H.push { cls := jz_a Z t, slots := Array.replicate n.toNatClampNeg .null, vm := .none }).size = h.1 + 1 := by rw [Array.size_push, hR.1]
  have ho1 : ∀ q : Nat, q < h.1 → (H.push { cls := jz_a Z t, slots := Array.replicate n.toNatClampNeg .null, vm := .none })[q]? = H[q]? := fun q hq => by rw [Array.getElem?_push, if_neg (by rw [hR.1]; exact Nat.ne_of_lt hq)]
  rw [hR.1]
  refine kk _ locs ls (cells + 1) (slots + n.toNatClampNeg) (by omega) (by omega) hl (hR.push _ hz1 ho1 ?_) ⟨Nat.le_trans hS.1 (by rw [hz1, hR.1]; omega), fun q h1 h2 => (ho1 q (by have := hS.1; rw [hR.1] at this; omega)).trans (hS.2.1 q h1 h2), hS.2.2⟩
  show (H.push _)[h.1]? = some (vp_cell _ _)
  rw [← hR.1, vp_cell_q, arrV_new]
  simp [va_rf]
theorem ok_new (hM : (jz_m Z y).2.1 = cc) (hO : (jz_m Z y).1.cls = own) {index ci : Nat} {C : String} {T : u_T} {N : Nat} {fs : List Value} (hc : (jz_c Z)[ci]? = some (C, T, N)) (hin : ∀ w ∈ u_ws C T N, w ∈ jz_T Z) (ty : Nat → FieldType) (hty : ∀ k, k < N → parseFieldDescriptor (T k).2.2.1 = some (ty k)) (hw : Jvm.Cond.classLink own index C ∈ jz_T Z) (hw2 : Jvm.Cond.instantiable C N ∈ jz_T Z) (hw3 : Jvm.Cond.initialized C ∈ jz_T Z) (hfs : ∀ j, j < N → defaultValue (ty j) = vp_V fs j) (hd : decode cc pc = .ok (.new index, 3)) : jx_Ok Z y pc (pc + 3) (jo_new ci N fs) := by
  refine ⟨mo_new _ _ _, fun k lv st h r hr => ?_⟩
  simp only [jo_new] at hr
  refine ⟨_, _, _, hr, Nat.le_succ _, Nat.le_add_right _ _, fun p e R s m args below meth c H locs ls cells slots QQ hF hl hR hS hcl hs kk => ?_⟩
  dsimp only at hcl hs kk
  have hts := hF.2.2.2.2.2.2.1
  have hKn := hF.2.2.2.2.2.2.2.1.1 ci _ hc
  refine W.newcK hF.1 (hF.2.1.trans hM) (by rw [← hO]; exact hF.2.2.2.2.2.1) (hts _ hw) (hts _ hw2) (hts _ hw3) rfl hd (by omega) (by omega) hKn.2.1 hR.1 fun H1 kC hkC e1 z1 o1 => ?_
  exact kk H1 locs ls (cells + 1) (slots + N) (by omega) (by omega) hl (hR.push _ z1 o1 ⟨_, hc, (u_born ty hts hin hKn hkC e1 hty).to hfs⟩) ⟨Nat.le_trans hS.1 (by rw [z1, hR.1]; omega), fun q h1 h2 => (o1 q (by have := hS.1; rw [hR.1] at this; omega)).trans (hS.2.1 q h1 h2), hS.2.2⟩
theorem ok_objI (hM : (jz_m Z y).2.1 = cc) (hO : (jz_m Z y).1.cls = own) {index : Nat} (hw : Jvm.Cond.methodLink own index Lib.objectInit ∈ jz_T Z) (hw2 : Jvm.Cond.instanceMethod Lib.objectInit ∈ jz_T Z) (hw3 : Jvm.Cond.code Lib.objectInit ⟨#[0xb1]⟩ 1 none ∈ jz_T Z) (hdep : 1 ≤ (jz_d Z y).1 ∧ 20 ≤ (jz_d Z y).2) (hd : decode cc pc = .ok (.invokespecial index, 3)) : jx_Ok Z y pc (pc + 3) jo_objI := by
  refine jx_ok_st mo_objI (fun k lv st h r hr => ?_)
  simp only [jo_objI] at hr
  repeat' split at hr
  all_goals first
    | (cases hr; done)
    | skip
  rename_i a st' hsum
  refine ⟨_, hr, fun p e R s m args below meth c H locs ls cells slots QQ hF hl hR hS w => ?_⟩
  have hts := hF.2.2.2.2.2.2.1
  have hrm := hF.2.2.2.2.2.2.2.2.1
  have h40 := Nat.le_of_ble_eq_true hsum
  exact W.objInit hF.1 (hF.2.1.trans hM) (by rw [← hO]; exact hF.2.2.2.2.2.1) (hts _ hw) (hts _ hw2) (hts _ hw3) rfl (hl.2.1.trans hF.2.2.1.symm) rfl hd (by omega) (by show 2 * 0 + _ + 12 ≤ _; omega) w
end JA
