/-! BLOCKS' ENDS -/
def jc_ii (f : Int32 → Int32 → Bool) : List Value → Option (Bool × List Value) := fun st => match st with
  | .int y :: .int x :: st => some (f x y, st)
  | _ => none
def jc_i (f : Int32 → Bool) : List Value → Option (Bool × List Value) := fun st => match st with
  | .int x :: st => some (f x, st)
  | _ => none
def jc_null : List Value → Option (Bool × List Value) := fun st => match st with
  | .null :: st => some (true, st)
  | .ref _ :: st => some (false, st)
  | _ => none
def jc_nonn : List Value → Option (Bool × List Value) := fun st => match st with
  | .null :: st => some (false, st)
  | .ref _ :: st => some (true, st)
  | _ => none
def jx_sw (ps : List (Int32 × Nat)) (d : Nat) (x : Int32) : Nat := match ps with
  | [] => d
  | (k, t) :: r => if x = k then t else jx_sw r d x
def jr_v : List Value → Option (Option Value) := fun st => match st with
  | [] => some none
  | _ => none
def jr_i : List Value → Option (Option Value) := fun st => match st with
  | [.int x] => some (some (.int x))
  | _ => none
def jr_z : List Value → Option (Option Value) := fun st => match st with
  | [.int x] => if x = 0 ∨ x = 1 then some (some (.int x)) else none
  | _ => none
def jr_l : List Value → Option (Option Value) := fun st => match st with
  | [.long x] => some (some (.long x))
  | _ => none
def jr_a : List Value → Option (Option Value) := fun st => match st with
  | [.ref x] => some (some (.ref x))
  | [.null] => some (some .null)
  | _ => none
section JT
variable {Z : jx_Z} {nl : Nat → Nat} {y pc : Nat} {cc : ByteArray} {own : String}
theorem okt_fall : jx_OkT Z nl y pc (.inr (.inl pc)) := fun _ hf _ _ hr => hf _ _ hr
theorem okt_goto (hM : (jz_m Z y).2.1 = cc) {off : Int} {tgt : Nat} (hd : decode cc pc = .ok (.goto off, 3)) (ht : (pc : Int) + off = (tgt : Int)) : jx_OkT Z nl y pc (.inr (.inl tgt)) := by
  intro f hf s r hr
  obtain ⟨g1, g2, g3⟩ := hf _ _ hr
  exact ⟨g1, g2, fun p e R s' m args below meth c H locs ls cells slots QQ hF hl hR hS hc hs kk => lv_goto hF.1 (hF.2.1.trans hM) hd ht (g3 p e R s' m args below meth c H locs ls cells slots QQ hF hl hR hS hc hs kk)⟩
theorem jx_okt_br {c : List Value → Option (Bool × List Value)} {L1 L2 : Nat} (hh : ∀ (st : List Value) (b : Bool) (st' : List Value), c st = some (b, st') → ∀ (p : Program) (e : Env) (R : Room) (s : State) (m : MethodId) (args : Array Value) (below : List Frame) (meth : Method) (cd : Code) (H : Heap) (locs : List Loc) (ls : Array Slot) (cells slots : Nat) (QQ : State → Prop),
    jx_Fx Z y p R s m args meth cd → (b = true → W p (jz_l Z) e R s m args below meth cd H locs cells slots QQ (F0 m L1 ls st')) → (b = false → W p (jz_l Z) e R s m args below meth cd H locs cells slots QQ (F0 m L2 ls st')) → W p (jz_l Z) e R s m args below meth cd H locs cells slots QQ (F0 m pc ls st)) : jx_OkT Z nl y pc (.inl (c, L1, L2)) := by
  intro f hf s r hr
  obtain ⟨lv, st, h⟩ := s
  simp only [jx_term] at hr
  cases hc : c st with
  | none => rw [hc] at hr; cases hr
  | some b =>
    obtain ⟨b, st'⟩ := b
    rw [hc] at hr
    cases b with
    | false =>
      obtain ⟨g1, g2, g3⟩ := hf _ _ (show f (y, L2, lv, st', h) = some r from hr)
      exact ⟨g1, g2, fun p e R s m args below meth c H locs ls cells slots QQ hF hl hR hS h5 h6 kk => hh st false st' hc p e R s m args below meth c H locs ls cells slots QQ hF (fun q => by cases q) (fun _ => g3 p e R s m args below meth c H locs ls cells slots QQ hF hl hR hS h5 h6 kk)⟩
    | true =>
      obtain ⟨g1, g2, g3⟩ := hf _ _ (show f (y, L1, lv, st', h) = some r from hr)
      exact ⟨g1, g2, fun p e R s m args below meth c H locs ls cells slots QQ hF hl hR hS h5 h6 kk => hh st true st' hc p e R s m args below meth c H locs ls cells slots QQ hF (fun _ => g3 p e R s m args below meth c H locs ls cells slots QQ hF hl hR hS h5 h6 kk) (fun q => by cases q)⟩
theorem okt_icmp_eq (hM : (jz_m Z y).2.1 = cc) {off : Int} {tgt : Nat} (hd : decode cc pc = .ok (.if_icmp .eq off, 3)) (ht : (pc : Int) + off = (tgt : Int)) : jx_OkT Z nl y pc (.inl (jc_ii (fun x y => decide (x = y)), tgt, pc + 3)) := by
  refine jx_okt_br (fun st b st' hc p e R s m args below meth cd H locs ls cells slots QQ hF kt kf => ?_)
  simp only [jc_ii] at hc
  split at hc
  · cases hc; exact lv_icmp_eq hF.1 (hF.2.1.trans hM) hd ht (fun q => kt (decide_eq_true q)) (fun q => kf (decide_eq_false q))
  · cases hc
theorem okt_icmp_ne (hM : (jz_m Z y).2.1 = cc) {off : Int} {tgt : Nat} (hd : decode cc pc = .ok (.if_icmp .ne off, 3)) (ht : (pc : Int) + off = (tgt : Int)) : jx_OkT Z nl y pc (.inl (jc_ii (fun x y => decide (¬ x = y)), tgt, pc + 3)) := by
  refine jx_okt_br (fun st b st' hc p e R s m args below meth cd H locs ls cells slots QQ hF kt kf => ?_)
  simp only [jc_ii] at hc
  split at hc
  · cases hc; exact lv_icmp_ne hF.1 (hF.2.1.trans hM) hd ht (fun q => kt (decide_eq_true q)) (fun q => kf (decide_eq_false (fun z => z q)))
  · cases hc
theorem okt_icmp_lt (hM : (jz_m Z y).2.1 = cc) {off : Int} {tgt : Nat} (hd : decode cc pc = .ok (.if_icmp .lt off, 3)) (ht : (pc : Int) + off = (tgt : Int)) : jx_OkT Z nl y pc (.inl (jc_ii (fun x y => decide (x < y)), tgt, pc + 3)) := by
  refine jx_okt_br (fun st b st' hc p e R s m args below meth cd H locs ls cells slots QQ hF kt kf => ?_)
  simp only [jc_ii] at hc
  split at hc
  · cases hc; exact lv_icmp_lt hF.1 (hF.2.1.trans hM) hd ht (fun q => kt (decide_eq_true q)) (fun q => kf (decide_eq_false q))
  · cases hc
theorem okt_icmp_ge (hM : (jz_m Z y).2.1 = cc) {off : Int} {tgt : Nat} (hd : decode cc pc = .ok (.if_icmp .ge off, 3)) (ht : (pc : Int) + off = (tgt : Int)) : jx_OkT Z nl y pc (.inl (jc_ii (fun x y => decide (y ≤ x)), tgt, pc + 3)) := by
  refine jx_okt_br (fun st b st' hc p e R s m args below meth cd H locs ls cells slots QQ hF kt kf => ?_)
  simp only [jc_ii] at hc
  split at hc
  · cases hc; exact lv_icmp_ge hF.1 (hF.2.1.trans hM) hd ht (fun q => kt (decide_eq_true q)) (fun q => kf (decide_eq_false q))
  · cases hc
theorem okt_icmp_gt (hM : (jz_m Z y).2.1 = cc) {off : Int} {tgt : Nat} (hd : decode cc pc = .ok (.if_icmp .gt off, 3)) (ht : (pc : Int) + off = (tgt : Int)) : jx_OkT Z nl y pc (.inl (jc_ii (fun x y => decide (y < x)), tgt, pc + 3)) := by
  refine jx_okt_br (fun st b st' hc p e R s m args below meth cd H locs ls cells slots QQ hF kt kf => ?_)
  simp only [jc_ii] at hc
  split at hc
  · cases hc; exact lv_icmp_gt hF.1 (hF.2.1.trans hM) hd ht (fun q => kt (decide_eq_true q)) (fun q => kf (decide_eq_false q))
  · cases hc
theorem okt_icmp_le (hM : (jz_m Z y).2.1 = cc) {off : Int} {tgt : Nat} (hd : decode cc pc = .ok (.if_icmp .le off, 3)) (ht : (pc : Int) + off = (tgt : Int)) : jx_OkT Z nl y pc (.inl (jc_ii (fun x y => decide (x ≤ y)), tgt, pc + 3)) := by
  refine jx_okt_br (fun st b st' hc p e R s m args below meth cd H locs ls cells slots QQ hF kt kf => ?_)
  simp only [jc_ii] at hc
  split at hc
  · cases hc; exact lv_icmp_le hF.1 (hF.2.1.trans hM) hd ht (fun q => kt (decide_eq_true q)) (fun q => kf (decide_eq_false q))
  · cases hc
theorem okt_if_eq (hM : (jz_m Z y).2.1 = cc) {off : Int} {tgt : Nat} (hd : decode cc pc = .ok (.ifCond .eq off, 3)) (ht : (pc : Int) + off = (tgt : Int)) : jx_OkT Z nl y pc (.inl (jc_i (fun x => decide (x = 0)), tgt, pc + 3)) := by
  refine jx_okt_br (fun st b st' hc p e R s m args below meth cd H locs ls cells slots QQ hF kt kf => ?_)
  simp only [jc_i] at hc
  split at hc
  · cases hc; exact lv_if_eq hF.1 (hF.2.1.trans hM) hd ht (fun q => kt (decide_eq_true q)) (fun q => kf (decide_eq_false q))
  · cases hc
theorem okt_if_ne (hM : (jz_m Z y).2.1 = cc) {off : Int} {tgt : Nat} (hd : decode cc pc = .ok (.ifCond .ne off, 3)) (ht : (pc : Int) + off = (tgt : Int)) : jx_OkT Z nl y pc (.inl (jc_i (fun x => decide (¬ x = 0)), tgt, pc + 3)) := by
  refine jx_okt_br (fun st b st' hc p e R s m args below meth cd H locs ls cells slots QQ hF kt kf => ?_)
  simp only [jc_i] at hc
  split at hc
  · cases hc; exact lv_if_ne hF.1 (hF.2.1.trans hM) hd ht (fun q => kt (decide_eq_true q)) (fun q => kf (decide_eq_false (fun z => z q)))
  · cases hc
theorem okt_if_lt (hM : (jz_m Z y).2.1 = cc) {off : Int} {tgt : Nat} (hd : decode cc pc = .ok (.ifCond .lt off, 3)) (ht : (pc : Int) + off = (tgt : Int)) : jx_OkT Z nl y pc (.inl (jc_i (fun x => decide (x < 0)), tgt, pc + 3)) := by
  refine jx_okt_br (fun st b st' hc p e R s m args below meth cd H locs ls cells slots QQ hF kt kf => ?_)
  simp only [jc_i] at hc
  split at hc
  · cases hc; exact lv_if_lt hF.1 (hF.2.1.trans hM) hd ht (fun q => kt (decide_eq_true q)) (fun q => kf (decide_eq_false q))
  · cases hc
theorem okt_if_ge (hM : (jz_m Z y).2.1 = cc) {off : Int} {tgt : Nat} (hd : decode cc pc = .ok (.ifCond .ge off, 3)) (ht : (pc : Int) + off = (tgt : Int)) : jx_OkT Z nl y pc (.inl (jc_i (fun x => decide (0 ≤ x)), tgt, pc + 3)) := by
  refine jx_okt_br (fun st b st' hc p e R s m args below meth cd H locs ls cells slots QQ hF kt kf => ?_)
  simp only [jc_i] at hc
  split at hc
  · cases hc; exact lv_if_ge hF.1 (hF.2.1.trans hM) hd ht (fun q => kt (decide_eq_true q)) (fun q => kf (decide_eq_false q))
  · cases hc
theorem okt_if_gt (hM : (jz_m Z y).2.1 = cc) {off : Int} {tgt : Nat} (hd : decode cc pc = .ok (.ifCond .gt off, 3)) (ht : (pc : Int) + off = (tgt : Int)) : jx_OkT Z nl y pc (.inl (jc_i (fun x => decide (0 < x)), tgt, pc + 3)) := by
  refine jx_okt_br (fun st b st' hc p e R s m args below meth cd H locs ls cells slots QQ hF kt kf => ?_)
  simp only [jc_i] at hc
  split at hc
  · cases hc; exact lv_if_gt hF.1 (hF.2.1.trans hM) hd ht (fun q => kt (decide_eq_true q)) (fun q => kf (decide_eq_false q))
  · cases hc
theorem okt_if_le (hM : (jz_m Z y).2.1 = cc) {off : Int} {tgt : Nat} (hd : decode cc pc = .ok (.ifCond .le off, 3)) (ht : (pc : Int) + off = (tgt : Int)) : jx_OkT Z nl y pc (.inl (jc_i (fun x => decide (x ≤ 0)), tgt, pc + 3)) := by
  refine jx_okt_br (fun st b st' hc p e R s m args below meth cd H locs ls cells slots QQ hF kt kf => ?_)
  simp only [jc_i] at hc
  split at hc
  · cases hc; exact lv_if_le hF.1 (hF.2.1.trans hM) hd ht (fun q => kt (decide_eq_true q)) (fun q => kf (decide_eq_false q))
  · cases hc
theorem okt_ifnull (hM : (jz_m Z y).2.1 = cc) {off : Int} {tgt : Nat} (hd : decode cc pc = .ok (.ifnull off, 3)) (ht : (pc : Int) + off = (tgt : Int)) : jx_OkT Z nl y pc (.inl (jc_null, tgt, pc + 3)) := by
  refine jx_okt_br (fun st b st' hc p e R s m args below meth cd H locs ls cells slots QQ hF kt kf => ?_)
  simp only [jc_null] at hc
  split at hc
  · cases hc; exact lv_ifnullN hF.1 (hF.2.1.trans hM) hd ht (kt rfl)
  · cases hc; exact lv_ifnull hF.1 (hF.2.1.trans hM) hd (kf rfl)
  · cases hc
theorem okt_ifnonnull (hM : (jz_m Z y).2.1 = cc) {off : Int} {tgt : Nat} (hd : decode cc pc = .ok (.ifnonnull off, 3)) (ht : (pc : Int) + off = (tgt : Int)) : jx_OkT Z nl y pc (.inl (jc_nonn, tgt, pc + 3)) := by
  refine jx_okt_br (fun st b st' hc p e R s m args below meth cd H locs ls cells slots QQ hF kt kf => ?_)
  simp only [jc_nonn] at hc
  split at hc
  · cases hc; exact lv_ifnonnullN hF.1 (hF.2.1.trans hM) hd (kf rfl)
  · cases hc; exact lv_ifnonnull hF.1 (hF.2.1.trans hM) hd ht (kt rfl)
  · cases hc
theorem jx_okt_sw {w : Int32 → Nat} (hh : ∀ (x : Int32) (st : List Value) (p : Program) (e : Env) (R : Room) (s : State) (m : MethodId) (args : Array Value) (below : List Frame) (meth : Method) (cd : Code) (H : Heap) (locs : List Loc) (ls : Array Slot) (cells slots : Nat) (QQ : State → Prop),
    jx_Fx Z y p R s m args meth cd → W p (jz_l Z) e R s m args below meth cd H locs cells slots QQ (F0 m (w x) ls st) → W p (jz_l Z) e R s m args below meth cd H locs cells slots QQ (F0 m pc ls (.int x :: st))) : jx_OkT Z nl y pc (.inr (.inr (.inl w))) := by
  intro f hf s r hr
  obtain ⟨lv, st, h⟩ := s
  simp only [jx_term] at hr
  split at hr
  · rename_i x st'
    obtain ⟨g1, g2, g3⟩ := hf _ _ hr
    exact ⟨g1, g2, fun p e R s m args below meth c H locs ls cells slots QQ hF hl hR hS h5 h6 kk => hh x st' p e R s m args below meth c H locs ls cells slots QQ hF (g3 p e R s m args below meth c H locs ls cells slots QQ hF hl hR hS h5 h6 kk)⟩
  · cases hr
theorem jx_sw_off (pc d : Nat) (x : Int32) : ∀ (ps : List (Int32 × Nat)), (pc : Int) + Op.lookupswitch.offset (ps.map fun q => (q.1.toInt, (q.2 : Int) - (pc : Int))) ((d : Int) - (pc : Int)) x.toInt = (jx_sw ps d x : Int)
  | [] => by simp [jx_sw, Op.lookupswitch.offset]; omega
  | (k, t) :: r => by
    rw [List.map_cons, Op.lookupswitch.offset_cons]
    by_cases hx : x = k
    · subst hx
      simp [jx_sw]; omega
    · rw [if_neg (fun q => hx (Int32.toInt_inj.mp q.symm))]
      rw [jx_sw, if_neg hx]
      exact jx_sw_off pc d x r
theorem okt_lookup (hM : (jz_m Z y).2.1 = cc) {ps : Array (Int × Int)} {dflt : Int} {len d : Nat} {L : List (Int32 × Nat)} (hd : decode cc pc = .ok (.lookupswitch dflt ps, len)) (hp : (ps.toList.zip (ps.toList.drop 1)).all (fun (a, next) => a.1 < next.1) = true) (h1 : ps.toList = L.map fun q => (q.1.toInt, (q.2 : Int) - (pc : Int))) (h2 : dflt = (d : Int) - (pc : Int)) : jx_OkT Z nl y pc (.inr (.inr (.inl (jx_sw L d)))) := by
  refine jx_okt_sw (fun x st p e R s m args below meth cd H locs ls cells slots QQ hF w => ?_)
  exact lv_lookup hF.1 (hF.2.1.trans hM) hd hp rfl (by rw [h1, h2]; exact jx_sw_off pc d x L) w
theorem jx_sw_in {lo : Int} {d : Nat} {x : Int32} : ∀ (L : List (Int32 × Nat)) (b : Nat), (∀ (i : Nat) (q : Int32 × Nat), L[i]? = some q → q.1.toInt = lo + b + i) → ∀ (i : Nat) (q : Int32 × Nat), L[i]? = some q → x.toInt = lo + b + i → jx_sw L d x = q.2
  | [], _, _, i, q, h, _ => by simp at h
  | (k, t) :: r, b, hk, i, q, h, hx => by
    cases i with
    | zero =>
      simp at h
      subst h
      have := hk 0 (k, t) rfl
      rw [jx_sw, if_pos (Int32.toInt_inj.mp (by rw [hx, this]))]
    | succ i =>
      have h0 := hk 0 (k, t) rfl
      rw [jx_sw, if_neg (fun z => by subst z; simp at h0 hx; omega)]
      exact jx_sw_in (lo := lo) r (b + 1) (fun j q hj => by have := hk (j + 1) q (by simpa using hj); rw [this]; push_cast; omega) i q (by simpa using h) (by rw [hx]; push_cast; omega)
theorem jx_sw_out {d : Nat} {x : Int32} : ∀ (L : List (Int32 × Nat)), (∀ (i : Nat) (q : Int32 × Nat), L[i]? = some q → ¬ x = q.1) → jx_sw L d x = d
  | [], _ => rfl
  | (k, t) :: r, h => by rw [jx_sw, if_neg (h 0 (k, t) rfl)]; exact jx_sw_out r (fun i q hi => h (i + 1) q (by simpa using hi))
theorem okt_table (hM : (jz_m Z y).2.1 = cc) {offs : Array Int} {dflt lo hi : Int} {len d : Nat} {L : List (Int32 × Nat)} (hd : decode cc pc = .ok (.tableswitch dflt lo hi offs, len)) (h1 : (List.range L.length).all (fun i => decide ((L[i]?.map fun q => (q.1.toInt, (q.2 : Int))) = some (lo + i, (pc : Int) + offs[i]?.getD 0)) && decide (i < offs.size)) = true) (h2 : hi = lo + L.length - 1) (h3 : (pc : Int) + dflt = (d : Int)) : jx_OkT Z nl y pc (.inr (.inr (.inl (jx_sw L d)))) := by
  refine jx_okt_sw (fun x st p e R s m args below meth cd H locs ls cells slots QQ hF w => ?_)
  have key : ∀ (i : Nat) (q : Int32 × Nat), L[i]? = some q → q.1.toInt = lo + i ∧ ∃ off, offs[i]? = some off ∧ (pc : Int) + off = (q.2 : Int) := by
    intro i q hq
    have hi : i < L.length := (List.getElem?_eq_some_iff.mp hq).1
    have h := List.all_eq_true.mp h1 i (List.mem_range.mpr hi)
    simp only [Bool.and_eq_true, decide_eq_true_eq] at h
    obtain ⟨ha, hb⟩ := h
    rw [hq] at ha
    simp only [Option.map_some, Option.some.injEq, Prod.mk.injEq] at ha
    have ho : offs[i]? = some offs[i] := Array.getElem?_eq_getElem hb
    refine ⟨ha.1, offs[i], ho, ?_⟩
    rw [ha.2, ho]
    rfl
  by_cases hr : x.toInt < lo ∨ hi < x.toInt
  · refine lv_tableOut hF.1 (hF.2.1.trans hM) hd hr h3 ?_
    rw [jx_sw_out L (fun i q hq z => by
      have h5 := (key i q hq).1
      have h6 : i < L.length := (List.getElem?_eq_some_iff.mp hq).1
      rw [← z] at h5
      omega)] at w
    exact w
  · have hlo : ¬ x.toInt < lo := fun q => hr (Or.inl q)
    have hhi : ¬ hi < x.toInt := fun q => hr (Or.inr q)
    have hlt : (x.toInt - lo).toNat < L.length := by omega
    have hq : L[(x.toInt - lo).toNat]? = some L[(x.toInt - lo).toNat] := List.getElem?_eq_getElem hlt
    obtain ⟨h5, off, h6, h7⟩ := key _ _ hq
    refine lv_tableIn hF.1 (hF.2.1.trans hM) hd hlo hhi h6 h7 ?_
    rw [jx_sw_in (lo := lo) L 0 (fun i q hi => by have := (key i q hi).1; simpa using this) _ _ hq (by push_cast; omega)] at w
    exact w
theorem jx_okt_ret {g : List Value → Option (Option Value)} (hh : ∀ st v, g st = some v → st = v.toList ∧ jx_Rt (jz_m Z y) pc v) : jx_OkT Z nl y pc (.inr (.inr (.inr (.inr g)))) := by
  intro f hf s r hr
  obtain ⟨lv, st, h⟩ := s
  simp only [jx_term] at hr
  cases hg : g st with
  | none => rw [hg] at hr; cases hr
  | some v =>
    rw [hg] at hr
    cases hr
    obtain ⟨e1, e2⟩ := hh st v hg
    subst e1
    exact ⟨Nat.le_refl _, Nat.le_refl _, fun p e R s m args below meth c H locs ls cells slots QQ hF hl hR hS h5 h6 kk => kk H locs ls cells slots pc (by dsimp only at h5; omega) (by dsimp only at h6; omega) hR hS e2⟩
theorem okt_vret (hM : (jz_m Z y).2.1 = cc) (hT : (jz_m Z y).2.2.2 = none) (hd : decode cc pc = .ok (.return_, 1)) : jx_OkT Z nl y pc (.inr (.inr (.inr (.inr jr_v)))) := by
  refine jx_okt_ret (fun st v hg => ?_)
  simp only [jr_v] at hg
  split at hg
  · cases hg; exact ⟨rfl, Or.inl ⟨rfl, hT, by rw [hM]; exact hd⟩⟩
  · cases hg
theorem okt_iret (hM : (jz_m Z y).2.1 = cc) (hT : (jz_m Z y).2.2.2 = some .int) (hd : decode cc pc = .ok (.ireturn, 1)) : jx_OkT Z nl y pc (.inr (.inr (.inr (.inr jr_i)))) := by
  refine jx_okt_ret (fun st v hg => ?_)
  simp only [jr_i] at hg
  split at hg
  · cases hg; exact ⟨rfl, Or.inr (Or.inl ⟨_, _, rfl, hT, rfl, by rw [hM]; exact hd⟩)⟩
  · cases hg
theorem okt_zret (hM : (jz_m Z y).2.1 = cc) (hT : (jz_m Z y).2.2.2 = some .boolean) (hd : decode cc pc = .ok (.ireturn, 1)) : jx_OkT Z nl y pc (.inr (.inr (.inr (.inr jr_z)))) := by
  refine jx_okt_ret (fun st v hg => ?_)
  simp only [jr_z] at hg
  split at hg
  · split at hg
    · rename_i h01
      cases hg
      exact ⟨rfl, Or.inr (Or.inl ⟨_, _, rfl, hT, by rcases h01 with rfl | rfl <;> decide +kernel, by rw [hM]; exact hd⟩)⟩
    · cases hg
  · cases hg
theorem okt_lret (hM : (jz_m Z y).2.1 = cc) (hT : (jz_m Z y).2.2.2 = some .long) (hd : decode cc pc = .ok (.lreturn, 1)) : jx_OkT Z nl y pc (.inr (.inr (.inr (.inr jr_l)))) := by
  refine jx_okt_ret (fun st v hg => ?_)
  simp only [jr_l] at hg
  split at hg
  · cases hg; exact ⟨rfl, Or.inr (Or.inr (Or.inl ⟨_, rfl, hT, by rw [hM]; exact hd⟩))⟩
  · cases hg
theorem okt_aret (hM : (jz_m Z y).2.1 = cc) {C : String} (hT : (jz_m Z y).2.2.2 = some (.object C)) (hd : decode cc pc = .ok (.areturn, 1)) : jx_OkT Z nl y pc (.inr (.inr (.inr (.inr jr_a)))) := by
  refine jx_okt_ret (fun st v hg => ?_)
  simp only [jr_a] at hg
  split at hg
  · cases hg; exact ⟨rfl, Or.inr (Or.inr (Or.inr ⟨_, rfl, Or.inr ⟨_, rfl⟩, ⟨C, hT⟩, by rw [hM]; exact hd⟩))⟩
  · cases hg; exact ⟨rfl, Or.inr (Or.inr (Or.inr ⟨_, rfl, Or.inl rfl, ⟨C, hT⟩, by rw [hM]; exact hd⟩))⟩
  · cases hg
end JT
