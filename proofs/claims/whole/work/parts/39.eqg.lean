/-! WHAT CAN BE REACHED, IN BOTH -/
def zRc (Y : jY) (q x : Nat) : Prop := ∀ S : Nat → Prop, S q → (∀ i : Nat, 1 ≤ i → i ≤ vN Y → vK Y i = Int32.ofNat 11 → S (vB Y i) → zpo Y i ≠ 0 → S (zpo Y i)) → S x
theorem zRc_step {Y : jY} {q i : Nat} (h1 : 1 ≤ i) (h2 : i ≤ vN Y) (hk : vK Y i = Int32.ofNat 11) (h : zRc Y q (vB Y i)) (hz : zpo Y i ≠ 0) : zRc Y q (zpo Y i) := fun S s1 s2 => s2 i h1 h2 hk (h S s1 s2) hz
theorem zstep_iff {Y : jY} {S : Nat → Bool} {r : Nat} : zstep Y S r = true ↔ vK Y r = Int32.ofNat 11 ∧ S (vB Y r) = true ∧ zpo Y r ≠ 0 ∧ S (zpo Y r) = false := by
  unfold zstep
  rw [Bool.and_eq_true, Bool.and_eq_true, Bool.and_eq_true, decide_eq_true_eq, Bool.not_eq_true', Bool.not_eq_true', decide_eq_false_iff_not]
theorem zset_iff {S : Nat → Bool} {p r : Nat} : zset S p r = true ↔ r = p ∨ S r = true := by
  unfold zset
  rw [Bool.or_eq_true, decide_eq_true_eq]
theorem zps_mono {Y : jY} : ∀ (d j : Nat) (S : Nat → Bool) (m : Bool) (x : Nat), S x = true → (zps Y d j S m).1 x = true
  | 0, _, _, _, _, h => h
  | d + 1, j, S, m, x, h => by
    unfold zps
    cases zstep Y S (j + 1)
    · exact zps_mono d (j + 1) S m x h
    · exact zps_mono d (j + 1) _ true x (zset_iff.mpr (Or.inr h))
theorem zps_sound {Y : jY} {q : Nat} : ∀ (d j : Nat) (S : Nat → Bool) (m : Bool), j + d ≤ vN Y → (∀ x, S x = true → zRc Y q x) → ∀ x, (zps Y d j S m).1 x = true → zRc Y q x
  | 0, _, _, _, _, h => h
  | d + 1, j, S, m, hj, h => by
    unfold zps
    cases c : zstep Y S (j + 1)
    · exact zps_sound d (j + 1) S m (by omega) h
    · obtain ⟨c1, c2, c3, c4⟩ := zstep_iff.mp c
      refine zps_sound d (j + 1) _ true (by omega) fun x hx => ?_
      rcases zset_iff.mp hx with e | e
      · rw [e]
        exact zRc_step (by omega) (by omega) c1 (h _ c2) c3
      · exact h x e
theorem zps_false {Y : jY} : ∀ (d j : Nat) (S : Nat → Bool) (m : Bool), (zps Y d j S m).2 = false → m = false ∧ (zps Y d j S m).1 = S ∧ ∀ i, j < i → i ≤ j + d → zstep Y S i = false
  | 0, _, _, _, h => ⟨h, rfl, fun i h1 h2 => by omega⟩
  | d + 1, j, S, m, h => by
    unfold zps at h ⊢
    cases c : zstep Y S (j + 1)
    · rw [c] at h
      obtain ⟨e1, e2, e3⟩ := zps_false d (j + 1) S m h
      refine ⟨e1, e2, fun i h1 h2 => ?_⟩
      by_cases e : i = j + 1
      · rw [e]; exact c
      · exact e3 i (by omega) (by omega)
    · rw [c] at h
      have := (zps_false d (j + 1) _ true h).1
      cases this
theorem zwh_all {Y : jY} {q : Nat} : ∀ (d : Nat) (S : Nat → Bool), zun (vN Y) S < d → (∀ x, S x = true → zRc Y q x) → (∀ x, S x = true → zwh Y d S x = true) ∧ (∀ x, zwh Y d S x = true → zRc Y q x) ∧ ∀ i, 1 ≤ i → i ≤ vN Y → zstep Y (zwh Y d S) i = false
  | 0, _, h, _ => absurd h (Nat.not_lt_zero _)
  | d + 1, S, h, hs => by
    have e := zps_un (Y := Y) (vN Y) 0 S false
    have m := zps_mono (Y := Y) (vN Y) 0 S false
    have s := zps_sound (Y := Y) (q := q) (vN Y) 0 S false (by omega) hs
    unfold zwh
    cases c : (zps Y (vN Y) 0 S false).2
    · obtain ⟨-, e2, e3⟩ := zps_false _ _ _ _ c
      rw [cond_false, e2]
      exact ⟨fun x h => h, hs, fun i h1 h2 => e3 i (by omega) (by omega)⟩
    · rw [cond_true]
      obtain ⟨i1, i2, i3⟩ := zwh_all (Y := Y) (q := q) d (zps Y (vN Y) 0 S false).1 (by have := e.2 rfl c; omega) s
      exact ⟨fun x h => i1 x (m x h), i2, i3⟩
theorem ring_ref {Y : jY} {q b : Nat} : zwh Y (vN Y + 1) (fun r => decide (r = q)) b = true ↔ zRc Y q b := by
  obtain ⟨i1, i2, i3⟩ := zwh_all (Y := Y) (q := q) (vN Y + 1) (fun r => decide (r = q)) (Nat.lt_succ_of_le (jcnt_le _ _)) (fun x hx => by rw [of_decide_eq_true hx]; exact fun S s1 _ => s1)
  refine ⟨i2 b, fun h => ?_⟩
  refine h (fun x => zwh Y (vN Y + 1) (fun r => decide (r = q)) x = true) (i1 q (decide_eq_true rfl)) fun i h1 h2 hk hb hz => ?_
  have := i3 i h1 h2
  cases c : zwh Y (vN Y + 1) (fun r => decide (r = q)) (zpo Y i)
  · rw [zstep_iff.mpr ⟨hk, hb, hz, c⟩] at this
    cases this
  · rfl
/-- a list of rows without repetition: it fills what it fills -/
def yls (n : Nat) (L : List Nat) : Prop := zun n (fun r => decide (r ∈ L)) + L.length = n ∧ ∀ v ∈ L, 1 ≤ v ∧ v ≤ n
theorem zun_nil : ∀ n : Nat, zun n (fun r => decide (r ∈ ([] : List Nat))) = n
  | 0 => rfl
  | n + 1 => by
    have := zun_nil n
    unfold zun at this ⊢
    unfold jcnt
    rw [this]
    rfl
theorem zun_zero {S : Nat → Bool} : ∀ n : Nat, zun n S = 0 → ∀ r, 1 ≤ r → r ≤ n → S r = true
  | 0, _, r, h1, h2 => by omega
  | n + 1, h, r, h1, h2 => by
    unfold zun jcnt at h
    by_cases c : r = n + 1
    · rw [c]
      cases e : S (n + 1)
      · simp only [e, Bool.not_false, cond_true] at h
        omega
      · rfl
    · exact zun_zero n (by unfold zun; omega) r h1 (by omega)
theorem yre_ls {n p : Nat} {L : List Nat} (hn : n ≤ 120) (hL : yls n L) (hp : p ≤ n) : yls n (yre p L) ∧ (∀ v, v ∈ yre p L ↔ v ∈ L ∨ (v = p ∧ p ≠ 0)) := by
  by_cases c0 : p = 0
  · rw [yre, if_pos (Or.inl c0)]
    exact ⟨hL, fun v => ⟨Or.inl, fun h => h.elim id fun q => absurd c0 q.2⟩⟩
  by_cases c1 : p ∈ L
  · rw [yre, if_pos (Or.inr (Or.inr c1))]
    exact ⟨hL, fun v => ⟨Or.inl, fun h => h.elim id fun q => q.1 ▸ c1⟩⟩
  have c2 : ¬ 120 ≤ L.length := by
    intro q
    have h0 : zun n (fun r => decide (r ∈ L)) = 0 := by have := hL.1; omega
    exact c1 (of_decide_eq_true (zun_zero n h0 p (by omega) hp))
  have e : yre p L = L ++ [p] := by
    rw [yre, if_neg]
    intro q
    rcases q with q | q | q
    · exact c0 q
    · exact c2 q
    · exact c1 q
  rw [e]
  refine ⟨⟨?_, fun v hv => ?_⟩, fun v => ?_⟩
  · have e2 : (fun r => decide (r ∈ L ++ [p])) = zset (fun r => decide (r ∈ L)) p := by
      funext r
      unfold zset
      by_cases a : r = p
      · rw [decide_eq_true a, Bool.true_or]
        exact decide_eq_true (by rw [a]; exact List.mem_append_right _ List.mem_cons_self)
      · rw [decide_eq_false a, Bool.false_or]
        by_cases a2 : r ∈ L
        · exact (decide_eq_true (List.mem_append_left _ a2)).trans (decide_eq_true a2).symm
        · refine (decide_eq_false fun q => ?_).trans (decide_eq_false a2).symm
          rcases List.mem_append.mp q with q | q
          · exact a2 q
          · exact a (List.mem_singleton.mp q)
    rw [e2]
    have := (zun_set (S := fun r => decide (r ∈ L)) (p := p) n).1 hp (by omega) (decide_eq_false c1)
    have h1 := hL.1
    rw [List.length_append, List.length_singleton]
    omega
  · rcases List.mem_append.mp hv with q | q
    · exact hL.2 v q
    · rw [List.mem_singleton.mp q]
      omega
  · constructor
    · intro q
      rcases List.mem_append.mp q with q | q
      · exact Or.inl q
      · exact Or.inr ⟨List.mem_singleton.mp q, c0⟩
    · intro q
      rcases q with q | q
      · exact List.mem_append_left _ q
      · rw [q.1]
        exact List.mem_append_right _ List.mem_cons_self
theorem inner_tar {X : jX} {Y : jY} (hXY : jXY X Y) (hW : xWF X) (hS : xRes X) {i : Nat} (h1 : 1 ≤ i) (h2 : i ≤ vN Y) (hk : vK Y i = Int32.ofNat 11) : xtar X i = zpo Y i := by
  rw [tar_eq hXY hW hS h1 h2]
  unfold zres zpo
  rw [hk, if_neg (by decide), if_neg (by decide), if_neg (by decide), if_pos rfl, if_neg (by omega)]
theorem yrw_ls {X : jX} {Y : jY} (hXY : jXY X Y) (hW : xWF X) (hS : xRes X) {v : Nat} : ∀ (d j : Nat) (L : List Nat), j + d = vN Y → yls (vN Y) L → yls (vN Y) (yrw X v d j L) ∧ (∀ x, x ∈ L → x ∈ yrw X v d j L) ∧ (∀ x, x ∈ yrw X v d j L → x ∈ L ∨ ∃ i, 1 ≤ i ∧ i ≤ vN Y ∧ vK Y i = Int32.ofNat 11 ∧ vB Y i = v ∧ zpo Y i ≠ 0 ∧ x = zpo Y i) ∧ (∀ i, j < i → i ≤ vN Y → vK Y i = Int32.ofNat 11 → vB Y i = v → zpo Y i ≠ 0 → zpo Y i ∈ yrw X v d j L) ∧ ∀ k, k < L.length → (yrw X v d j L).getD k 0 = L.getD k 0
  | 0, j, L, hj, hL => ⟨hL, fun x h => h, fun x h => Or.inl h, fun i h1 h2 => by omega, fun k hk => rfl⟩
  | d + 1, j, L, hj, hL => by
    have hn : vN Y ≤ 120 := by have := hW.1; rw [hXY.1] at this; exact this
    obtain ⟨k, k1, k2, k3, k4, k5, k6⟩ := val_kind hXY (r := j + 1) (by omega) (by omega)
    have ki := kind_iff hXY (r := j + 1) (by omega) (by omega) 11 (by decide) (by decide)
    simp only [kb] at ki
    unfold yrw
    by_cases c : vK Y (j + 1) = Int32.ofNat 11 ∧ vB Y (j + 1) = v
    · rw [if_pos ⟨by rw [ki]; exact c.1, by rw [k5]; exact c.2⟩, inner_tar hXY hW hS (by omega) (by omega) c.1]
      obtain ⟨l1, l2⟩ := yre_ls hn hL (zpo_le' (Y := Y) (q := j + 1))
      obtain ⟨i1, i2, i3, i4, i5⟩ := yrw_ls hXY hW hS (v := v) d (j + 1) (yre (zpo Y (j + 1)) L) (by omega) l1
      refine ⟨i1, fun x h => i2 x ((l2 x).mpr (Or.inl h)), fun x h => ?_, fun i h1 h2 a1 a2 a3 => ?_, fun k hk => ?_⟩
      · rcases i3 x h with h | h
        · rcases (l2 x).mp h with h | ⟨h, h'⟩
          · exact Or.inl h
          · exact Or.inr ⟨j + 1, by omega, by omega, c.1, c.2, h', h⟩
        · exact Or.inr h
      · by_cases e : i = j + 1
        · subst e
          exact i2 _ ((l2 _).mpr (Or.inr ⟨rfl, a3⟩))
        · exact i4 i (by omega) h2 a1 a2 a3
      · rw [i5 k (Nat.lt_of_lt_of_le hk (yre_len _ _)), yre_at hk]
    · rw [if_neg (fun q => c ⟨by rw [← ki]; exact q.1, by rw [← k5]; exact q.2⟩)]
      obtain ⟨i1, i2, i3, i4, i5⟩ := yrw_ls hXY hW hS (v := v) d (j + 1) L (by omega) hL
      refine ⟨i1, i2, i3, fun i h1 h2 a1 a2 a3 => ?_, i5⟩
      by_cases e : i = j + 1
      · subst e
        exact absurd ⟨a1, a2⟩ c
      · exact i4 i (by omega) h2 a1 a2 a3
theorem yri_iff {X : jX} {Y : jY} (hXY : jXY X Y) (hW : xWF X) (hS : xRes X) {q b : Nat} : ∀ (d i : Nat) (L : List Nat), i + d = 121 → yls (vN Y) L → q ∈ L → (∀ x, x ∈ L → zRc Y q x) → (∀ k, k < i → k < L.length → L.getD k 0 ≠ b ∧ ∀ r, 1 ≤ r → r ≤ vN Y → vK Y r = Int32.ofNat 11 → vB Y r = L.getD k 0 → zpo Y r ≠ 0 → zpo Y r ∈ L) → (yri X b d i L = true ↔ zRc Y q b) := by
  have hn : vN Y ≤ 120 := by have := hW.1; rw [hXY.1] at this; exact this
  have fin : ∀ (i : Nat) (L : List Nat), L.length ≤ i → yls (vN Y) L → q ∈ L → (∀ k, k < i → k < L.length → L.getD k 0 ≠ b ∧ ∀ r, 1 ≤ r → r ≤ vN Y → vK Y r = Int32.ofNat 11 → vB Y r = L.getD k 0 → zpo Y r ≠ 0 → zpo Y r ∈ L) → ¬ zRc Y q b := by
    intro i L hi hL hq hk h
    have hb : b ∈ L := by
      refine h (fun x => x ∈ L) hq fun r h1 h2 a1 a2 a3 => ?_
      obtain ⟨k, hkl, hke⟩ := List.mem_iff_getElem.mp a2
      exact (hk k (by omega) hkl).2 r h1 h2 a1 (by rw [getD_get hkl, hke]) a3
    obtain ⟨k, hkl, hke⟩ := List.mem_iff_getElem.mp hb
    exact (hk k (by omega) hkl).1 (by rw [getD_get hkl, hke])
  intro d
  induction d with
  | zero =>
    intro i L hi hL hq hs hk
    unfold yri
    have hl : L.length ≤ 120 := by have := hL.1; omega
    exact ⟨fun h => absurd h (by decide), fun h => absurd h (fin i L (by omega) hL hq hk)⟩
  | succ d ih =>
    intro i L hi hL hq hs hk
    unfold yri
    by_cases c : i < L.length
    · rw [if_pos c]
      have hm : L.getD i 0 ∈ L := by rw [getD_get c]; exact List.getElem_mem c
      by_cases c2 : L.getD i 0 = b
      · rw [if_pos c2]
        exact ⟨fun _ => c2 ▸ hs _ hm, fun _ => rfl⟩
      · rw [if_neg c2, hXY.1]
        obtain ⟨i1, i2, i3, i4, i5⟩ := yrw_ls hXY hW hS (v := L.getD i 0) (vN Y) 0 L (by omega) hL
        refine ih (i + 1) _ (by omega) i1 (i2 q hq) (fun x hx => ?_) (fun k hk1 hk2 => ?_)
        · rcases i3 x hx with h | ⟨r, r1, r2, r3, r4, r5, r6⟩
          · exact hs x h
          · rw [r6]
            exact zRc_step r1 r2 r3 (by rw [r4]; exact hs _ hm) r5
        · by_cases e : k = i
          · subst e
            rw [i5 k c]
            exact ⟨c2, fun r r1 r2 r3 r4 r5 => i4 r (by omega) r2 r3 r4 r5⟩
          · have hkl : k < L.length := by omega
            rw [i5 k hkl]
            have := hk k (by omega) hkl
            exact ⟨this.1, fun r r1 r2 r3 r4 r5 => i2 _ (this.2 r r1 r2 r3 r4 r5)⟩
    · rw [if_neg c]
      exact ⟨fun h => absurd h (by decide), fun h => absurd h (fin i L (by omega) hL hq hk)⟩
theorem ring_eq {X : jX} {Y : jY} (hXY : jXY X Y) (hW : xWF X) (hS : xRes X) {r : Nat} (h1 : 1 ≤ r) (h2 : r ≤ vN Y) (hk : vK Y r = Int32.ofNat 11) (hz : zpo Y r ≠ 0) : yWI X r = zRI Y r := by
  have hn : vN Y ≤ 120 := by have := hW.1; rw [hXY.1] at this; exact this
  have hp := zpo_le' (Y := Y) (q := r)
  unfold yWI zRI
  rw [if_neg hz, inner_tar hXY hW hS h1 h2 hk, block_eq hXY h1 h2]
  have h0 : yls (vN Y) [] := ⟨by rw [zun_nil]; rfl, fun v hv => absurd hv List.not_mem_nil⟩
  obtain ⟨l1, l2⟩ := yre_ls hn h0 hp
  have a := yri_iff hXY hW hS (q := zpo Y r) (b := vB Y r) 121 0 (yre (zpo Y r) []) (by omega) l1 ((l2 _).mpr (Or.inr ⟨rfl, hz⟩)) (fun x hx => by
    rcases (l2 x).mp hx with h | h
    · exact absurd h List.not_mem_nil
    · rw [h.1]; exact fun S s1 _ => s1) (fun k hk => by omega)
  have b := ring_ref (Y := Y) (q := zpo Y r) (b := vB Y r)
  exact Bool.eq_iff_iff.mpr (a.trans b.symm)
theorem chk_row {X : jX} {Y : jY} (hXY : jXY X Y) (hW : xWF X) (hS : xRes X) (hB : jBk Y) {r : Nat} (h1 : 1 ≤ r) (h2 : r ≤ vN Y) : yLB X r = zfr Y r 10 1 := by
  have eo : zfr Y r 10 1 = cond (zGV Y r) 1 (cond (zNA Y r) 2 (cond (zBR Y r 3) 3 (cond (zBR Y r 4) 4 (cond (zWA Y r) 5 (cond (zBR Y r 6) 6 (cond (zBR Y r 7) 7 (cond (zBR Y r 8) 8 (cond (zBR Y r 9) 9 (cond (zBR Y r 10) 10 0))))))))) := rfl
  rw [eo]
  unfold yLB
  rw [gb_eq hXY hW hB h1 h2]
  cases zGV Y r
  case true => rw [if_pos rfl]; rfl
  rw [if_neg (by decide), cond_false]
  have ht := tar_eq hXY hW hS h1 h2
  obtain ⟨k, k1, k2, k3, k4, k5, k6⟩ := val_kind hXY h1 h2
  have plain : ∀ c : Nat, c < 14 → vK Y r = Int32.ofNat c → c ≠ 2 → c ≠ 10 → c ≠ 11 → c ≠ 12 → zBR Y r 3 = false ∧ zBR Y r 4 = false ∧ zWA Y r = false ∧ zBR Y r 6 = false ∧ zBR Y r 7 = false ∧ zBR Y r 8 = false ∧ zBR Y r 9 = false ∧ zBR Y r 10 = false := by
    intro c hc e q2 q10 q11 q12
    have n : ∀ x : Nat, x < 14 → c ≠ x → ¬ vK Y r = Int32.ofNat x := fun x hx hq => by rw [vK_num e hc hx]; exact hq
    unfold zBR zWA
    rw [decide_eq_false (n 2 (by decide) q2), decide_eq_false (n 10 (by decide) q10), decide_eq_false (n 11 (by decide) q11), decide_eq_false (n 12 (by decide) q12), if_neg (n 10 (by decide) q10), if_neg (n 12 (by decide) q12)]
    exact ⟨rfl, rfl, rfl, rfl, rfl, rfl, rfl, rfl⟩
  rw [k3]
  match k, k1, k2 with
  | 1, _, _ =>
    obtain ⟨p3, p4, p5, p6, p7, p8, p9, p10⟩ := plain 1 (by decide) k4 (by decide) (by decide) (by decide) (by decide)
    rw [p3, p4, p5, p6, p7, p8, p9, p10]
    unfold zNA
    rw [k4]
    rfl
  | 3, _, _ =>
    obtain ⟨p3, p4, p5, p6, p7, p8, p9, p10⟩ := plain 3 (by decide) k4 (by decide) (by decide) (by decide) (by decide)
    rw [p3, p4, p5, p6, p7, p8, p9, p10]
    unfold zNA
    rw [k4]
    rfl
  | 4, _, _ =>
    obtain ⟨p3, p4, p5, p6, p7, p8, p9, p10⟩ := plain 4 (by decide) k4 (by decide) (by decide) (by decide) (by decide)
    rw [p3, p4, p5, p6, p7, p8, p9, p10]
    unfold zNA
    rw [k4]
    rfl
  | 5, _, _ =>
    obtain ⟨p3, p4, p5, p6, p7, p8, p9, p10⟩ := plain 5 (by decide) k4 (by decide) (by decide) (by decide) (by decide)
    rw [p3, p4, p5, p6, p7, p8, p9, p10]
    unfold zNA
    rw [k4]
    rfl
  | 13, _, _ =>
    obtain ⟨p3, p4, p5, p6, p7, p8, p9, p10⟩ := plain 13 (by decide) k4 (by decide) (by decide) (by decide) (by decide)
    rw [p3, p4, p5, p6, p7, p8, p9, p10]
    unfold zNA
    rw [k4]
    rfl
  | 6, _, _ =>
    obtain ⟨p3, p4, p5, p6, p7, p8, p9, p10⟩ := plain 6 (by decide) k4 (by decide) (by decide) (by decide) (by decide)
    rw [p3, p4, p5, p6, p7, p8, p9, p10, if_neg (by decide), if_pos (by decide)]
    have hr : zres Y r = zme Y 1 0 (vSe Y r) := by
      unfold zres
      rw [k4, if_neg (by decide), if_pos (by decide)]
    have hn : zNA Y r = decide (zme Y 1 0 (vSe Y r) = 0) := by
      unfold zNA
      rw [k4, if_neg (by decide), if_pos (by decide)]
    unfold yTG
    rw [ht, hr, hn]
    by_cases c : zme Y 1 0 (vSe Y r) = 0
    · rw [if_pos c, decide_eq_true c]; rfl
    · rw [if_neg c, decide_eq_false c]; rfl
  | 9, _, _ =>
    obtain ⟨p3, p4, p5, p6, p7, p8, p9, p10⟩ := plain 9 (by decide) k4 (by decide) (by decide) (by decide) (by decide)
    rw [p3, p4, p5, p6, p7, p8, p9, p10, if_neg (by decide), if_neg (by decide), if_neg (by decide), if_neg (by decide), if_pos (by decide)]
    have hr : zres Y r = zme Y 1 0 (vSe Y r) := by
      unfold zres
      rw [k4, if_neg (by decide), if_pos (by decide)]
    have hn : zNA Y r = decide (zme Y 1 0 (vSe Y r) = 0) := by
      unfold zNA
      rw [k4, if_neg (by decide), if_neg (by decide), if_neg (by decide), if_neg (by decide), if_pos (by decide)]
    unfold yTG
    rw [ht, hr, hn]
    by_cases c : zme Y 1 0 (vSe Y r) = 0
    · rw [if_pos c, decide_eq_true c]; rfl
    · rw [if_neg c, decide_eq_false c]; rfl
  | 7, _, _ =>
    obtain ⟨p3, p4, p5, p6, p7, p8, p9, p10⟩ := plain 7 (by decide) k4 (by decide) (by decide) (by decide) (by decide)
    rw [p3, p4, p5, p6, p7, p8, p9, p10, if_neg (by decide), if_neg (by decide), if_pos (by decide)]
    have hr : zres Y r = zme Y 2 0 (vSe Y r) := by
      unfold zres
      rw [k4, if_neg (by decide), if_neg (by decide), if_pos (by decide)]
    have hn : zNA Y r = decide (zme Y 2 0 (vSe Y r) = 0) := by
      unfold zNA zif
      rw [k4, if_neg (by decide), if_neg (by decide), if_pos (by decide), if_neg (by omega : ¬ r = 0)]
    unfold yTG
    rw [ht, hr, hn]
    by_cases c : zme Y 2 0 (vSe Y r) = 0
    · rw [if_pos c, decide_eq_true c]; rfl
    · rw [if_neg c, decide_eq_false c]; rfl
  | 8, _, _ =>
    obtain ⟨p3, p4, p5, p6, p7, p8, p9, p10⟩ := plain 8 (by decide) k4 (by decide) (by decide) (by decide) (by decide)
    rw [p3, p4, p5, p6, p7, p8, p9, p10, if_neg (by decide), if_neg (by decide), if_neg (by decide), if_pos (by decide)]
    have hr : zres Y r = zme Y 2 0 (vSe Y r) := by
      unfold zres
      rw [k4, if_neg (by decide), if_neg (by decide), if_pos (by decide)]
    have hn : zNA Y r = decide (zme Y 2 0 (vSe Y r) = 0) := by
      unfold zNA zif
      rw [k4, if_neg (by decide), if_neg (by decide), if_neg (by decide), if_pos (by decide), if_neg (by omega : ¬ r = 0)]
    unfold yTG
    rw [ht, hr, hn]
    by_cases c : zme Y 2 0 (vSe Y r) = 0
    · rw [if_pos c, decide_eq_true c]; rfl
    · rw [if_neg c, decide_eq_false c]; rfl
  | 2, _, _ =>
    rw [if_pos (by decide)]
    obtain ⟨a1, a2, a3⟩ := k6.2.2.1 (by decide)
    have hr : zres Y r = zme Y 0 0 (vSe Y r) := by
      unfold zres
      rw [k4, if_pos (by decide)]
    have hn : zNA Y r = decide (zme Y 0 0 (vSe Y r) = 0) := by
      unfold zNA
      rw [k4, if_pos (by decide)]
    have hw : zWA Y r = false := by
      unfold zWA
      rw [k4, if_neg (by decide), if_neg (by decide)]
    unfold yTY zBR
    rw [ht, ← a1, ← a2, hr, hn, hw, k4]
    by_cases c : zme Y 0 0 (vSe Y r) = 0
    · rw [if_pos c, decide_eq_true c]; rfl
    · rw [if_neg c, decide_eq_false c]
      by_cases c2 : vHi Y r < vLo Y r
      · rw [if_pos c2, decide_eq_true c2]; rfl
      · rw [if_neg c2, decide_eq_false c2]; rfl
  | 10, _, _ =>
    rw [if_neg (by decide), if_neg (by decide), if_neg (by decide), if_neg (by decide), if_neg (by decide), if_pos (by decide), run_eq hXY hW hS hB h1 h2 k4]
    have hn : zNA Y r = zNR Y r := by
      unfold zNA
      rw [k4, if_neg (by decide), if_neg (by decide), if_neg (by decide), if_neg (by decide), if_neg (by decide), if_pos (by decide)]
    have hw : zWA Y r = jor (zWP Y r) (vAM Y r) (vAA Y r) false := by
      unfold zWA
      rw [k4, if_pos (by decide)]
    unfold zBR
    rw [hn, hw, k4]
    cases zNR Y r <;> cases decide (vTr Y r = Int32.ofNat 0) <;> cases jor (zWP Y r) (vAM Y r) (vAA Y r) false <;> rfl
  | 11, _, _ =>
    rw [if_neg (by decide), if_neg (by decide), if_neg (by decide), if_neg (by decide), if_neg (by decide), if_neg (by decide), if_neg (by decide), if_pos (by decide)]
    have hn : zNA Y r = decide (zpo Y r = 0) := by
      unfold zNA
      rw [k4, if_neg (by decide), if_neg (by decide), if_neg (by decide), if_neg (by decide), if_neg (by decide), if_neg (by decide), if_pos (by decide)]
    have hw : zWA Y r = false := by
      unfold zWA
      rw [k4, if_neg (by decide), if_neg (by decide)]
    unfold yIN zBR
    rw [inner_tar hXY hW hS h1 h2 k4, hn, hw, k4]
    by_cases c : zpo Y r = 0
    · rw [if_pos c, decide_eq_true c]; rfl
    · rw [if_neg c, decide_eq_false c, ring_eq hXY hW hS h1 h2 k4 c]
      cases zRI Y r <;> rfl
  | 12, _, _ =>
    rw [if_neg (by decide), if_neg (by decide), if_neg (by decide), if_neg (by decide), if_neg (by decide), if_neg (by decide), if_pos (by decide), con_eq hXY hW hS hB h1 h2 k4]
    unfold zBR
    rw [k4]
    cases zNA Y r <;> cases zWA Y r <;> cases zDA Y r 6 <;> cases zDA Y r 7 <;> cases zDA Y r 8 <;> cases zTW Y r <;> rfl
  | k + 14, _, q => exact absurd q (by omega)
theorem chk_eq {X : jX} {Y : jY} (hXY : jXY X Y) (hW : xWF X) (hS : xRes X) (hB : jBk Y) : ∀ d j : Nat, j + d = vN Y → yFB X d j = zck Y d j
  | 0, _, _ => rfl
  | d + 1, j, hj => by
    unfold yFB zck
    rw [chk_row hXY hW hS hB (by omega) (by omega), chk_eq hXY hW hS hB d (j + 1) (by omega), Nat.mul_comm]
