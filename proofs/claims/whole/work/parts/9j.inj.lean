/-! ROWS ARE ALIKE WHEN THEIR TEXTS ARE -/
def noSp (l : List Int32) : Prop := ∀ x, x ∈ l → x ≠ Int32.ofNat 32
def endS (l : List Int32) : Prop := l = [] ∨ ∃ y, l = Int32.ofNat 32 :: y
theorem sp_split : ∀ (a b : List Int32) {x y : List Int32}, noSp a → noSp b → endS x → endS y → a ++ x = b ++ y → a = b ∧ x = y
  | [], [], x, y, _, _, _, _, e => ⟨rfl, e⟩
  | [], d :: b, x, y, _, hb, hx, _, e => by
    have e' : x = d :: (b ++ y) := e
    rcases hx with z | ⟨w, z⟩
    · rw [z] at e'
      cases e'
    · rw [z] at e'
      exact absurd (List.cons.inj e').1.symm (hb d (List.mem_cons_self ..))
  | c :: a, [], x, y, ha, _, _, hy, e => by
    have e' : c :: (a ++ x) = y := e
    rcases hy with z | ⟨w, z⟩
    · rw [z] at e'
      cases e'
    · rw [z] at e'
      exact absurd (List.cons.inj e').1 (ha c (List.mem_cons_self ..))
  | c :: a, d :: b, x, y, ha, hb, hx, hy, e => by
    have e' : c :: (a ++ x) = d :: (b ++ y) := e
    obtain ⟨e1, e2⟩ := List.cons.inj e'
    obtain ⟨r1, r2⟩ := sp_split a b (fun z hz => ha z (List.mem_cons_of_mem _ hz)) (fun z hz => hb z (List.mem_cons_of_mem _ hz)) hx hy e2
    exact ⟨by rw [e1, r1], r2⟩
theorem jt_end {wn : Nat → Int64} {X : jX} (L : List (Int32 × Int32)) : endS (jt wn X L) := by
  cases L with
  | nil => exact Or.inl rfl
  | cons t L => exact Or.inr ⟨_, rfl⟩
theorem k_wd : ∀ r : Nat, r < 10 → wdig (Int32.ofNat (48 + r)) = true := by decide +kernel
theorem dg_all (n : Nat) : (dg100000 n).all wdig = true := by
  have k : ∀ a : Nat, wdig (Int32.ofNat (48 + a % 10)) = true := fun a => k_wd _ (Nat.mod_lt _ (by decide))
  unfold dg100000 dg10000 dg1000 dg100 dg10 dg1
  repeat' split
  all_goals simp only [List.all_cons, List.all_nil, k, Bool.and_true]
def dval (l : List Int32) : Nat := l.foldl (fun v x => 10 * v + (x.toNatClampNeg - 48)) 0
theorem dval_dg {n : Nat} (h : n < 1000000) : dval (dg100000 n) = n := by
  have k : ∀ a : Nat, (Int32.ofNat (48 + a % 10)).toNatClampNeg = 48 + a % 10 := fun a => i_cl (by have := Nat.mod_lt a (y := 10) (by decide); omega)
  unfold dval dg100000 dg10000 dg1000 dg100 dg10 dg1
  repeat' split
  all_goals simp only [List.foldl_cons, List.foldl_nil, k]
  all_goals omega
theorem dg_inj {n m : Nat} (hn : n < 1000000) (hm : m < 1000000) (e : dg100000 n = dg100000 m) : n = m := by
  rw [← dval_dg hn, e, dval_dg hm]
/-- the sort of an octet -/
def cl (x : Int32) : Nat := if wlet x = true then 1 else if wdig x = true then 2 else if x = Int32.ofNat 45 then 3 else 4
theorem cl_dig {x : Int32} (h : wdig x = true) : cl x = 2 ∧ x ≠ Int32.ofNat 32 := by
  obtain ⟨n, hn, rfl⟩ := waln_oct (x := x) (by unfold waln; rw [h, Bool.or_true])
  have : ∀ n : Nat, n < 256 → wdig (Int32.ofNat n) = true → cl (Int32.ofNat n) = 2 ∧ Int32.ofNat n ≠ Int32.ofNat 32 := by decide +kernel
  exact this n hn h
theorem aln_ns {l : List Int32} (h : aln l) : noSp l := by
  intro x hx e
  have : waln x = true := List.all_eq_true.mp h x hx
  rw [e] at this
  exact absurd this (by decide)
theorem dg_ns (n : Nat) : noSp (dg100000 n) := by
  intro x hx
  exact (cl_dig (List.all_eq_true.mp (dg_all n) x hx)).2
theorem rsg_cl {x : Int32} (h : rsg x = true) (h45 : x ≠ Int32.ofNat 45) : cl x = 4 ∧ x ≠ Int32.ofNat 32 := by
  unfold rsg at h
  simp only [Bool.or_eq_true, decide_eq_true_eq] at h
  rcases h with h | h | h | h | h | h | h | h
  all_goals first
    | (exact absurd h h45)
    | (rw [h]; decide)
/-- a token's text, by its sort -/
def tfm (X : jX) (t : Int32 × Int32) (l : List Int32) : Prop := (aln l ∧ l ≠ [] ∧ l.length ≤ 12 ∧ wlet (l.getD 0 0) = true ∧ (t.1 = Int32.ofNat 1 ∧ (∃ j : Nat, j < 16 ∧ t.2 = Int32.ofNat (2 ^ j) ∧ l = Wd j) ∨ t.1 = Int32.ofNat 2 ∧ wix l = 0 ∧ xnameR X t.2 = Int64.ofNat (lcd l))) ∨ (t.1 = Int32.ofNat 3 ∧ ∃ n : Nat, n < 1000000 ∧ t.2 = Int32.ofNat n ∧ l = dg100000 n) ∨ (t.1 = Int32.ofNat 3 ∧ ∃ n : Nat, n < 1000000 ∧ t.2 = -(Int32.ofNat n) ∧ l = Int32.ofNat 45 :: Int32.ofNat 32 :: dg100000 n) ∨ (t.1 = Int32.ofNat 4 ∧ l = [t.2] ∧ rsg t.2 = true ∧ t.2 ≠ Int32.ofNat 45)
theorem k_Wl : ∀ j : Nat, j < 16 → wlet ((Wd j).getD 0 0) = true := by decide +kernel
theorem tk_form {wn : Nat → Int64} {X : jX} (hw : wnOk wn) (hN : xNc X ≤ 1000) (nt : ∀ i : Nat, i < xNc X → ∃ l : List Int32, l ≠ [] ∧ aln l ∧ l.length ≤ 12 ∧ nmG l ∧ xNa X i = Int64.ofNat (lcd l)) {L : List (Int32 × Int32)} (hL : tkL (xNc X) L) {t : Int32 × Int32} (ht : t ∈ L) : tfm X t (tkt wn X t) := by
  obtain ⟨v2, v3, v1, v4, v⟩ := hL t ht
  unfold tfm tkt
  rcases v with e | e | e | e
  · obtain ⟨j, j1, j2⟩ := v1 e
    have k := k_Wd j j1
    rw [if_pos e, j2, wname_at j1, hw j j1, noR_lcd (Wd_aln j1) k.2.1 k.2.2.2]
    exact Or.inl ⟨Wd_aln j1, k.2.2.2, k.2.1, k_Wl j j1, Or.inl ⟨e, j, j1, rfl, rfl⟩⟩
  · obtain ⟨i, i1, i2, i3⟩ := v2 e
    obtain ⟨l, l1, l2, l3, l4, l5⟩ := nt (i - 1) (by omega)
    rw [if_neg (by rw [e]; decide), if_pos e, i3, xnameR_ok i1 i2 hN, l5, noR_lcd l2 l3 l1]
    exact Or.inl ⟨l2, l1, l3, l4.2, Or.inr ⟨e, l4.1, rfl⟩⟩
  · obtain ⟨n, n1, n2⟩ := v3 e
    rw [if_neg (by rw [e]; decide), if_neg (by rw [e]; decide), if_pos e]
    unfold numO
    rcases n2 with z | ⟨z1, z⟩
    · rw [z, if_neg (by rw [i_lt (by omega) (by decide)]; omega), i_cl (by omega)]
      exact Or.inr (Or.inl ⟨e, n, n1, rfl, rfl⟩)
    · have ng := i_negp z1 n1
      rw [z, if_pos ng.1, ng.2, i_cl (by omega)]
      exact Or.inr (Or.inr (Or.inl ⟨e, n, n1, rfl, rfl⟩))
  · rw [if_neg (by rw [e]; decide), if_neg (by rw [e]; decide), if_neg (by rw [e]; decide)]
    exact Or.inr (Or.inr (Or.inr ⟨e, rfl, (v4 e).1, (v4 e).2⟩))
theorem tfm_hd {X : jX} {t : Int32 × Int32} {l : List Int32} (h : tfm X t l) : ∃ x r, l = x :: r ∧ (cl x = 1 ∧ noSp l ∧ aln l ∧ l.length ≤ 12 ∧ (t.1 = Int32.ofNat 1 ∧ (∃ j : Nat, j < 16 ∧ t.2 = Int32.ofNat (2 ^ j) ∧ l = Wd j) ∨ t.1 = Int32.ofNat 2 ∧ wix l = 0 ∧ xnameR X t.2 = Int64.ofNat (lcd l)) ∨ cl x = 2 ∧ noSp l ∧ t.1 = Int32.ofNat 3 ∧ (∃ n : Nat, n < 1000000 ∧ t.2 = Int32.ofNat n ∧ l = dg100000 n) ∨ cl x = 3 ∧ t.1 = Int32.ofNat 3 ∧ (∃ n : Nat, n < 1000000 ∧ t.2 = -(Int32.ofNat n) ∧ l = Int32.ofNat 45 :: Int32.ofNat 32 :: dg100000 n) ∨ cl x = 4 ∧ noSp l ∧ t.1 = Int32.ofNat 4 ∧ l = [t.2]) := by
  rcases h with ⟨a1, a2, a3, a4, a5⟩ | ⟨a1, n, a2, a3, a4⟩ | ⟨a1, n, a2, a3, a4⟩ | ⟨a1, a2, a3, a4⟩
  · cases l with
    | nil => exact absurd rfl a2
    | cons x r => exact ⟨x, r, rfl, Or.inl ⟨if_pos a4, aln_ns a1, a1, a3, a5⟩⟩
  · have h1 := dg_pos n
    have h2 := dg_all n
    have h3 := dg_ns n
    rw [← a4] at h1 h2 h3
    cases l with
    | nil => exact absurd h1 (by decide)
    | cons x r => exact ⟨x, r, rfl, Or.inr (Or.inl ⟨(cl_dig (List.all_eq_true.mp h2 x (List.mem_cons_self ..))).1, h3, a1, n, a2, a3, a4⟩)⟩
  · exact ⟨_, _, a4, Or.inr (Or.inr (Or.inl ⟨by decide, a1, n, a2, a3, a4⟩))⟩
  · refine ⟨_, _, a2, Or.inr (Or.inr (Or.inr ⟨(rsg_cl a3 a4).1, ?_, a1, a2⟩))⟩
    intro x hx
    rw [a2] at hx
    rw [List.mem_singleton.mp hx]
    exact (rsg_cl a3 a4).2
def smt (X Z : jX) (t u : Int32 × Int32) : Prop := t.1 = u.1 ∧ (if t.1 = Int32.ofNat 2 then xnameR X t.2 = xnameR Z u.2 else t.2 = u.2)
theorem tkt_inj {X Z : jX} {t u : Int32 × Int32} {l m x y : List Int32} (h1 : tfm X t l) (h2 : tfm Z u m) (hx : endS x) (hy : endS y) (e : l ++ x = m ++ y) : smt X Z t u ∧ x = y := by
  obtain ⟨c, r, el, f1⟩ := tfm_hd h1
  obtain ⟨d, s, em, f2⟩ := tfm_hd h2
  have ecd : c = d := by
    rw [el, em] at e
    exact (List.cons.inj e).1
  rw [ecd] at f1
  rcases f1 with ⟨a1, a2, a3, a4, a5⟩ | ⟨a1, a2, a3, n, a4, a5, a6⟩ | ⟨a1, a2, n, a3, a4, a5⟩ | ⟨a1, a2, a3, a4⟩ <;> rcases f2 with ⟨b1, b2, b3, b4, b5⟩ | ⟨b1, b2, b3, k, b4, b5, b6⟩ | ⟨b1, b2, k, b3, b4, b5⟩ | ⟨b1, b2, b3, b4⟩
  all_goals first
    | (exfalso; omega)
    | skip
  · obtain ⟨z1, z2⟩ := sp_split l m a2 b2 hx hy e
    refine ⟨?_, z2⟩
    subst z1
    rcases a5 with ⟨p1, j, p2, p3, p4⟩ | ⟨p1, p2, p3⟩ <;> rcases b5 with ⟨q1, i, q2, q3, q4⟩ | ⟨q1, q2, q3⟩
    · refine ⟨p1.trans q1.symm, ?_⟩
      rw [if_neg (by rw [p1]; decide), p3, q3]
      have : ∀ j : Nat, j < 16 → ∀ i : Nat, i < 16 → Wd j = Wd i → j = i := by decide +kernel
      rw [this j p2 i q2 (p4.symm.trans q4)]
    · exfalso
      rcases wix_spec l with ⟨-, w⟩ | ⟨i, i1, w, -⟩
      · exact w j p2 p4.symm
      · omega
    · exfalso
      rcases wix_spec l with ⟨-, w⟩ | ⟨i', i1, w, -⟩
      · exact w i q2 q4.symm
      · omega
    · refine ⟨p1.trans q1.symm, ?_⟩
      rw [if_pos p1, p3, q3]
  · obtain ⟨z1, z2⟩ := sp_split l m a2 b2 hx hy e
    refine ⟨⟨a3.trans b3.symm, ?_⟩, z2⟩
    rw [if_neg (by rw [a3]; decide), a5, b5]
    rw [dg_inj a4 b4 (by rw [← a6, ← b6]; exact z1)]
  · rw [a5, b5] at e
    have e2 : dg100000 n ++ x = dg100000 k ++ y := (List.cons.inj (List.cons.inj e).2).2
    obtain ⟨z1, z2⟩ := sp_split _ _ (dg_ns n) (dg_ns k) hx hy e2
    refine ⟨⟨a2.trans b2.symm, ?_⟩, z2⟩
    rw [if_neg (by rw [a2]; decide), a4, b4, dg_inj a3 b3 z1]
  · obtain ⟨z1, z2⟩ := sp_split l m a2 b2 hx hy e
    refine ⟨⟨a3.trans b3.symm, ?_⟩, z2⟩
    rw [if_neg (by rw [a3]; decide)]
    rw [a4, b4] at z1
    exact (List.cons.inj z1).1
theorem jt_inj {wn : Nat → Int64} {X Z : jX} : ∀ (L M : List (Int32 × Int32)), (∀ t, t ∈ L → tfm X t (tkt wn X t)) → (∀ t, t ∈ M → tfm Z t (tkt wn Z t)) → jt wn X L = jt wn Z M → L.length = M.length ∧ ∀ k : Nat, k < L.length → smt X Z (L.getD k (Int32.ofNat 6, Int32.ofNat 0)) (M.getD k (Int32.ofNat 6, Int32.ofNat 0))
  | [], [], _, _, _ => ⟨rfl, fun k hk => absurd hk (Nat.not_lt_zero _)⟩
  | [], u :: M, _, _, e => by cases e
  | t :: L, [], _, _, e => by cases e
  | t :: L, u :: M, h1, h2, e => by
    have e' : tkt wn X t ++ jt wn X L = tkt wn Z u ++ jt wn Z M := (List.cons.inj e).2
    obtain ⟨z1, z2⟩ := tkt_inj (h1 t (List.mem_cons_self ..)) (h2 u (List.mem_cons_self ..)) (jt_end L) (jt_end M) e'
    obtain ⟨y1, y2⟩ := jt_inj L M (fun w hw => h1 w (List.mem_cons_of_mem _ hw)) (fun w hw => h2 w (List.mem_cons_of_mem _ hw)) z2
    refine ⟨congrArg (· + 1) y1, fun k hk => ?_⟩
    cases k with
    | zero => exact z1
    | succ k => exact y2 k (Nat.lt_of_succ_lt_succ hk)
theorem jjn_inj {wn : Nat → Int64} {X Z : jX} {L M : List (Int32 × Int32)} (hL : L ≠ []) (hM : M ≠ []) (h1 : ∀ t, t ∈ L → tfm X t (tkt wn X t)) (h2 : ∀ t, t ∈ M → tfm Z t (tkt wn Z t)) (e : jjn wn X L = jjn wn Z M) : L.length = M.length ∧ ∀ k : Nat, k < L.length → smt X Z (L.getD k (Int32.ofNat 6, Int32.ofNat 0)) (M.getD k (Int32.ofNat 6, Int32.ofNat 0)) := by
  cases L with
  | nil => exact absurd rfl hL
  | cons t L =>
    cases M with
    | nil => exact absurd rfl hM
    | cons u M =>
      refine jt_inj (wn := wn) (t :: L) (u :: M) h1 h2 ?_
      exact congrArg (Int32.ofNat 32 :: ·) e
theorem smt_tkt {wn : Nat → Int64} {X Z : jX} {t u : Int32 × Int32} (h : smt X Z t u) : tkt wn X t = tkt wn Z u := by
  obtain ⟨h1, h2⟩ := h
  unfold tkt
  rw [← h1]
  by_cases c1 : t.1 = Int32.ofNat 1
  · rw [if_neg (by rw [c1]; decide)] at h2
    rw [if_pos c1, if_pos c1, h2]
  rw [if_neg c1, if_neg c1]
  by_cases c2 : t.1 = Int32.ofNat 2
  · rw [if_pos c2] at h2
    rw [if_pos c2, if_pos c2, h2]
  · rw [if_neg c2] at h2
    rw [if_neg c2, if_neg c2, h2]
theorem jt_same {wn : Nat → Int64} {X Z : jX} : ∀ (L M : List (Int32 × Int32)), L.length = M.length → (∀ k : Nat, k < L.length → smt X Z (L.getD k (Int32.ofNat 6, Int32.ofNat 0)) (M.getD k (Int32.ofNat 6, Int32.ofNat 0))) → jt wn X L = jt wn Z M
  | [], [], _, _ => rfl
  | [], _ :: _, e, _ => by cases e
  | _ :: _, [], e, _ => by cases e
  | t :: L, u :: M, e, h => by
    show Int32.ofNat 32 :: (tkt wn X t ++ jt wn X L) = Int32.ofNat 32 :: (tkt wn Z u ++ jt wn Z M)
    have h0 : smt X Z t u := h 0 (Nat.succ_pos _)
    rw [smt_tkt (wn := wn) h0, jt_same L M (Nat.succ.inj e) (fun k hk => h (k + 1) (Nat.succ_lt_succ hk))]
theorem jjn_same {wn : Nat → Int64} {X Z : jX} {L M : List (Int32 × Int32)} (e : L.length = M.length) (h : ∀ k : Nat, k < L.length → smt X Z (L.getD k (Int32.ofNat 6, Int32.ofNat 0)) (M.getD k (Int32.ofNat 6, Int32.ofNat 0))) : jjn wn X L = jjn wn Z M := by
  have z := jt_same (wn := wn) L M e h
  cases L with
  | nil => cases M with
    | nil => rfl
    | cons u M => cases e
  | cons t L => cases M with
    | nil => cases e
    | cons u M => exact (List.cons.inj z).2
