/-! THE MACHINE AS A FUNCTION. jx_H: a heap of ours (its size, the slots made, its cells by their addresses); jx_S: locals, operand stack, heap; jx_Q: method, pc, and such a state; jx_R: what a method answers, and the heap then. An op takes what goes on behind it (jx_K) and gives what goes on ahead of it. -/
abbrev jx_C : Type := (Nat × List Value) ⊕ (Nat × vp_A)
abbrev jx_H : Type := Nat × Nat × (Nat → Option jx_C)
abbrev jx_L : Type := List (Option Value)
abbrev jx_S : Type := jx_L × List Value × jx_H
abbrev jx_Q : Type := Nat × Nat × jx_S
abbrev jx_R : Type := Option Value × jx_H
abbrev jx_K : Type := jx_S → Option jx_R
abbrev jx_F : Type := jx_K → jx_K
/-- the end of a block: a branch; a jump; a switch; a call (method, how many arguments, where it goes on, the receiver's class); an answer -/
abbrev jx_T : Type := ((List Value → Option (Bool × List Value)) × Nat × Nat) ⊕ Nat ⊕ (Int32 → Nat) ⊕ (Nat × Nat × Nat × Option Nat) ⊕ (List Value → Option (Option Value))
def jx_up (f : Nat → Option jx_C) (a : Nat) (c : jx_C) : Nat → Option jx_C := fun q => if q = a then some c else f q
theorem jx_up_eq (f : Nat → Option jx_C) (a : Nat) (c : jx_C) : jx_up f a c a = some c := if_pos rfl
theorem jx_up_ne (f : Nat → Option jx_C) {a q : Nat} (c : jx_C) (h : q ≠ a) : jx_up f a c q = f q := if_neg h
/-- the locals with which a method begins -/
def jx_en : List Value → jx_L
  | [] => []
  | .long x :: l => some (.long x) :: none :: jx_en l
  | .double x :: l => some (.double x) :: none :: jx_en l
  | v :: l => some v :: jx_en l
def jx_ent (n : Nat) (av : List Value) : jx_L := jx_en av ++ List.replicate (n - (jx_en av).length) none
/-- the arguments off the stack (the first one lies lowest), and what lies below -/
def jx_args (n : Nat) (st : List Value) : Option (List Value × List Value) := if n ≤ st.length then some ((st.take n).reverse, st.drop n) else none
def jx_recv (h : jx_H) (av : List Value) (o : Option Nat) : Bool := match o with
  | none => true
  | some ci => match av with
    | .ref b :: _ => match h.2.2 b with
      | some (.inl (c, _)) => Nat.beq c ci
      | _ => false
    | _ => false
def jx_okc (n : Nat) (av rest : List Value) (h : jx_H) (o : Option Nat) : Bool := Nat.ble (jx_en av).length n && (Nat.ble (rest.map fun v => v.category).sum 8 && jx_recv h av o)
def jx_run : List jx_F → jx_K → jx_K
  | [], k => k
  | o :: os, k => o (jx_run os k)
def jx_term (nl : Nat → Nat) (f : jx_Q → Option jx_R) (m : Nat) (t : jx_T) : jx_K := fun s => match t with
  | .inl (c, L1, L2) => (c s.2.1).bind fun b => cond b.1 (f (m, L1, s.1, b.2, s.2.2)) (f (m, L2, s.1, b.2, s.2.2))
  | .inr (.inl L) => f (m, L, s)
  | .inr (.inr (.inl w)) => match s.2.1 with
    | .int x :: st => f (m, w x, s.1, st, s.2.2)
    | _ => none
  | .inr (.inr (.inr (.inl (y, n, L, o)))) => (jx_args n s.2.1).bind fun a => if jx_okc (nl y) a.1 a.2 s.2.2 o then (f (y, 0, jx_ent (nl y) a.1, [], s.2.2)).bind fun r => f (m, L, s.1, r.1.toList ++ a.2, r.2) else none
  | .inr (.inr (.inr (.inr g))) => (g s.2.1).bind fun v => some (v, s.2.2)
abbrev jx_B : Type := List jx_F × jx_T
def jx_body (nl : Nat → Nat) (tb : Nat → Nat → Option jx_B) (f : jx_Q → Option jx_R) : jx_Q → Option jx_R := fun q => (tb q.1 q.2.1).bind fun b => jx_run b.1 (jx_term nl f q.1 b.2) q.2.2
/-- more is known -/
def jx_le {α β : Type} (f g : α → Option β) : Prop := ∀ (a : α) (r : β), f a = some r → g a = some r
def jx_mono (o : jx_F) : Prop := ∀ k k' : jx_K, jx_le k k' → jx_le (o k) (o k')
theorem jx_run_mono : ∀ (os : List jx_F), (∀ o ∈ os, jx_mono o) → ∀ k k' : jx_K, jx_le k k' → jx_le (jx_run os k) (jx_run os k')
  | [], _, _, _, h => h
  | o :: os, ho, k, k', h => ho o List.mem_cons_self _ _ (jx_run_mono os (fun q hq => ho q (List.mem_cons_of_mem _ hq)) k k' h)
theorem jx_term_mono (nl : Nat → Nat) (m : Nat) (t : jx_T) (f f' : jx_Q → Option jx_R) (h : jx_le f f') : jx_le (jx_term nl f m t) (jx_term nl f' m t) := by
  intro s r hr
  rcases t with ⟨c, L1, L2⟩ | L | w | ⟨y, n, L, o⟩ | g
  · simp only [jx_term] at hr ⊢
    cases hc : c s.2.1 with
    | none => rw [hc] at hr; cases hr
    | some b =>
      rw [hc] at hr
      obtain ⟨b, st⟩ := b
      cases b
      · exact h _ _ hr
      · exact h _ _ hr
  · exact h _ _ hr
  · simp only [jx_term] at hr ⊢
    split at hr
    · exact h _ _ hr
    · cases hr
  · simp only [jx_term] at hr ⊢
    cases ha : jx_args n s.2.1 with
    | none => rw [ha] at hr; cases hr
    | some a =>
      rw [ha] at hr
      simp only [Option.bind_some] at hr ⊢
      by_cases hok : jx_okc (nl y) a.1 a.2 s.2.2 o = true
      · rw [if_pos hok] at hr ⊢
        cases hf : f (y, 0, jx_ent (nl y) a.1, [], s.2.2) with
        | none => rw [hf] at hr; cases hr
        | some v =>
          rw [hf] at hr
          rw [h _ _ hf]
          exact h _ _ hr
      · rw [if_neg hok] at hr
        cases hr
  · exact hr
def jx_good (tb : Nat → Nat → Option jx_B) : Prop := ∀ (m pc : Nat) (b : jx_B), tb m pc = some b → ∀ o ∈ b.1, jx_mono o
theorem jx_body_mono {nl : Nat → Nat} {tb : Nat → Nat → Option jx_B} (hg : jx_good tb) (f f' : jx_Q → Option jx_R) (h : jx_le f f') : jx_le (jx_body nl tb f) (jx_body nl tb f') := by
  intro q r hr
  unfold jx_body at hr ⊢
  cases hb : tb q.1 q.2.1 with
  | none => rw [hb] at hr; cases hr
  | some b =>
    rw [hb] at hr
    exact jx_run_mono b.1 (hg _ _ _ hb) _ _ (jx_term_mono nl q.1 b.2 f f' h) _ _ hr
theorem jx_rel {α : Type} {x y : Option α} : Lean.Order.PartialOrder.rel x y ↔ ∀ r, x = some r → y = some r := by
  constructor
  · intro h r hr
    cases h with
    | bot => cases hr
    | refl => exact hr
  · intro h
    cases x with
    | none => exact Lean.Order.FlatOrder.rel.bot
    | some r => rw [h r rfl]; exact Lean.Order.PartialOrder.rel_refl
theorem jx_body_monotone {nl : Nat → Nat} {tb : Nat → Nat → Option jx_B} (hg : jx_good tb) : Lean.Order.monotone (jx_body nl tb) := by
  intro f f' h q
  exact jx_rel.mpr (jx_body_mono hg f f' (fun a r hr => jx_rel.mp (h a) r hr) q)
/-- the function: the least that goes round -/
noncomputable def jx_fix (nl : Nat → Nat) (tb : Nat → Nat → Option jx_B) (hg : jx_good tb) : jx_Q → Option jx_R := Lean.Order.fix (jx_body nl tb) (jx_body_monotone hg)
theorem jx_fix_eq {nl : Nat → Nat} {tb : Nat → Nat → Option jx_B} (hg : jx_good tb) (q : jx_Q) : jx_fix nl tb hg q = jx_body nl tb (jx_fix nl tb hg) q := congrFun (Lean.Order.fix_eq (jx_body_monotone hg)) q
/-- what holds of every answer, by what goes round -/
theorem jx_fix_ind {nl : Nat → Nat} {tb : Nat → Nat → Option jx_B} (hg : jx_good tb) (P : jx_Q → jx_R → Prop) (h : ∀ f : jx_Q → Option jx_R, (∀ q r, f q = some r → P q r) → ∀ q r, jx_body nl tb f q = some r → P q r) : ∀ q r, jx_fix nl tb hg q = some r → P q r := by
  refine Lean.Order.fix_induct (jx_body_monotone hg) (fun f : jx_Q → Option jx_R => ∀ q r, f q = some r → P q r) ?_ ?_
  · exact Lean.Order.admissible_pi_apply (fun (q : jx_Q) (o : Option jx_R) => ∀ r, o = some r → P q r) (fun q => Lean.Order.admissible_pi _ (fun r => Lean.Order.Option.admissible_eq_some (P q r) r))
  · intro f hf q r hr
    exact h f hf q r hr
