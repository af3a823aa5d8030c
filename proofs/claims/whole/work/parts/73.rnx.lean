/-! THE REFERENCE'S NEXT TOKEN, ALL CASES -/
def rLet (h : jx_H) (b : Nat) (S : Nat → Int32) (A : Nat → Nat → Int32) (len p l N : Nat) : jx_H := if 12 < lal (A 1) len (2001 - p) p - p then hL h b S A (lal (A 1) len (2001 - p) p) l (Int32.ofNat 5) (Int32.ofNat 0) l else if rwo (A 1) p (lal (A 1) len (2001 - p) p - p) = 0 then hL h b (nmR S A p (lal (A 1) len (2001 - p) p - p) N).2.1 (nmR S A p (lal (A 1) len (2001 - p) p - p) N).2.2 (lal (A 1) len (2001 - p) p) l (Int32.ofNat 2) (Int32.ofNat (nmR S A p (lal (A 1) len (2001 - p) p - p) N).1) l else hL h b S A (lal (A 1) len (2001 - p) p) l (Int32.ofNat 1) (Int32.ofNat (rwo (A 1) p (lal (A 1) len (2001 - p) p - p))) l
def rDig (h : jx_H) (b : Nat) (S : Nat → Int32) (A : Nat → Nat → Int32) (len p l : Nat) : jx_H := hL h b S A (lnd (A 1) len 7 p (Int32.ofNat 0)).2 l (if 6 < (lnd (A 1) len 7 p (Int32.ofNat 0)).2 - p ∨ wlet (toc (A 1) len (lnd (A 1) len 7 p (Int32.ofNat 0)).2) = true then Int32.ofNat 5 else Int32.ofNat 3) (lnd (A 1) len 7 p (Int32.ofNat 0)).1 l
def rTok (h : jx_H) (b : Nat) (S : Nat → Int32) (A : Nat → Nat → Int32) (len p l : Nat) (v : Int32) (N : Nat) : jx_H := if toc (A 1) len p < Int32.ofNat 0 then hL h b S A p l (Int32.ofNat 0) v l else if wlet (toc (A 1) len p) = true then rLet h b S A len p l N else if wdig (toc (A 1) len p) = true then rDig h b S A len p l else hL h b S A (p + 1) l (cond (rsg (toc (A 1) len p)) (Int32.ofNat 4) (Int32.ofNat 5)) (toc (A 1) len p) l
theorem Q_next {G : jx_Gv} {h : jx_H} {b : Nat} {S : Nat → Int32} {A : Nat → Nat → Int32} {p l : Nat} {k v : Int32} {tl len N : Nat} (hs : S 0 = Int32.ofNat len) (hl : len ≤ 2000) (hp : p ≤ len) (hll : l ≤ 2001 + p) (hN : N < 1000) (hS : S 8 = Int32.ofNat N) (hLn : ∀ n : Nat, n ≤ 1000 → ∃ m : Nat, m ≤ 12 ∧ A 2 n = Int32.ofNat m) : jE G (77, 0, [some (.ref b), none, none, none], [], hL h b S A p l k v tl) = some (none, rTok h b S A len (lsk (A 1) len (2001 - p) p l).1 (lsk (A 1) len (2001 - p) p l).2 v N) := by
  refine (Q_skip (G := G) (h := h) (b := b) (A := A) (k := k) (v := v) (tl := tl) (z1 := none) (z2 := none) (z3 := none) hs hl (2001 - p) p l (by omega) hp hll).trans ?_
  have le := lsk_le (f := A 1) (2001 - p) p l hp
  generalize lsk (A 1) len (2001 - p) p l = q at *
  have hp2 : q.1 < 2147483648 := by omega
  unfold rTok
  by_cases c1 : toc (A 1) len q.1 < Int32.ofNat 0
  · rw [if_pos c1]
    exact Q_end hs hp2 hl c1
  rw [if_neg c1]
  cases c2 : wlet (toc (A 1) len q.1)
  · rw [if_neg (by decide)]
    cases c3 : wdig (toc (A 1) len q.1)
    · rw [if_neg (by decide)]
      exact Q_sign hs hp2 hl c1 c2 c3
    · rw [if_pos rfl]
      exact Q_digit hs hp2 hl le.1 c1 c2 c3
  · rw [if_pos rfl]
    exact Q_letter hs hp2 hl le.1 hN hS hLn c1 c2
theorem Q_next_b {G : jx_Gv} {h : jx_H} {b : Nat} {S : Nat → Int32} {A : Nat → Nat → Int32} {p l : Nat} {k v : Int32} {tl len N : Nat} (hs : S 0 = Int32.ofNat len) (hl : len ≤ 2000) (hp : p ≤ len) (hll : l ≤ 2001 + p) (hN : N < 1000) (hS : S 8 = Int32.ofNat N) (hLn : ∀ n : Nat, n ≤ 1000 → ∃ m : Nat, m ≤ 12 ∧ A 2 n = Int32.ofNat m) {β_ : Type} {f_ : jx_R → Option β_} : (jE G (77, 0, [some (.ref b), none, none, none], [], hL h b S A p l k v tl)).bind f_ = f_ ((none, rTok h b S A len (lsk (A 1) len (2001 - p) p l).1 (lsk (A 1) len (2001 - p) p l).2 v N)) := bnd (Q_next hs hl hp hll hN hS hLn)
/-- more fuel than is wanted changes nothing -/
theorem lsk_fuel {f : Nat → Int32} {len : Nat} : ∀ d e p l : Nat, len < p + d → d ≤ e → lsk f len e p l = lsk f len d p l
  | 0, 0, p, l, _, _ => rfl
  | 0, e + 1, p, l, h1, _ => by
    unfold lsk
    rw [if_neg (fun q => by have := q.1; omega)]
  | d + 1, e, p, l, h1, h2 => by
    obtain ⟨e, rfl⟩ : ∃ e', e = e' + 1 := ⟨e - 1, by omega⟩
    unfold lsk
    split
    · exact lsk_fuel d e (p + 1) _ (by omega) (by omega)
    · rfl
