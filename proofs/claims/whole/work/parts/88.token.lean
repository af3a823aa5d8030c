/-! THE REFERENCE'S TOKEN AND THE CLASS'S NEXT ONE -/
def nxX (q : jS) (X : jX) : jX := if q.2.2.1 = Int32.ofNat 2 then (xnn X q.2.2.2.2).2 else X
def rk (s : Int32) : Int32 := if s = Int32.ofNat 6 then Int32.ofNat 0 else s
/-- a token's octets stand right ahead of its end -/
def ttx (f : Nat → Int32) (e : Nat) : List Int32 := cpy f (e - lback f e) (lback f e)
def Tk (f : Nat → Int32) (p : Nat) (q : jS) (X : jX) (S : Nat → Int32) (A : Nat → Nat → Int32) : Prop :=
  S 6 = Int32.ofNat q.2.1 ∧ S 4 = rk q.2.2.1 ∧ (q.2.2.1 ≠ Int32.ofNat 5 → S 2 = Int32.ofNat q.1 ∧ S 3 = Int32.ofNat q.2.1 ∧ nTab A (nxX q X) ∧ S 8 = Int32.ofNat (xNc (nxX q X))) ∧
  (q.2.2.1 = Int32.ofNat 1 → ∃ j : Nat, j < 16 ∧ q.2.2.2.1 = Int32.ofNat (2 ^ j) ∧ S 5 = Int32.ofNat (j + 1) ∧ ttx f q.1 = Wd j) ∧
  (q.2.2.1 = Int32.ofNat 2 → xNc X < 1000 ∧ S 5 = Int32.ofNat (xnn X q.2.2.2.2).1 ∧ ∃ l : List Int32, l ≠ [] ∧ aln l ∧ l.length ≤ 12 ∧ q.2.2.2.2 = Int64.ofNat (lcd l) ∧ ttx f q.1 = l) ∧
  (q.2.2.1 = Int32.ofNat 3 → S 5 = q.2.2.2.1 ∧ ∃ m : Nat, m < 1000000 ∧ q.2.2.2.1 = Int32.ofNat m ∧ (dg100000 m).length + p ≤ q.1) ∧
  (q.2.2.1 = Int32.ofNat 4 → S 5 = q.2.2.2.1) ∧
  (q.2.2.1 ≠ Int32.ofNat 5 → q.2.2.1 ≠ Int32.ofNat 6 → p ≤ lback f q.1 ∧ p < q.1) ∧ (q.2.2.1 = Int32.ofNat 4 → rsg q.2.2.2.1 = true)
theorem lS_of {S : Nat → Int32} {p l tl j : Nat} {k v : Int32} (h2 : j ≠ 2) (h3 : j ≠ 3) (h4 : j ≠ 4) (h5 : j ≠ 5) (h6 : j ≠ 6) : lS S p l k v tl j = S j := by
  unfold lS
  rw [if_neg h2, if_neg h3, if_neg h4, if_neg h5, if_neg h6]
theorem kd_1 : (Int32.ofNat 1 = Int32.ofNat 2) = False ∧ (Int32.ofNat 1 = Int32.ofNat 3) = False ∧ (Int32.ofNat 1 = Int32.ofNat 4) = False ∧ (Int32.ofNat 1 = Int32.ofNat 5) = False ∧ (Int32.ofNat 1 = Int32.ofNat 6) = False := ⟨eq_false (by decide), eq_false (by decide), eq_false (by decide), eq_false (by decide), eq_false (by decide)⟩
theorem nx_ok {G : jx_Gv} {h : jx_H} {b : Nat} {S : Nat → Int32} {A : Nat → Nat → Int32} {wn : Nat → Int64} {f : Nat → Int32} {len : Nat} {c : jS} {X : jX} {k v : Int32} {tl : Nat} (hw : wnOk wn) (hO : fOct f len) (hl : len ≤ 2000) (h0 : S 0 = Int32.ofNat len) (h1 : A 1 = f) (hA : hLn A) (hT : nTab A X) (h8 : S 8 = Int32.ofNat (xNc X)) (hP : Pl f len c (xNc X)) : ∃ S' A', jE G (77, 0, [some (.ref b), none, none, none], [], hL h b S A c.1 c.2.1 k v tl) = some (none, hR h b S' A') ∧ Tk f c.1 (adv wn f len c) X S' A' ∧ hLn A' ∧ (∀ j : Nat, j ≠ 2 → j ≠ 3 → j ≠ 4 → j ≠ 5 → j ≠ 6 → j ≠ 8 → S' j = S j) ∧ ∀ k : Nat, k ≠ 2 → k ≠ 3 → A' k = A k := by
  subst h1
  obtain ⟨s, l, a1, a2, a3, a4, a5, a6, a7⟩ := adv_shape hw hO hl hP
  obtain ⟨p1, p2, p3, p4, p5⟩ := hP
  have sk := Q_skip (G := G) (h := h) (b := b) (A := A) (k := k) (v := v) (tl := tl) (z1 := none) (z2 := none) (z3 := none) h0 hl (2001 - c.1) c.1 c.2.1 (by omega) p1 (by omega)
  rw [← lsk_fuel (f := A 1) (len := len) (2001 - c.1) 2001 c.1 c.2.1 (by omega) (by omega), a1] at sk
  have sk' : jE G (77, 0, [some (.ref b), none, none, none], [], hL h b S A c.1 c.2.1 k v tl) = jE G (77, 68, [some (.ref b), none, none, none], [], hL h b S A s l k v tl) := sk
  rw [sk']
  have hp2 : s < 2147483648 := by omega
  generalize adv wn (A 1) len c = q at *
  have fr0 : ∀ (p l tl : Nat) (k v : Int32) (j : Nat), j ≠ 2 → j ≠ 3 → j ≠ 4 → j ≠ 5 → j ≠ 6 → j ≠ 8 → lS S p l k v tl j = S j := fun p l tl k v j h2 h3 h4 h5 h6 _ => lS_of h2 h3 h4 h5 h6
  have nx0 : q.2.2.1 ≠ Int32.ofNat 2 → nxX q X = X := fun e => if_neg e
  rcases a7 with sh | sh | sh | sh
  · obtain ⟨b1, b2, b3, b4⟩ := sh
    refine ⟨lS S s l (Int32.ofNat 0) v l, A, Q_end h0 hp2 hl b1, ?_, hA, fr0 _ _ _ _ _, fun _ _ _ => rfl⟩
    have e2 := nx0 (by rw [b4]; decide)
    unfold Tk
    rw [e2, b2, b3, b4]
    refine ⟨rfl, rfl, fun _ => ⟨rfl, rfl, hT, h8⟩, fun e => absurd e (by decide), fun e => absurd e (by decide), fun e => absurd e (by decide), fun e => absurd e (by decide), fun _ e => absurd rfl e, fun e => absurd e (by decide)⟩
  · obtain ⟨b1, b2, b3, b4, b5⟩ := sh
    have hN : xNc X < 1000 := by
      rcases a6 with e | ⟨e1, e2⟩
      · have q1 : c.1 = 0 ∨ waln (A 1 (c.1 - 1)) = false := by
          rcases p3 with z | z | z
          · exact Or.inl z
          · exact Or.inr z
          · exfalso
            rw [← e] at z
            unfold waln at z
            rw [b2, Bool.true_or] at z
            cases z
        have := p5 q1
        omega
      · omega
    have hL1 := Q_letter (G := G) (h := h) (b := b) (l := l) (k := k) (v := v) (tl := tl) (z1 := none) (z2 := none) (z3 := none) h0 hp2 hl a3 hN h8 hA b1 b2
    rw [hL1]
    generalize lal (A 1) len (2001 - s) s = E at *
    rcases b5 with ⟨d1, d2, d3⟩ | ⟨d1, d2, d3, d4, d5, d6, d7, d8, d9⟩
    · rw [if_pos d1]
      refine ⟨lS S E l (Int32.ofNat 5) (Int32.ofNat 0) l, A, rfl, ?_, hA, fr0 _ _ _ _ _, fun _ _ _ => rfl⟩
      unfold Tk
      rw [d2, d3]
      refine ⟨rfl, rfl, fun e => absurd rfl e, fun e => absurd e (by decide), fun e => absurd e (by decide), fun e => absurd e (by decide), fun e => absurd e (by decide), fun e => absurd rfl e, fun e => absurd e (by decide)⟩
    · rw [if_neg (by omega)]
      have ew := rwo_wix (f := A 1) (fr := s) (ln := E - s) (by omega) d1 d2
      rw [ew]
      have tx : ttx (A 1) q.1 = cpy (A 1) (E - s) s := by
        unfold ttx
        rw [d3, d8]
      rcases wix_spec (cpy (A 1) (E - s) s) with ⟨e0, -⟩ | ⟨j, hj, e0, eW⟩
      · rw [e0, if_pos rfl] at d5
        rw [if_pos e0]
        obtain ⟨n1, n2, n3, n4, n5, n6⟩ := nm_step (S := S) hT hA h8 hN (by omega) d1 d2 ⟨e0, by rw [cpy_get (E - s) s 0 (by omega), Nat.add_zero, ← show toc (A 1) len s = A 1 s from if_pos (by omega)]; exact b2⟩
        rw [← d7] at n1 n2 n4
        refine ⟨lS (nmR S A s (E - s) (xNc X)).2.1 E l (Int32.ofNat 2) (Int32.ofNat (nmR S A s (E - s) (xNc X)).1) l, (nmR S A s (E - s) (xNc X)).2.2, rfl, ?_, n3, ?_, n6⟩
        · have e2 : nxX q X = (xnn X q.2.2.2.2).2 := if_pos d5
          unfold Tk
          rw [e2, d3, d4, d5]
          refine ⟨rfl, rfl, fun _ => ⟨rfl, rfl, n2, n4⟩, fun e => absurd e (by decide), fun _ => ⟨hN, ?_, cpy (A 1) (E - s) s, ?_, d2, by rw [cpy_len]; exact d1, d7, by have tx' := tx; rw [d3] at tx'; exact tx'⟩, fun e => absurd e (by decide), fun e => absurd e (by decide), fun _ _ => ⟨by rw [d8]; exact a2, by omega⟩, fun e => absurd e (by decide)⟩
          · show Int32.ofNat (nmR S A s (E - s) (xNc X)).1 = _
            rw [n1]
          · intro z
            have := congrArg List.length z
            rw [cpy_len] at this
            have : E - s = 0 := this
            omega
        · intro j h2 h3 h4 h5 h6 h8'
          rw [lS_of h2 h3 h4 h5 h6]
          exact n5 j h8'
      · rw [e0, if_neg (by omega)] at d5 d6
        rw [if_neg (by omega)]
        refine ⟨lS S E l (Int32.ofNat 1) (Int32.ofNat (wix (cpy (A 1) (E - s) s))) l, A, rfl, ?_, hA, fr0 _ _ _ _ _, fun _ _ _ => rfl⟩
        have e2 := nx0 (by rw [d5]; decide)
        unfold Tk
        rw [e2, d3, d4, d5]
        refine ⟨rfl, rfl, fun _ => ⟨rfl, rfl, hT, h8⟩, fun _ => ⟨j, hj, d6, ?_, by rw [← d3, tx]; exact eW.symm⟩, fun e => absurd e (by decide), fun e => absurd e (by decide), fun e => absurd e (by decide), fun _ _ => ⟨by rw [d8]; exact a2, by omega⟩, fun e => absurd e (by decide)⟩
        show Int32.ofNat (wix (cpy (A 1) (E - s) s)) = _
        rw [e0]
  · obtain ⟨b1, b2, b3, b4⟩ := sh
    have hD1 := Q_digit (G := G) (h := h) (b := b) (S := S) (l := l) (k := k) (v := v) (tl := tl) (z1 := none) (z2 := none) (z3 := none) h0 hp2 hl a3 b1 b2 b3
    rw [hD1]
    generalize lnd (A 1) len 7 s (Int32.ofNat 0) = z at *
    rcases b4 with ⟨d1, d2, d3⟩ | ⟨d1, d2, d3, d4, d5, d6, d7, d8, d9, m, m1, m2, m3⟩
    · rw [if_pos d1]
      refine ⟨lS S z.2 l (Int32.ofNat 5) z.1 l, A, rfl, ?_, hA, fr0 _ _ _ _ _, fun _ _ _ => rfl⟩
      unfold Tk
      rw [d2, d3]
      refine ⟨rfl, rfl, fun e => absurd rfl e, fun e => absurd e (by decide), fun e => absurd e (by decide), fun e => absurd e (by decide), fun e => absurd e (by decide), fun e => absurd rfl e, fun e => absurd e (by decide)⟩
    · rw [if_neg d1]
      refine ⟨lS S z.2 l (Int32.ofNat 3) z.1 l, A, rfl, ?_, hA, fr0 _ _ _ _ _, fun _ _ _ => rfl⟩
      have e2 := nx0 (by rw [d4]; decide)
      unfold Tk
      rw [e2, d2, d3, d4, d5]
      refine ⟨rfl, rfl, fun _ => ⟨rfl, rfl, hT, h8⟩, fun e => absurd e (by decide), fun e => absurd e (by decide), fun _ => ⟨rfl, m, m1, m2, by omega⟩, fun e => absurd e (by decide), fun _ _ => ⟨by rw [d8]; exact a2, by omega⟩, fun e => absurd e (by decide)⟩
  · obtain ⟨b1, b2, b3, b4, b5, b6, b7, b8, b9, b10⟩ := sh
    refine ⟨lS S (s + 1) l (cond (rsg (toc (A 1) len s)) (Int32.ofNat 4) (Int32.ofNat 5)) (toc (A 1) len s) l, A, Q_sign h0 hp2 hl b1 b2 b3, ?_, hA, fr0 _ _ _ _ _, fun _ _ _ => rfl⟩
    unfold Tk
    cases e : rsg (toc (A 1) len s)
    · rw [e, cond_false] at b7
      rw [b6, b7]
      refine ⟨rfl, rfl, fun e => absurd rfl e, fun e => absurd e (by decide), fun e => absurd e (by decide), fun e => absurd e (by decide), fun e => absurd e (by decide), fun e => absurd rfl e, fun e => absurd e (by decide)⟩
    · rw [e, cond_true] at b7
      have e2 := nx0 (by rw [b7]; decide)
      rw [e2, b5, b6, b7, b8]
      refine ⟨rfl, rfl, fun _ => ⟨rfl, rfl, hT, h8⟩, fun e => absurd e (by decide), fun e => absurd e (by decide), fun e => absurd e (by decide), fun _ => rfl, fun _ _ => ⟨by rw [b9]; omega, by omega⟩, fun _ => e⟩
/-- the place behind a token is in order too -/
theorem Pl_next {wn : Nat → Int64} {f : Nat → Int32} {len : Nat} {c : jS} {X : jX} (hw : wnOk wn) (hO : fOct f len) (hl : len ≤ 2000) (hP : Pl f len c (xNc X)) (h5 : (adv wn f len c).2.2.1 ≠ Int32.ofNat 5) (h6 : (adv wn f len c).2.2.1 ≠ Int32.ofNat 6) : Pl f len (adv wn f len c) (xNc (nxX (adv wn f len c) X)) := by
  obtain ⟨s, l, a1, a2, a3, a4, a5, a6, a7⟩ := adv_shape hw hO hl hP
  obtain ⟨p1, p2, p3, p4, p5⟩ := hP
  generalize adv wn f len c = q at *
  have nx0 : q.2.2.1 ≠ Int32.ofNat 2 → nxX q X = X := fun e => if_neg e
  unfold Pl
  rcases a7 with sh | sh | sh | sh
  · exact absurd sh.2.2.2 h6
  · obtain ⟨b1, b2, b3, b4, b5⟩ := sh
    have hN : 2 * xNc X ≤ s := by
      rcases a6 with e | ⟨e1, e2⟩
      · have q1 : c.1 = 0 ∨ waln (f (c.1 - 1)) = false := by
          rcases p3 with z | z | z
          · exact Or.inl z
          · exact Or.inr z
          · exfalso
            rw [← e] at z
            unfold waln at z
            rw [b2, Bool.true_or] at z
            cases z
        have := p5 q1
        omega
      · omega
    rcases b5 with ⟨d1, d2, d3⟩ | ⟨d1, d2, d3, d4, d5, d6, d7, d8, d9⟩
    · exact absurd d2 h5
    · have hX : xNc (nxX q X) ≤ xNc X + 1 := by
        unfold nxX
        split
        · exact (xnn_name (X := X) (y := q.2.2.2.2) (by omega)).2.2.2.2.1
        · exact Nat.le_succ _
      rw [d3, d4]
      have hlast : waln (f (lal f len (2001 - s) s - 1)) = true := by
        have := lal_in (f := f) (len := len) (2001 - s) s (lal f len (2001 - s) s - 1) (by omega) (by omega)
        rw [show toc f len (lal f len (2001 - s) s - 1) = f (lal f len (2001 - s) s - 1) from if_pos (by omega)] at this
        exact this
      refine ⟨b4, by omega, Or.inr (Or.inr d9), by omega, ?_⟩
      rintro (e | e)
      · omega
      · rw [hlast] at e
        cases e
  · obtain ⟨b1, b2, b3, b4⟩ := sh
    rcases b4 with ⟨d1, d2, d3⟩ | ⟨d1, d2, d3, d4, d5, d6, d7, d8, d9, -⟩
    · exact absurd d2 h5
    · rw [nx0 (by rw [d4]; decide), d2, d3]
      exact ⟨d7, by omega, Or.inr (Or.inr d9), by omega, fun _ => by omega⟩
  · obtain ⟨b1, b2, b3, b4, b5, b6, b7, b8, b9, b10⟩ := sh
    have e4 : q.2.2.1 = Int32.ofNat 4 := by
      cases e : rsg (toc f len s)
      · rw [e, cond_false] at b7
        exact absurd b7 h5
      · rw [e, cond_true] at b7
        exact b7
    rw [nx0 (by rw [e4]; decide), b5, b6]
    exact ⟨b4, by omega, Or.inr (Or.inl b10), by omega, fun _ => by omega⟩
