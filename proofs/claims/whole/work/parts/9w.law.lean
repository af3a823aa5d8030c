/-! THE LAW'S LOOP -/
theorem lit_some {ad : Nat → Nat} {n i : Nat} (hi : i < n) : ∃ j, jx_lit ad n (ad i) = some j ∧ j < n ∧ ad j = ad i := by
  cases e : jx_lit ad n (ad i) with
  | none =>
    exfalso
    have z := List.find?_eq_none.mp e i (List.mem_range.mpr hi)
    exact z (Nat.beq_refl _)
  | some j =>
    obtain ⟨h1, h2⟩ := jx_lit_spec e
    exact ⟨j, rfl, h1, h2⟩
theorem jLt_of {G : jx_Gv} (h1 : ∀ i j : Nat, i < 11 → j < 11 → G.1 i = G.1 j → i = j) (h2 : ∀ i j : Nat, i < 11 → j < 11 → G.2.1 i = G.2.1 j → jlen.getD i 0 = jlen.getD j 0 ∧ ∀ k : Nat, k < jlen.getD i 0 → (jbyt.getD i []).getD k 0 = (jbyt.getD j []).getD k 0) : jLt G := by
  constructor
  · intro i hi
    obtain ⟨j, e, hj, ej⟩ := lit_some (ad := G.1) hi
    rw [e, h1 j i hj hi ej]
  · intro i hi
    obtain ⟨j, e, hj, ej⟩ := lit_some (ad := G.2.1) hi
    obtain ⟨w1, w2⟩ := h2 j i hj hi ej
    exact ⟨j, e, w1, fun k hk => w2 k (by rw [w1]; exact hk)⟩
theorem St_r0 {G : jx_Gv} {o E : Nat} {H : jx_H} (st : St G o E H) : ∀ l : List Value, jx_recv H (.ref o :: l) (some 0) = true := by
  obtain ⟨kp, hand, T, c, D, f0, al, ed, xs, S, A, iv, rl⟩ := st
  exact fun l => pt_rv (Iv_pt iv)
theorem St_r8 {G : jx_Gv} {o E : Nat} {H : jx_H} (st : St G o E H) : ∀ l : List Value, jx_recv H (.ref (o + 11) :: l) (some 8) = true := by
  obtain ⟨kp, hand, T, c, D, f0, al, ed, xs, S, A, iv, rl⟩ := st
  exact fun l => c_rv (Iv_r0 iv)
theorem St_sz {G : jx_Gv} {o E : Nat} {H : jx_H} (st : St G o E H) : H.1 ≤ o + 600000 ∧ H.2.1 ≤ 7302250 := by
  obtain ⟨kp, hand, T, c, D, f0, al, ed, xs, S, A, iv, rl⟩ := st
  have z1 := Iv_sz iv
  have z2 := Iv_sm iv
  have z3 := cb_le (al := al) 10
  omega
theorem i_ex {len i : Nat} (hl : len ≤ 2048) (hi : i ≤ 4096) : (Int32.ofNat len - Int32.ofNat 4 < Int32.ofNat i) = (len < i + 4) := by
  by_cases c : 4 ≤ len
  · rw [i_sub c, i_lt (by omega) (by omega)]
    exact propext ⟨fun z => by omega, fun z => by omega⟩
  · have hz : (Int32.ofNat len - Int32.ofNat 4).toInt = (len : Int) - 4 := by
      have : ∀ n : Nat, n < 4 → (Int32.ofNat n - Int32.ofNat 4).toInt = (n : Int) - 4 := by decide +kernel
      exact this len (by omega)
    rw [Int32.lt_iff_toInt_lt, hz, i_to (by omega)]
    exact propext ⟨fun z => by omega, fun z => by omega⟩
theorem lw_0 {G : jx_Gv} {o E i : Nat} {H : jx_H} (st : St G o E H) (hi : i + 4 ≤ G.2.2.1.2.1) (hl : G.2.2.1.2.1 ≤ 2048) (hv : G.2.2.1.2.2 i &&& Int32.ofNat 15 = Int32.ofNat 0) : ∃ (E' : Nat) (H' : jx_H), E' ≤ E + 1 ∧ St G o E' H' ∧ jE G (191, 26, [some (.ref G.2.2.1.1), some (.ref o), some (.ref (o + 11)), some (.int (Int32.ofNat i))], [], H) = jE G (191, 18, [some (.ref G.2.2.1.1), some (.ref o), some (.ref (o + 11)), some (.int (Int32.ofNat (i + 4)))], [], H') := by
  have b0 := i_inB (i := i) (n := G.2.2.1.2.1) (by omega) (by omega)
  have b1 := i_inB (i := i + 1) (n := G.2.2.1.2.1) (by omega) (by omega)
  have b2 := i_inB (i := i + 2) (n := G.2.2.1.2.1) (by omega) (by omega)
  have b3 := i_inB (i := i + 3) (n := G.2.2.1.2.1) (by omega) (by omega)
  have r0 := St_r0 st
  have r8 := St_r8 st
  obtain ⟨H1, H2, e1, e2, v8, st2⟩ := c_sign st (x := G.2.2.1.2.2 (i + 1))
  have e1' := fun {β : Type} {f : jx_R → Option β} => bnd (f := f) e1
  have e2' := fun {β : Type} {f : jx_R → Option β} => bnd (f := f) e2
  refine ⟨E, H2, Nat.le_succ _, st2, ?_⟩
  simp (disch := omega) only [e_191_0, e_191_7, e_191_15, e_191_26, e_191_92, e_191_101, e_191_110, e_191_113, e_191_117, e_191_121, e_191_124, e_191_126, e_191_140, e_191_154, e_191_157, e_191_159, e_191_178, e_191_197, e_191_200, e_191_202, e_191_221, e_191_240, e_191_243, e_191_245, e_191_259, e_191_273, e_191_276, e_191_278, e_191_282, e_191_286, e_191_289, e_191_291, e_191_310, e_191_329, e_191_332, e_191_334, e_191_338, e_191_342, e_191_345, e_191_347, e_191_356, e_191_365, e_191_368, e_191_370, e_191_379, e_191_388, e_191_391, e_191_393, e_191_399, i_cl, b0, b1, b2, b3, r0, r8, hv, v8, ↓e1', ↓e2', ↓Option.bind_some, ↓jzo_0b, ↓jzo_1b, ↓jzo_bb, Option.toList_some, Option.toList_none, List.cons_append, List.nil_append, ↓reduceIte, jzo_0, jzo_1, jzo_b, jbi_t, jbi_f, i_add, ↓i_ltP, ↓i_ltN, ↓i_eqP, ↓i_eqN, i_lt, i_eq, jbi_0, pt_lt, pf_lt, pt_eq, pf_eq, pt_le, pf_le, Nat.reduceEqDiff, eq_self, true_or, or_true, false_or, or_false, true_and, and_true, false_and, and_false, jE_sw, jE_sw0]
theorem lw_1 {G : jx_Gv} {o E i : Nat} {H : jx_H} (st : St G o E H) (hi : i + 4 ≤ G.2.2.1.2.1) (hl : G.2.2.1.2.1 ≤ 2048) (hG : jLt G) (hv : G.2.2.1.2.2 i &&& Int32.ofNat 15 = Int32.ofNat 1) (hE : E ≤ i) : ∃ (E' : Nat) (H' : jx_H), E' ≤ E + 1 ∧ St G o E' H' ∧ jE G (191, 26, [some (.ref G.2.2.1.1), some (.ref o), some (.ref (o + 11)), some (.int (Int32.ofNat i))], [], H) = jE G (191, 18, [some (.ref G.2.2.1.1), some (.ref o), some (.ref (o + 11)), some (.int (Int32.ofNat (i + 4)))], [], H') := by
  have b0 := i_inB (i := i) (n := G.2.2.1.2.1) (by omega) (by omega)
  have b1 := i_inB (i := i + 1) (n := G.2.2.1.2.1) (by omega) (by omega)
  have b2 := i_inB (i := i + 2) (n := G.2.2.1.2.1) (by omega) (by omega)
  have b3 := i_inB (i := i + 3) (n := G.2.2.1.2.1) (by omega) (by omega)
  have r0 := St_r0 st
  have r8 := St_r8 st
  obtain ⟨x, H1, H2, e1, e2, v8, E', hE', st2⟩ := c_read hG st (by omega)
  have e1' := fun {β : Type} {f : jx_R → Option β} => bnd (f := f) e1
  have e2' := fun {β : Type} {f : jx_R → Option β} => bnd (f := f) e2
  refine ⟨E', H2, hE', st2, ?_⟩
  simp (disch := omega) only [e_191_0, e_191_7, e_191_15, e_191_26, e_191_92, e_191_101, e_191_110, e_191_113, e_191_117, e_191_121, e_191_124, e_191_126, e_191_140, e_191_154, e_191_157, e_191_159, e_191_178, e_191_197, e_191_200, e_191_202, e_191_221, e_191_240, e_191_243, e_191_245, e_191_259, e_191_273, e_191_276, e_191_278, e_191_282, e_191_286, e_191_289, e_191_291, e_191_310, e_191_329, e_191_332, e_191_334, e_191_338, e_191_342, e_191_345, e_191_347, e_191_356, e_191_365, e_191_368, e_191_370, e_191_379, e_191_388, e_191_391, e_191_393, e_191_399, i_cl, b0, b1, b2, b3, r0, r8, hv, v8, ↓e1', ↓e2', ↓Option.bind_some, ↓jzo_0b, ↓jzo_1b, ↓jzo_bb, Option.toList_some, Option.toList_none, List.cons_append, List.nil_append, ↓reduceIte, jzo_0, jzo_1, jzo_b, jbi_t, jbi_f, i_add, ↓i_ltP, ↓i_ltN, ↓i_eqP, ↓i_eqN, i_lt, i_eq, jbi_0, pt_lt, pf_lt, pt_eq, pf_eq, pt_le, pf_le, Nat.reduceEqDiff, eq_self, true_or, or_true, false_or, or_false, true_and, and_true, false_and, and_false, jE_sw, jE_sw0]
theorem lw_2 {G : jx_Gv} {o E i : Nat} {H : jx_H} (st : St G o E H) (hi : i + 4 ≤ G.2.2.1.2.1) (hl : G.2.2.1.2.1 ≤ 2048) (hv : G.2.2.1.2.2 i &&& Int32.ofNat 15 = Int32.ofNat 2) : ∃ (E' : Nat) (H' : jx_H), E' ≤ E + 1 ∧ St G o E' H' ∧ jE G (191, 26, [some (.ref G.2.2.1.1), some (.ref o), some (.ref (o + 11)), some (.int (Int32.ofNat i))], [], H) = jE G (191, 18, [some (.ref G.2.2.1.1), some (.ref o), some (.ref (o + 11)), some (.int (Int32.ofNat (i + 4)))], [], H') := by
  have b0 := i_inB (i := i) (n := G.2.2.1.2.1) (by omega) (by omega)
  have b1 := i_inB (i := i + 1) (n := G.2.2.1.2.1) (by omega) (by omega)
  have b2 := i_inB (i := i + 2) (n := G.2.2.1.2.1) (by omega) (by omega)
  have b3 := i_inB (i := i + 3) (n := G.2.2.1.2.1) (by omega) (by omega)
  have r0 := St_r0 st
  have r8 := St_r8 st
  obtain ⟨x, e1, e2⟩ := c_part st (i := G.2.2.1.2.2 (i + 1)) (what := G.2.2.1.2.2 (i + 2))
  have e1' := fun {β : Type} {f : jx_R → Option β} => bnd (f := f) e1
  have e2' := fun {β : Type} {f : jx_R → Option β} => bnd (f := f) e2
  refine ⟨E, H, Nat.le_succ _, st, ?_⟩
  simp (disch := omega) only [e_191_0, e_191_7, e_191_15, e_191_26, e_191_92, e_191_101, e_191_110, e_191_113, e_191_117, e_191_121, e_191_124, e_191_126, e_191_140, e_191_154, e_191_157, e_191_159, e_191_178, e_191_197, e_191_200, e_191_202, e_191_221, e_191_240, e_191_243, e_191_245, e_191_259, e_191_273, e_191_276, e_191_278, e_191_282, e_191_286, e_191_289, e_191_291, e_191_310, e_191_329, e_191_332, e_191_334, e_191_338, e_191_342, e_191_345, e_191_347, e_191_356, e_191_365, e_191_368, e_191_370, e_191_379, e_191_388, e_191_391, e_191_393, e_191_399, i_cl, b0, b1, b2, b3, r0, r8, hv, ↓e1', ↓e2', ↓Option.bind_some, ↓jzo_0b, ↓jzo_1b, ↓jzo_bb, Option.toList_some, Option.toList_none, List.cons_append, List.nil_append, ↓reduceIte, jzo_0, jzo_1, jzo_b, jbi_t, jbi_f, i_add, ↓i_ltP, ↓i_ltN, ↓i_eqP, ↓i_eqN, i_lt, i_eq, jbi_0, pt_lt, pf_lt, pt_eq, pf_eq, pt_le, pf_le, Nat.reduceEqDiff, eq_self, true_or, or_true, false_or, or_false, true_and, and_true, false_and, and_false, jE_sw, jE_sw0]
theorem lw_3 {G : jx_Gv} {o E i : Nat} {H : jx_H} (st : St G o E H) (hi : i + 4 ≤ G.2.2.1.2.1) (hl : G.2.2.1.2.1 ≤ 2048) (hv : G.2.2.1.2.2 i &&& Int32.ofNat 15 = Int32.ofNat 3) : ∃ (E' : Nat) (H' : jx_H), E' ≤ E + 1 ∧ St G o E' H' ∧ jE G (191, 26, [some (.ref G.2.2.1.1), some (.ref o), some (.ref (o + 11)), some (.int (Int32.ofNat i))], [], H) = jE G (191, 18, [some (.ref G.2.2.1.1), some (.ref o), some (.ref (o + 11)), some (.int (Int32.ofNat (i + 4)))], [], H') := by
  have b0 := i_inB (i := i) (n := G.2.2.1.2.1) (by omega) (by omega)
  have b1 := i_inB (i := i + 1) (n := G.2.2.1.2.1) (by omega) (by omega)
  have b2 := i_inB (i := i + 2) (n := G.2.2.1.2.1) (by omega) (by omega)
  have b3 := i_inB (i := i + 3) (n := G.2.2.1.2.1) (by omega) (by omega)
  have r0 := St_r0 st
  have r8 := St_r8 st
  obtain ⟨x, e1, e2⟩ := c_port st (p := G.2.2.1.2.2 (i + 1)) (i := G.2.2.1.2.2 (i + 2)) (what := G.2.2.1.2.2 (i + 3))
  have e1' := fun {β : Type} {f : jx_R → Option β} => bnd (f := f) e1
  have e2' := fun {β : Type} {f : jx_R → Option β} => bnd (f := f) e2
  refine ⟨E, H, Nat.le_succ _, st, ?_⟩
  simp (disch := omega) only [e_191_0, e_191_7, e_191_15, e_191_26, e_191_92, e_191_101, e_191_110, e_191_113, e_191_117, e_191_121, e_191_124, e_191_126, e_191_140, e_191_154, e_191_157, e_191_159, e_191_178, e_191_197, e_191_200, e_191_202, e_191_221, e_191_240, e_191_243, e_191_245, e_191_259, e_191_273, e_191_276, e_191_278, e_191_282, e_191_286, e_191_289, e_191_291, e_191_310, e_191_329, e_191_332, e_191_334, e_191_338, e_191_342, e_191_345, e_191_347, e_191_356, e_191_365, e_191_368, e_191_370, e_191_379, e_191_388, e_191_391, e_191_393, e_191_399, i_cl, b0, b1, b2, b3, r0, r8, hv, ↓e1', ↓e2', ↓Option.bind_some, ↓jzo_0b, ↓jzo_1b, ↓jzo_bb, Option.toList_some, Option.toList_none, List.cons_append, List.nil_append, ↓reduceIte, jzo_0, jzo_1, jzo_b, jbi_t, jbi_f, i_add, ↓i_ltP, ↓i_ltN, ↓i_eqP, ↓i_eqN, i_lt, i_eq, jbi_0, pt_lt, pf_lt, pt_eq, pf_eq, pt_le, pf_le, Nat.reduceEqDiff, eq_self, true_or, or_true, false_or, or_false, true_and, and_true, false_and, and_false, jE_sw, jE_sw0]
theorem lw_4 {G : jx_Gv} {o E i : Nat} {H : jx_H} (st : St G o E H) (hi : i + 4 ≤ G.2.2.1.2.1) (hl : G.2.2.1.2.1 ≤ 2048) (hv : G.2.2.1.2.2 i &&& Int32.ofNat 15 = Int32.ofNat 4) : ∃ (E' : Nat) (H' : jx_H), E' ≤ E + 1 ∧ St G o E' H' ∧ jE G (191, 26, [some (.ref G.2.2.1.1), some (.ref o), some (.ref (o + 11)), some (.int (Int32.ofNat i))], [], H) = jE G (191, 18, [some (.ref G.2.2.1.1), some (.ref o), some (.ref (o + 11)), some (.int (Int32.ofNat (i + 4)))], [], H') := by
  have b0 := i_inB (i := i) (n := G.2.2.1.2.1) (by omega) (by omega)
  have b1 := i_inB (i := i + 1) (n := G.2.2.1.2.1) (by omega) (by omega)
  have b2 := i_inB (i := i + 2) (n := G.2.2.1.2.1) (by omega) (by omega)
  have b3 := i_inB (i := i + 3) (n := G.2.2.1.2.1) (by omega) (by omega)
  have r0 := St_r0 st
  have r8 := St_r8 st
  obtain ⟨x, e1, e2⟩ := c_runnable st (p := G.2.2.1.2.2 (i + 1)) (i := G.2.2.1.2.2 (i + 2)) (what := G.2.2.1.2.2 (i + 3))
  have e1' := fun {β : Type} {f : jx_R → Option β} => bnd (f := f) e1
  have e2' := fun {β : Type} {f : jx_R → Option β} => bnd (f := f) e2
  refine ⟨E, H, Nat.le_succ _, st, ?_⟩
  simp (disch := omega) only [e_191_0, e_191_7, e_191_15, e_191_26, e_191_92, e_191_101, e_191_110, e_191_113, e_191_117, e_191_121, e_191_124, e_191_126, e_191_140, e_191_154, e_191_157, e_191_159, e_191_178, e_191_197, e_191_200, e_191_202, e_191_221, e_191_240, e_191_243, e_191_245, e_191_259, e_191_273, e_191_276, e_191_278, e_191_282, e_191_286, e_191_289, e_191_291, e_191_310, e_191_329, e_191_332, e_191_334, e_191_338, e_191_342, e_191_345, e_191_347, e_191_356, e_191_365, e_191_368, e_191_370, e_191_379, e_191_388, e_191_391, e_191_393, e_191_399, i_cl, b0, b1, b2, b3, r0, r8, hv, ↓e1', ↓e2', ↓Option.bind_some, ↓jzo_0b, ↓jzo_1b, ↓jzo_bb, Option.toList_some, Option.toList_none, List.cons_append, List.nil_append, ↓reduceIte, jzo_0, jzo_1, jzo_b, jbi_t, jbi_f, i_add, ↓i_ltP, ↓i_ltN, ↓i_eqP, ↓i_eqN, i_lt, i_eq, jbi_0, pt_lt, pf_lt, pt_eq, pf_eq, pt_le, pf_le, Nat.reduceEqDiff, eq_self, true_or, or_true, false_or, or_false, true_and, and_true, false_and, and_false, jE_sw, jE_sw0]
theorem lw_5 {G : jx_Gv} {o E i : Nat} {H : jx_H} (st : St G o E H) (hi : i + 4 ≤ G.2.2.1.2.1) (hl : G.2.2.1.2.1 ≤ 2048) (hv : G.2.2.1.2.2 i &&& Int32.ofNat 15 = Int32.ofNat 5) : ∃ (E' : Nat) (H' : jx_H), E' ≤ E + 1 ∧ St G o E' H' ∧ jE G (191, 26, [some (.ref G.2.2.1.1), some (.ref o), some (.ref (o + 11)), some (.int (Int32.ofNat i))], [], H) = jE G (191, 18, [some (.ref G.2.2.1.1), some (.ref o), some (.ref (o + 11)), some (.int (Int32.ofNat (i + 4)))], [], H') := by
  have b0 := i_inB (i := i) (n := G.2.2.1.2.1) (by omega) (by omega)
  have b1 := i_inB (i := i + 1) (n := G.2.2.1.2.1) (by omega) (by omega)
  have b2 := i_inB (i := i + 2) (n := G.2.2.1.2.1) (by omega) (by omega)
  have b3 := i_inB (i := i + 3) (n := G.2.2.1.2.1) (by omega) (by omega)
  have r0 := St_r0 st
  have r8 := St_r8 st
  obtain ⟨x, e1, e2⟩ := c_connector st (i := G.2.2.1.2.2 (i + 1)) (what := G.2.2.1.2.2 (i + 2))
  have e1' := fun {β : Type} {f : jx_R → Option β} => bnd (f := f) e1
  have e2' := fun {β : Type} {f : jx_R → Option β} => bnd (f := f) e2
  refine ⟨E, H, Nat.le_succ _, st, ?_⟩
  simp (disch := omega) only [e_191_0, e_191_7, e_191_15, e_191_26, e_191_92, e_191_101, e_191_110, e_191_113, e_191_117, e_191_121, e_191_124, e_191_126, e_191_140, e_191_154, e_191_157, e_191_159, e_191_178, e_191_197, e_191_200, e_191_202, e_191_221, e_191_240, e_191_243, e_191_245, e_191_259, e_191_273, e_191_276, e_191_278, e_191_282, e_191_286, e_191_289, e_191_291, e_191_310, e_191_329, e_191_332, e_191_334, e_191_338, e_191_342, e_191_345, e_191_347, e_191_356, e_191_365, e_191_368, e_191_370, e_191_379, e_191_388, e_191_391, e_191_393, e_191_399, i_cl, b0, b1, b2, b3, r0, r8, hv, ↓e1', ↓e2', ↓Option.bind_some, ↓jzo_0b, ↓jzo_1b, ↓jzo_bb, Option.toList_some, Option.toList_none, List.cons_append, List.nil_append, ↓reduceIte, jzo_0, jzo_1, jzo_b, jbi_t, jbi_f, i_add, ↓i_ltP, ↓i_ltN, ↓i_eqP, ↓i_eqN, i_lt, i_eq, jbi_0, pt_lt, pf_lt, pt_eq, pf_eq, pt_le, pf_le, Nat.reduceEqDiff, eq_self, true_or, or_true, false_or, or_false, true_and, and_true, false_and, and_false, jE_sw, jE_sw0]
theorem lw_6 {G : jx_Gv} {o E i : Nat} {H : jx_H} (st : St G o E H) (hi : i + 4 ≤ G.2.2.1.2.1) (hl : G.2.2.1.2.1 ≤ 2048) (hv : G.2.2.1.2.2 i &&& Int32.ofNat 15 = Int32.ofNat 6) : ∃ (E' : Nat) (H' : jx_H), E' ≤ E + 1 ∧ St G o E' H' ∧ jE G (191, 26, [some (.ref G.2.2.1.1), some (.ref o), some (.ref (o + 11)), some (.int (Int32.ofNat i))], [], H) = jE G (191, 18, [some (.ref G.2.2.1.1), some (.ref o), some (.ref (o + 11)), some (.int (Int32.ofNat (i + 4)))], [], H') := by
  have b0 := i_inB (i := i) (n := G.2.2.1.2.1) (by omega) (by omega)
  have b1 := i_inB (i := i + 1) (n := G.2.2.1.2.1) (by omega) (by omega)
  have b2 := i_inB (i := i + 2) (n := G.2.2.1.2.1) (by omega) (by omega)
  have b3 := i_inB (i := i + 3) (n := G.2.2.1.2.1) (by omega) (by omega)
  have r0 := St_r0 st
  have r8 := St_r8 st
  obtain ⟨x, H1, H2, e1, e2, v8, st2⟩ := c_check st
  have e1' := fun {β : Type} {f : jx_R → Option β} => bnd (f := f) e1
  have e2' := fun {β : Type} {f : jx_R → Option β} => bnd (f := f) e2
  refine ⟨E, H2, Nat.le_succ _, st2, ?_⟩
  simp (disch := omega) only [e_191_0, e_191_7, e_191_15, e_191_26, e_191_92, e_191_101, e_191_110, e_191_113, e_191_117, e_191_121, e_191_124, e_191_126, e_191_140, e_191_154, e_191_157, e_191_159, e_191_178, e_191_197, e_191_200, e_191_202, e_191_221, e_191_240, e_191_243, e_191_245, e_191_259, e_191_273, e_191_276, e_191_278, e_191_282, e_191_286, e_191_289, e_191_291, e_191_310, e_191_329, e_191_332, e_191_334, e_191_338, e_191_342, e_191_345, e_191_347, e_191_356, e_191_365, e_191_368, e_191_370, e_191_379, e_191_388, e_191_391, e_191_393, e_191_399, i_cl, b0, b1, b2, b3, r0, r8, hv, v8, ↓e1', ↓e2', ↓Option.bind_some, ↓jzo_0b, ↓jzo_1b, ↓jzo_bb, Option.toList_some, Option.toList_none, List.cons_append, List.nil_append, ↓reduceIte, jzo_0, jzo_1, jzo_b, jbi_t, jbi_f, i_add, ↓i_ltP, ↓i_ltN, ↓i_eqP, ↓i_eqN, i_lt, i_eq, jbi_0, pt_lt, pf_lt, pt_eq, pf_eq, pt_le, pf_le, Nat.reduceEqDiff, eq_self, true_or, or_true, false_or, or_false, true_and, and_true, false_and, and_false, jE_sw, jE_sw0]
theorem lw_7 {G : jx_Gv} {o E i : Nat} {H : jx_H} (st : St G o E H) (hi : i + 4 ≤ G.2.2.1.2.1) (hl : G.2.2.1.2.1 ≤ 2048) (hv : G.2.2.1.2.2 i &&& Int32.ofNat 15 = Int32.ofNat 7) : ∃ (E' : Nat) (H' : jx_H), E' ≤ E + 1 ∧ St G o E' H' ∧ jE G (191, 26, [some (.ref G.2.2.1.1), some (.ref o), some (.ref (o + 11)), some (.int (Int32.ofNat i))], [], H) = jE G (191, 18, [some (.ref G.2.2.1.1), some (.ref o), some (.ref (o + 11)), some (.int (Int32.ofNat (i + 4)))], [], H') := by
  have b0 := i_inB (i := i) (n := G.2.2.1.2.1) (by omega) (by omega)
  have b1 := i_inB (i := i + 1) (n := G.2.2.1.2.1) (by omega) (by omega)
  have b2 := i_inB (i := i + 2) (n := G.2.2.1.2.1) (by omega) (by omega)
  have b3 := i_inB (i := i + 3) (n := G.2.2.1.2.1) (by omega) (by omega)
  have r0 := St_r0 st
  have r8 := St_r8 st
  obtain ⟨x, e1, e2⟩ := c_unit st (p := G.2.2.1.2.2 (i + 1)) (q := G.2.2.1.2.2 (i + 2)) (side := G.2.2.1.2.2 (i + 3))
  have e1' := fun {β : Type} {f : jx_R → Option β} => bnd (f := f) e1
  have e2' := fun {β : Type} {f : jx_R → Option β} => bnd (f := f) e2
  refine ⟨E, H, Nat.le_succ _, st, ?_⟩
  simp (disch := omega) only [e_191_0, e_191_7, e_191_15, e_191_26, e_191_92, e_191_101, e_191_110, e_191_113, e_191_117, e_191_121, e_191_124, e_191_126, e_191_140, e_191_154, e_191_157, e_191_159, e_191_178, e_191_197, e_191_200, e_191_202, e_191_221, e_191_240, e_191_243, e_191_245, e_191_259, e_191_273, e_191_276, e_191_278, e_191_282, e_191_286, e_191_289, e_191_291, e_191_310, e_191_329, e_191_332, e_191_334, e_191_338, e_191_342, e_191_345, e_191_347, e_191_356, e_191_365, e_191_368, e_191_370, e_191_379, e_191_388, e_191_391, e_191_393, e_191_399, i_cl, b0, b1, b2, b3, r0, r8, hv, ↓e1', ↓e2', ↓Option.bind_some, ↓jzo_0b, ↓jzo_1b, ↓jzo_bb, Option.toList_some, Option.toList_none, List.cons_append, List.nil_append, ↓reduceIte, jzo_0, jzo_1, jzo_b, jbi_t, jbi_f, i_add, ↓i_ltP, ↓i_ltN, ↓i_eqP, ↓i_eqN, i_lt, i_eq, jbi_0, pt_lt, pf_lt, pt_eq, pf_eq, pt_le, pf_le, Nat.reduceEqDiff, eq_self, true_or, or_true, false_or, or_false, true_and, and_true, false_and, and_false, jE_sw, jE_sw0]
theorem lw_8 {G : jx_Gv} {o E i : Nat} {H : jx_H} (st : St G o E H) (hi : i + 4 ≤ G.2.2.1.2.1) (hl : G.2.2.1.2.1 ≤ 2048) (hv : G.2.2.1.2.2 i &&& Int32.ofNat 15 = Int32.ofNat 8) : ∃ (E' : Nat) (H' : jx_H), E' ≤ E + 1 ∧ St G o E' H' ∧ jE G (191, 26, [some (.ref G.2.2.1.1), some (.ref o), some (.ref (o + 11)), some (.int (Int32.ofNat i))], [], H) = jE G (191, 18, [some (.ref G.2.2.1.1), some (.ref o), some (.ref (o + 11)), some (.int (Int32.ofNat (i + 4)))], [], H') := by
  have b0 := i_inB (i := i) (n := G.2.2.1.2.1) (by omega) (by omega)
  have b1 := i_inB (i := i + 1) (n := G.2.2.1.2.1) (by omega) (by omega)
  have b2 := i_inB (i := i + 2) (n := G.2.2.1.2.1) (by omega) (by omega)
  have b3 := i_inB (i := i + 3) (n := G.2.2.1.2.1) (by omega) (by omega)
  have r0 := St_r0 st
  have r8 := St_r8 st
  obtain ⟨x, H1, H2, e1, e2, v8, st2⟩ := c_print st
  have e1' := fun {β : Type} {f : jx_R → Option β} => bnd (f := f) e1
  have e2' := fun {β : Type} {f : jx_R → Option β} => bnd (f := f) e2
  refine ⟨E, H2, Nat.le_succ _, st2, ?_⟩
  simp (disch := omega) only [e_191_0, e_191_7, e_191_15, e_191_26, e_191_92, e_191_101, e_191_110, e_191_113, e_191_117, e_191_121, e_191_124, e_191_126, e_191_140, e_191_154, e_191_157, e_191_159, e_191_178, e_191_197, e_191_200, e_191_202, e_191_221, e_191_240, e_191_243, e_191_245, e_191_259, e_191_273, e_191_276, e_191_278, e_191_282, e_191_286, e_191_289, e_191_291, e_191_310, e_191_329, e_191_332, e_191_334, e_191_338, e_191_342, e_191_345, e_191_347, e_191_356, e_191_365, e_191_368, e_191_370, e_191_379, e_191_388, e_191_391, e_191_393, e_191_399, i_cl, b0, b1, b2, b3, r0, r8, hv, v8, ↓e1', ↓e2', ↓Option.bind_some, ↓jzo_0b, ↓jzo_1b, ↓jzo_bb, Option.toList_some, Option.toList_none, List.cons_append, List.nil_append, ↓reduceIte, jzo_0, jzo_1, jzo_b, jbi_t, jbi_f, i_add, ↓i_ltP, ↓i_ltN, ↓i_eqP, ↓i_eqN, i_lt, i_eq, jbi_0, pt_lt, pf_lt, pt_eq, pf_eq, pt_le, pf_le, Nat.reduceEqDiff, eq_self, true_or, or_true, false_or, or_false, true_and, and_true, false_and, and_false, jE_sw, jE_sw0]
theorem lw_9 {G : jx_Gv} {o E i : Nat} {H : jx_H} (st : St G o E H) (hi : i + 4 ≤ G.2.2.1.2.1) (hl : G.2.2.1.2.1 ≤ 2048) (hv : G.2.2.1.2.2 i &&& Int32.ofNat 15 = Int32.ofNat 9) : ∃ (E' : Nat) (H' : jx_H), E' ≤ E + 1 ∧ St G o E' H' ∧ jE G (191, 26, [some (.ref G.2.2.1.1), some (.ref o), some (.ref (o + 11)), some (.int (Int32.ofNat i))], [], H) = jE G (191, 18, [some (.ref G.2.2.1.1), some (.ref o), some (.ref (o + 11)), some (.int (Int32.ofNat (i + 4)))], [], H') := by
  have b0 := i_inB (i := i) (n := G.2.2.1.2.1) (by omega) (by omega)
  have b1 := i_inB (i := i + 1) (n := G.2.2.1.2.1) (by omega) (by omega)
  have b2 := i_inB (i := i + 2) (n := G.2.2.1.2.1) (by omega) (by omega)
  have b3 := i_inB (i := i + 3) (n := G.2.2.1.2.1) (by omega) (by omega)
  have r0 := St_r0 st
  have r8 := St_r8 st
  obtain ⟨x, e1, e2⟩ := c_at st (i := G.2.2.1.2.2 (i + 1))
  have e1' := fun {β : Type} {f : jx_R → Option β} => bnd (f := f) e1
  have e2' := fun {β : Type} {f : jx_R → Option β} => bnd (f := f) e2
  refine ⟨E, H, Nat.le_succ _, st, ?_⟩
  simp (disch := omega) only [e_191_0, e_191_7, e_191_15, e_191_26, e_191_92, e_191_101, e_191_110, e_191_113, e_191_117, e_191_121, e_191_124, e_191_126, e_191_140, e_191_154, e_191_157, e_191_159, e_191_178, e_191_197, e_191_200, e_191_202, e_191_221, e_191_240, e_191_243, e_191_245, e_191_259, e_191_273, e_191_276, e_191_278, e_191_282, e_191_286, e_191_289, e_191_291, e_191_310, e_191_329, e_191_332, e_191_334, e_191_338, e_191_342, e_191_345, e_191_347, e_191_356, e_191_365, e_191_368, e_191_370, e_191_379, e_191_388, e_191_391, e_191_393, e_191_399, i_cl, b0, b1, b2, b3, r0, r8, hv, ↓e1', ↓e2', ↓Option.bind_some, ↓jzo_0b, ↓jzo_1b, ↓jzo_bb, Option.toList_some, Option.toList_none, List.cons_append, List.nil_append, ↓reduceIte, jzo_0, jzo_1, jzo_b, jbi_t, jbi_f, i_add, ↓i_ltP, ↓i_ltN, ↓i_eqP, ↓i_eqN, i_lt, i_eq, jbi_0, pt_lt, pf_lt, pt_eq, pf_eq, pt_le, pf_le, Nat.reduceEqDiff, eq_self, true_or, or_true, false_or, or_false, true_and, and_true, false_and, and_false, jE_sw, jE_sw0]
theorem lw_10 {G : jx_Gv} {o E i : Nat} {H : jx_H} (st : St G o E H) (hi : i + 4 ≤ G.2.2.1.2.1) (hl : G.2.2.1.2.1 ≤ 2048) (hv : G.2.2.1.2.2 i &&& Int32.ofNat 15 = Int32.ofNat 10) (hE : E ≤ i) : ∃ (E' : Nat) (H' : jx_H), E' ≤ E + 1 ∧ St G o E' H' ∧ jE G (191, 26, [some (.ref G.2.2.1.1), some (.ref o), some (.ref (o + 11)), some (.int (Int32.ofNat i))], [], H) = jE G (191, 18, [some (.ref G.2.2.1.1), some (.ref o), some (.ref (o + 11)), some (.int (Int32.ofNat (i + 4)))], [], H') := by
  have b0 := i_inB (i := i) (n := G.2.2.1.2.1) (by omega) (by omega)
  have b1 := i_inB (i := i + 1) (n := G.2.2.1.2.1) (by omega) (by omega)
  have b2 := i_inB (i := i + 2) (n := G.2.2.1.2.1) (by omega) (by omega)
  have b3 := i_inB (i := i + 3) (n := G.2.2.1.2.1) (by omega) (by omega)
  have r0 := St_r0 st
  have r8 := St_r8 st
  obtain ⟨x, e1, e2⟩ := c_compare st (by omega) (x := G.2.2.1.2.2 (i + 1))
  have e1' := fun {β : Type} {f : jx_R → Option β} => bnd (f := f) e1
  have e2' := fun {β : Type} {f : jx_R → Option β} => bnd (f := f) e2
  refine ⟨E, H, Nat.le_succ _, st, ?_⟩
  simp (disch := omega) only [e_191_0, e_191_7, e_191_15, e_191_26, e_191_92, e_191_101, e_191_110, e_191_113, e_191_117, e_191_121, e_191_124, e_191_126, e_191_140, e_191_154, e_191_157, e_191_159, e_191_178, e_191_197, e_191_200, e_191_202, e_191_221, e_191_240, e_191_243, e_191_245, e_191_259, e_191_273, e_191_276, e_191_278, e_191_282, e_191_286, e_191_289, e_191_291, e_191_310, e_191_329, e_191_332, e_191_334, e_191_338, e_191_342, e_191_345, e_191_347, e_191_356, e_191_365, e_191_368, e_191_370, e_191_379, e_191_388, e_191_391, e_191_393, e_191_399, i_cl, b0, b1, b2, b3, r0, r8, hv, ↓e1', ↓e2', ↓Option.bind_some, ↓jzo_0b, ↓jzo_1b, ↓jzo_bb, Option.toList_some, Option.toList_none, List.cons_append, List.nil_append, ↓reduceIte, jzo_0, jzo_1, jzo_b, jbi_t, jbi_f, i_add, ↓i_ltP, ↓i_ltN, ↓i_eqP, ↓i_eqN, i_lt, i_eq, jbi_0, pt_lt, pf_lt, pt_eq, pf_eq, pt_le, pf_le, Nat.reduceEqDiff, eq_self, true_or, or_true, false_or, or_false, true_and, and_true, false_and, and_false, jE_sw, jE_sw0]
theorem lw_x {G : jx_Gv} {o E i : Nat} {H : jx_H} (st : St G o E H) (hi : i + 4 ≤ G.2.2.1.2.1) (hl : G.2.2.1.2.1 ≤ 2048) (n0 : ¬ G.2.2.1.2.2 i &&& Int32.ofNat 15 = Int32.ofNat 0) (n1 : ¬ G.2.2.1.2.2 i &&& Int32.ofNat 15 = Int32.ofNat 1) (n2 : ¬ G.2.2.1.2.2 i &&& Int32.ofNat 15 = Int32.ofNat 2) (n3 : ¬ G.2.2.1.2.2 i &&& Int32.ofNat 15 = Int32.ofNat 3) (n4 : ¬ G.2.2.1.2.2 i &&& Int32.ofNat 15 = Int32.ofNat 4) (n5 : ¬ G.2.2.1.2.2 i &&& Int32.ofNat 15 = Int32.ofNat 5) (n6 : ¬ G.2.2.1.2.2 i &&& Int32.ofNat 15 = Int32.ofNat 6) (n7 : ¬ G.2.2.1.2.2 i &&& Int32.ofNat 15 = Int32.ofNat 7) (n8 : ¬ G.2.2.1.2.2 i &&& Int32.ofNat 15 = Int32.ofNat 8) (n9 : ¬ G.2.2.1.2.2 i &&& Int32.ofNat 15 = Int32.ofNat 9) (n10 : ¬ G.2.2.1.2.2 i &&& Int32.ofNat 15 = Int32.ofNat 10) : ∃ (E' : Nat) (H' : jx_H), E' ≤ E + 1 ∧ St G o E' H' ∧ jE G (191, 26, [some (.ref G.2.2.1.1), some (.ref o), some (.ref (o + 11)), some (.int (Int32.ofNat i))], [], H) = jE G (191, 18, [some (.ref G.2.2.1.1), some (.ref o), some (.ref (o + 11)), some (.int (Int32.ofNat (i + 4)))], [], H') := by
  have b0 := i_inB (i := i) (n := G.2.2.1.2.1) (by omega) (by omega)
  have b1 := i_inB (i := i + 1) (n := G.2.2.1.2.1) (by omega) (by omega)
  have b2 := i_inB (i := i + 2) (n := G.2.2.1.2.1) (by omega) (by omega)
  have b3 := i_inB (i := i + 3) (n := G.2.2.1.2.1) (by omega) (by omega)
  have r0 := St_r0 st
  have r8 := St_r8 st
  refine ⟨E, H, Nat.le_succ _, st, ?_⟩
  simp (disch := omega) only [e_191_0, e_191_7, e_191_15, e_191_26, e_191_92, e_191_101, e_191_110, e_191_113, e_191_117, e_191_121, e_191_124, e_191_126, e_191_140, e_191_154, e_191_157, e_191_159, e_191_178, e_191_197, e_191_200, e_191_202, e_191_221, e_191_240, e_191_243, e_191_245, e_191_259, e_191_273, e_191_276, e_191_278, e_191_282, e_191_286, e_191_289, e_191_291, e_191_310, e_191_329, e_191_332, e_191_334, e_191_338, e_191_342, e_191_345, e_191_347, e_191_356, e_191_365, e_191_368, e_191_370, e_191_379, e_191_388, e_191_391, e_191_393, e_191_399, i_cl, b0, b1, b2, b3, r0, r8, n0, n1, n2, n3, n4, n5, n6, n7, n8, n9, n10, ↓Option.bind_some, ↓jzo_0b, ↓jzo_1b, ↓jzo_bb, Option.toList_some, Option.toList_none, List.cons_append, List.nil_append, ↓reduceIte, jzo_0, jzo_1, jzo_b, jbi_t, jbi_f, i_add, ↓i_ltP, ↓i_ltN, ↓i_eqP, ↓i_eqN, i_lt, i_eq, jbi_0, pt_lt, pf_lt, pt_eq, pf_eq, pt_le, pf_le, Nat.reduceEqDiff, eq_self, true_or, or_true, false_or, or_false, true_and, and_true, false_and, and_false, jE_sw, jE_sw0]
theorem lw_step {G : jx_Gv} {o E i : Nat} {H : jx_H} (st : St G o E H) (hi : i + 4 ≤ G.2.2.1.2.1) (hl : G.2.2.1.2.1 ≤ 2048) (hG : jLt G) (hE : E ≤ i) : ∃ (E' : Nat) (H' : jx_H), E' ≤ E + 1 ∧ St G o E' H' ∧ jE G (191, 26, [some (.ref G.2.2.1.1), some (.ref o), some (.ref (o + 11)), some (.int (Int32.ofNat i))], [], H) = jE G (191, 18, [some (.ref G.2.2.1.1), some (.ref o), some (.ref (o + 11)), some (.int (Int32.ofNat (i + 4)))], [], H') := by
  by_cases n0 : G.2.2.1.2.2 i &&& Int32.ofNat 15 = Int32.ofNat 0
  · exact lw_0 st hi hl n0
  by_cases n1 : G.2.2.1.2.2 i &&& Int32.ofNat 15 = Int32.ofNat 1
  · exact lw_1 st hi hl hG n1 hE
  by_cases n2 : G.2.2.1.2.2 i &&& Int32.ofNat 15 = Int32.ofNat 2
  · exact lw_2 st hi hl n2
  by_cases n3 : G.2.2.1.2.2 i &&& Int32.ofNat 15 = Int32.ofNat 3
  · exact lw_3 st hi hl n3
  by_cases n4 : G.2.2.1.2.2 i &&& Int32.ofNat 15 = Int32.ofNat 4
  · exact lw_4 st hi hl n4
  by_cases n5 : G.2.2.1.2.2 i &&& Int32.ofNat 15 = Int32.ofNat 5
  · exact lw_5 st hi hl n5
  by_cases n6 : G.2.2.1.2.2 i &&& Int32.ofNat 15 = Int32.ofNat 6
  · exact lw_6 st hi hl n6
  by_cases n7 : G.2.2.1.2.2 i &&& Int32.ofNat 15 = Int32.ofNat 7
  · exact lw_7 st hi hl n7
  by_cases n8 : G.2.2.1.2.2 i &&& Int32.ofNat 15 = Int32.ofNat 8
  · exact lw_8 st hi hl n8
  by_cases n9 : G.2.2.1.2.2 i &&& Int32.ofNat 15 = Int32.ofNat 9
  · exact lw_9 st hi hl n9
  by_cases n10 : G.2.2.1.2.2 i &&& Int32.ofNat 15 = Int32.ofNat 10
  · exact lw_10 st hi hl n10 hE
  exact lw_x st hi hl n0 n1 n2 n3 n4 n5 n6 n7 n8 n9 n10
theorem lw_loop {G : jx_Gv} {o : Nat} (hG : jLt G) (hl : G.2.2.1.2.1 ≤ 2048) : ∀ (n i E : Nat) (H : jx_H), i + 4 * n ≤ 4096 → G.2.2.1.2.1 ≤ i + 4 * n + 3 → E ≤ i → St G o E H → ∃ H' : jx_H, jE G (191, 18, [some (.ref G.2.2.1.1), some (.ref o), some (.ref (o + 11)), some (.int (Int32.ofNat i))], [], H) = some (some (.int (Int32.ofNat 1)), H') ∧ H'.1 ≤ o + 600000 ∧ H'.2.1 ≤ 7302250
  | 0, i, E, H, h1, h2, h3, st => by
    have ex := i_ex (len := G.2.2.1.2.1) (i := i) hl (by omega)
    refine ⟨H, ?_, St_sz st⟩
    rw [e_191_18, if_pos rfl, if_pos (by rw [ex]; omega), e_191_399]
    rfl
  | n + 1, i, E, H, h1, h2, h3, st => by
    have ex := i_ex (len := G.2.2.1.2.1) (i := i) hl (by omega)
    by_cases c : G.2.2.1.2.1 < i + 4
    · refine ⟨H, ?_, St_sz st⟩
      rw [e_191_18, if_pos rfl, if_pos (by rw [ex]; exact c), e_191_399]
      rfl
    · obtain ⟨E', H', hE', st', e⟩ := lw_step (i := i) st (by omega) hl hG h3
      obtain ⟨H2, e2, z⟩ := lw_loop hG hl n (i + 4) E' H' (by omega) (by omega) (by omega) st'
      refine ⟨H2, ?_, z⟩
      rw [e_191_18, if_pos rfl, if_neg (by rw [ex]; exact c), e, e2]
