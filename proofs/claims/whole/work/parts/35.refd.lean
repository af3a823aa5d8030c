/-! THE REFERENCE'S CHECK -/
def zfr (Y : jY) (q : Nat) : Nat → Nat → Nat
  | 0, _ => 0
  | d + 1, k => cond (zBR Y q k) k (zfr Y q d (k + 1))
theorem zfr_le {Y : jY} {q : Nat} : ∀ d k : Nat, zfr Y q d k ≤ k + d
  | 0, k => by unfold zfr; omega
  | d + 1, k => by
    have := zfr_le (Y := Y) (q := q) d (k + 1)
    unfold zfr
    cases zBR Y q k <;> simp only [cond_true, cond_false] <;> omega
theorem M_ck1_loop {G : jx_Gv} {h : jx_H} {b : Nat} {Y : jY} (hY : jRh h b Y) (hV : vWF Y) (hI : vIn Y) {j : Nat} (hj : j < vN Y) : ∀ (d k : Nat) (g : Nat → Int32), 1 ≤ k → k + d = 11 → jSn h b g → ∃ g', jE G (166, 22, [some (.ref b), some (.int (Int32.ofNat j)), some (.int (Int32.ofNat k))], [], h) = if zfr Y (j + 1) d k = 0 then jE G (166, 12, [some (.ref b), some (.int (Int32.ofNat (j + 1))), some (.int (Int32.ofNat 11))], [], hsn h b g') else some (some (.int (Int32.ofNat (100 * (j + 1) + zfr Y (j + 1) d k))), hsn h b g')
  | 0, k, g, hk, hd, hg => by
    have h1 := hV.1
    refine ⟨g, ?_⟩
    rw [show hsn h b g = h from hs_id hg.2, e_166_22, zfr, if_pos rfl, show k = 11 by omega]
    simp (disch := omega) only [e_166_0, e_166_7, e_166_10, e_166_20, e_166_28, e_166_34, e_166_37, e_166_46, e_166_52, e_166_58, ↓Option.bind_some, ↓jzo_0b, ↓jzo_1b, ↓jzo_bb, Option.toList_some, Option.toList_none, List.cons_append, List.nil_append, ↓reduceIte, jzo_0, jzo_1, jzo_b, jbi_t, jbi_f, i_add, ↓i_ltP, ↓i_ltN, ↓i_eqP, ↓i_eqN, i_lt, i_eq, jbi_0, pt_lt, pf_lt, pt_eq, pf_eq, pt_le, pf_le, Nat.reduceEqDiff, eq_self, true_or, or_true, false_or, or_false, true_and, and_true, false_and, and_false, jE_sw, jE_sw0]
  | d + 1, k, g, hk, hd, hg => by
    have h1 := hV.1
    obtain ⟨g1, e1⟩ := M_breaks (G := G) hY hV hI (q := j + 1) hg (by omega) (by omega) k hk (by omega)
    rw [jm_s] at e1
    rw [zfr]
    cases c : zBR Y (j + 1) k
    · obtain ⟨g2, e2⟩ := M_ck1_loop (G := G) (jRh_sn (f := g1) hY) hV hI hj d (k + 1) g1 (by omega) (by omega) (jSn_hs hg)
      rw [show hsn (hsn h b g1) b g2 = hsn h b g2 from hsn_hsn] at e2
      refine ⟨g2, ?_⟩
      rw [cond_false, ← e2, e_166_22]
      rw [c] at e1
      have e' := fun {β : Type} {f : jx_R → Option β} => bnd (f := f) e1
      simp (disch := omega) only [e_166_0, e_166_7, e_166_10, e_166_20, e_166_28, e_166_34, e_166_37, e_166_46, e_166_52, e_166_58, rh_rv hY, ↓rh_in_b hY, ↓rh_n_b hY, ↓rh_f34_b hY, ↓rh_f35_b hY, ↓rh_f36_b hY, ↓rh_f37_b hY, ↓rh_f38_b hY, ↓rh_f39_b hY, ↓rh_f40_b hY, ↓rh_f41_b hY, ↓rh_f42_b hY, ↓rh_f43_b hY, ↓rh_f44_b hY, ↓rh_f45_b hY, ↓rh_f46_b hY, ↓rh_f47_b hY, ↓rh_f48_b hY, ↓rh_f49_b hY, ↓rh_f50_b hY, ↓rh_a34_b hY, ↓rh_b34_b hY, ↓rh_a35_b hY, ↓rh_b35_b hY, ↓rh_a36_b hY, ↓rh_b36_b hY, ↓rh_a37_b hY, ↓rh_b37_b hY, ↓rh_a38_b hY, ↓rh_b38_b hY, ↓rh_a39_b hY, ↓rh_b39_b hY, ↓rh_a40_b hY, ↓rh_b40_b hY, ↓rh_a41_b hY, ↓rh_b41_b hY, ↓rh_a42_b hY, ↓rh_b42_b hY, ↓rh_a43_b hY, ↓rh_b43_b hY, ↓rh_a44_b hY, ↓rh_b44_b hY, ↓rh_a45_b hY, ↓rh_b45_b hY, ↓rh_a46_b hY, ↓rh_a47_b hY, ↓rh_a48_b hY, ↓rh_a49_b hY, ↓rh_a50_b hY, ↓Option.bind_some, ↓jzo_0b, ↓jzo_1b, ↓jzo_bb, Option.toList_some, Option.toList_none, List.cons_append, List.nil_append, ↓reduceIte, jzo_0, jzo_1, jzo_b, jbi_t, jbi_f, i_add, ↓i_ltP, ↓i_ltN, ↓i_eqP, ↓i_eqN, i_lt, i_eq, jbi_0, pt_lt, pf_lt, pt_eq, pf_eq, pt_le, pf_le, Nat.reduceEqDiff, eq_self, true_or, or_true, false_or, or_false, true_and, and_true, false_and, and_false, jE_sw, jE_sw0, ↓e']
    · refine ⟨g1, ?_⟩
      rw [cond_true, if_neg (by omega), e_166_22]
      rw [c] at e1
      have e' := fun {β : Type} {f : jx_R → Option β} => bnd (f := f) e1
      simp (disch := omega) only [e_166_0, e_166_7, e_166_10, e_166_20, e_166_28, e_166_34, e_166_37, e_166_46, e_166_52, e_166_58, rh_rv hY, ↓rh_in_b hY, ↓rh_n_b hY, ↓rh_f34_b hY, ↓rh_f35_b hY, ↓rh_f36_b hY, ↓rh_f37_b hY, ↓rh_f38_b hY, ↓rh_f39_b hY, ↓rh_f40_b hY, ↓rh_f41_b hY, ↓rh_f42_b hY, ↓rh_f43_b hY, ↓rh_f44_b hY, ↓rh_f45_b hY, ↓rh_f46_b hY, ↓rh_f47_b hY, ↓rh_f48_b hY, ↓rh_f49_b hY, ↓rh_f50_b hY, ↓rh_a34_b hY, ↓rh_b34_b hY, ↓rh_a35_b hY, ↓rh_b35_b hY, ↓rh_a36_b hY, ↓rh_b36_b hY, ↓rh_a37_b hY, ↓rh_b37_b hY, ↓rh_a38_b hY, ↓rh_b38_b hY, ↓rh_a39_b hY, ↓rh_b39_b hY, ↓rh_a40_b hY, ↓rh_b40_b hY, ↓rh_a41_b hY, ↓rh_b41_b hY, ↓rh_a42_b hY, ↓rh_b42_b hY, ↓rh_a43_b hY, ↓rh_b43_b hY, ↓rh_a44_b hY, ↓rh_b44_b hY, ↓rh_a45_b hY, ↓rh_b45_b hY, ↓rh_a46_b hY, ↓rh_a47_b hY, ↓rh_a48_b hY, ↓rh_a49_b hY, ↓rh_a50_b hY, ↓Option.bind_some, ↓jzo_0b, ↓jzo_1b, ↓jzo_bb, Option.toList_some, Option.toList_none, List.cons_append, List.nil_append, ↓reduceIte, jzo_0, jzo_1, jzo_b, jbi_t, jbi_f, i_add, ↓i_ltP, ↓i_ltN, ↓i_eqP, ↓i_eqN, i_lt, i_eq, jbi_0, pt_lt, pf_lt, pt_eq, pf_eq, pt_le, pf_le, Nat.reduceEqDiff, eq_self, true_or, or_true, false_or, or_false, true_and, and_true, false_and, and_false, jE_sw, jE_sw0, ↓e', i_mul]
def zck (Y : jY) : Nat → Nat → Nat
  | 0, _ => 0
  | d + 1, j => if zfr Y (j + 1) 10 1 = 0 then zck Y d (j + 1) else 100 * (j + 1) + zfr Y (j + 1) 10 1
theorem M_ck0_loop {G : jx_Gv} {h : jx_H} {b : Nat} {Y : jY} (hY : jRh h b Y) (hV : vWF Y) (hI : vIn Y) : ∀ (d j : Nat) (g : Nat → Int32) (z2 : Option Value), j + d = vN Y → jSn h b g → ∃ g', jE G (166, 12, [some (.ref b), some (.int (Int32.ofNat j)), z2], [], h) = some (some (.int (Int32.ofNat (zck Y d j))), hsn h b g')
  | 0, j, g, z2, hj, hg => by
    have h1 := hV.1
    refine ⟨g, ?_⟩
    rw [show hsn h b g = h from hs_id hg.2, e_166_12, zck]
    simp (disch := omega) only [e_166_0, e_166_7, e_166_10, e_166_20, e_166_28, e_166_34, e_166_37, e_166_46, e_166_52, e_166_58, rh_rv hY, ↓rh_in_b hY, ↓rh_n_b hY, ↓rh_f34_b hY, ↓rh_f35_b hY, ↓rh_f36_b hY, ↓rh_f37_b hY, ↓rh_f38_b hY, ↓rh_f39_b hY, ↓rh_f40_b hY, ↓rh_f41_b hY, ↓rh_f42_b hY, ↓rh_f43_b hY, ↓rh_f44_b hY, ↓rh_f45_b hY, ↓rh_f46_b hY, ↓rh_f47_b hY, ↓rh_f48_b hY, ↓rh_f49_b hY, ↓rh_f50_b hY, ↓rh_a34_b hY, ↓rh_b34_b hY, ↓rh_a35_b hY, ↓rh_b35_b hY, ↓rh_a36_b hY, ↓rh_b36_b hY, ↓rh_a37_b hY, ↓rh_b37_b hY, ↓rh_a38_b hY, ↓rh_b38_b hY, ↓rh_a39_b hY, ↓rh_b39_b hY, ↓rh_a40_b hY, ↓rh_b40_b hY, ↓rh_a41_b hY, ↓rh_b41_b hY, ↓rh_a42_b hY, ↓rh_b42_b hY, ↓rh_a43_b hY, ↓rh_b43_b hY, ↓rh_a44_b hY, ↓rh_b44_b hY, ↓rh_a45_b hY, ↓rh_b45_b hY, ↓rh_a46_b hY, ↓rh_a47_b hY, ↓rh_a48_b hY, ↓rh_a49_b hY, ↓rh_a50_b hY, ↓Option.bind_some, ↓jzo_0b, ↓jzo_1b, ↓jzo_bb, Option.toList_some, Option.toList_none, List.cons_append, List.nil_append, ↓reduceIte, jzo_0, jzo_1, jzo_b, jbi_t, jbi_f, i_add, ↓i_ltP, ↓i_ltN, ↓i_eqP, ↓i_eqN, i_lt, i_eq, jbi_0, pt_lt, pf_lt, pt_eq, pf_eq, pt_le, pf_le, Nat.reduceEqDiff, eq_self, true_or, or_true, false_or, or_false, true_and, and_true, false_and, and_false, jE_sw, jE_sw0]
  | d + 1, j, g, z2, hj, hg => by
    have h1 := hV.1
    obtain ⟨g1, e1⟩ := M_ck1_loop (G := G) hY hV hI (j := j) (by omega) 10 1 g (by omega) (by omega) hg
    rw [zck]
    by_cases c : zfr Y (j + 1) 10 1 = 0
    · obtain ⟨g2, e2⟩ := M_ck0_loop (G := G) (jRh_sn (f := g1) hY) hV hI d (j + 1) g1 (some (.int (Int32.ofNat 11))) (by omega) (jSn_hs hg)
      rw [show hsn (hsn h b g1) b g2 = hsn h b g2 from hsn_hsn] at e2
      refine ⟨g2, ?_⟩
      rw [if_pos c] at e1 ⊢
      rw [← e2, ← e1, e_166_12]
      simp (disch := omega) only [e_166_0, e_166_7, e_166_10, e_166_20, e_166_28, e_166_34, e_166_37, e_166_46, e_166_52, e_166_58, rh_rv hY, ↓rh_in_b hY, ↓rh_n_b hY, ↓rh_f34_b hY, ↓rh_f35_b hY, ↓rh_f36_b hY, ↓rh_f37_b hY, ↓rh_f38_b hY, ↓rh_f39_b hY, ↓rh_f40_b hY, ↓rh_f41_b hY, ↓rh_f42_b hY, ↓rh_f43_b hY, ↓rh_f44_b hY, ↓rh_f45_b hY, ↓rh_f46_b hY, ↓rh_f47_b hY, ↓rh_f48_b hY, ↓rh_f49_b hY, ↓rh_f50_b hY, ↓rh_a34_b hY, ↓rh_b34_b hY, ↓rh_a35_b hY, ↓rh_b35_b hY, ↓rh_a36_b hY, ↓rh_b36_b hY, ↓rh_a37_b hY, ↓rh_b37_b hY, ↓rh_a38_b hY, ↓rh_b38_b hY, ↓rh_a39_b hY, ↓rh_b39_b hY, ↓rh_a40_b hY, ↓rh_b40_b hY, ↓rh_a41_b hY, ↓rh_b41_b hY, ↓rh_a42_b hY, ↓rh_b42_b hY, ↓rh_a43_b hY, ↓rh_b43_b hY, ↓rh_a44_b hY, ↓rh_b44_b hY, ↓rh_a45_b hY, ↓rh_b45_b hY, ↓rh_a46_b hY, ↓rh_a47_b hY, ↓rh_a48_b hY, ↓rh_a49_b hY, ↓rh_a50_b hY, ↓Option.bind_some, ↓jzo_0b, ↓jzo_1b, ↓jzo_bb, Option.toList_some, Option.toList_none, List.cons_append, List.nil_append, ↓reduceIte, jzo_0, jzo_1, jzo_b, jbi_t, jbi_f, i_add, ↓i_ltP, ↓i_ltN, ↓i_eqP, ↓i_eqN, i_lt, i_eq, jbi_0, pt_lt, pf_lt, pt_eq, pf_eq, pt_le, pf_le, Nat.reduceEqDiff, eq_self, true_or, or_true, false_or, or_false, true_and, and_true, false_and, and_false, jE_sw, jE_sw0]
    · refine ⟨g1, ?_⟩
      rw [if_neg c] at e1 ⊢
      rw [← e1, e_166_12]
      simp (disch := omega) only [e_166_0, e_166_7, e_166_10, e_166_20, e_166_28, e_166_34, e_166_37, e_166_46, e_166_52, e_166_58, rh_rv hY, ↓rh_in_b hY, ↓rh_n_b hY, ↓rh_f34_b hY, ↓rh_f35_b hY, ↓rh_f36_b hY, ↓rh_f37_b hY, ↓rh_f38_b hY, ↓rh_f39_b hY, ↓rh_f40_b hY, ↓rh_f41_b hY, ↓rh_f42_b hY, ↓rh_f43_b hY, ↓rh_f44_b hY, ↓rh_f45_b hY, ↓rh_f46_b hY, ↓rh_f47_b hY, ↓rh_f48_b hY, ↓rh_f49_b hY, ↓rh_f50_b hY, ↓rh_a34_b hY, ↓rh_b34_b hY, ↓rh_a35_b hY, ↓rh_b35_b hY, ↓rh_a36_b hY, ↓rh_b36_b hY, ↓rh_a37_b hY, ↓rh_b37_b hY, ↓rh_a38_b hY, ↓rh_b38_b hY, ↓rh_a39_b hY, ↓rh_b39_b hY, ↓rh_a40_b hY, ↓rh_b40_b hY, ↓rh_a41_b hY, ↓rh_b41_b hY, ↓rh_a42_b hY, ↓rh_b42_b hY, ↓rh_a43_b hY, ↓rh_b43_b hY, ↓rh_a44_b hY, ↓rh_b44_b hY, ↓rh_a45_b hY, ↓rh_b45_b hY, ↓rh_a46_b hY, ↓rh_a47_b hY, ↓rh_a48_b hY, ↓rh_a49_b hY, ↓rh_a50_b hY, ↓Option.bind_some, ↓jzo_0b, ↓jzo_1b, ↓jzo_bb, Option.toList_some, Option.toList_none, List.cons_append, List.nil_append, ↓reduceIte, jzo_0, jzo_1, jzo_b, jbi_t, jbi_f, i_add, ↓i_ltP, ↓i_ltN, ↓i_eqP, ↓i_eqN, i_lt, i_eq, jbi_0, pt_lt, pf_lt, pt_eq, pf_eq, pt_le, pf_le, Nat.reduceEqDiff, eq_self, true_or, or_true, false_or, or_false, true_and, and_true, false_and, and_false, jE_sw, jE_sw0]
theorem M_check {G : jx_Gv} {h : jx_H} {b : Nat} {Y : jY} (hY : jRh h b Y) (hV : vWF Y) (hI : vIn Y) {g : Nat → Int32} (hg : jSn h b g) : ∃ g', jE G (166, 0, [some (.ref b), none, none], [], h) = some (some (.int (Int32.ofNat (zck Y (vN Y) 0))), hsn h b g') := by
  obtain ⟨g1, e1⟩ := M_ck0_loop (G := G) hY hV hI (vN Y) 0 g none (by omega) hg
  refine ⟨g1, ?_⟩
  simp (disch := omega) only [e_166_0, e_166_7, e_166_10, e_166_20, e_166_28, e_166_34, e_166_37, e_166_46, e_166_52, e_166_58, rh_rv hY, ↓rh_in_b hY, ↓rh_n_b hY, ↓rh_f34_b hY, ↓rh_f35_b hY, ↓rh_f36_b hY, ↓rh_f37_b hY, ↓rh_f38_b hY, ↓rh_f39_b hY, ↓rh_f40_b hY, ↓rh_f41_b hY, ↓rh_f42_b hY, ↓rh_f43_b hY, ↓rh_f44_b hY, ↓rh_f45_b hY, ↓rh_f46_b hY, ↓rh_f47_b hY, ↓rh_f48_b hY, ↓rh_f49_b hY, ↓rh_f50_b hY, ↓rh_a34_b hY, ↓rh_b34_b hY, ↓rh_a35_b hY, ↓rh_b35_b hY, ↓rh_a36_b hY, ↓rh_b36_b hY, ↓rh_a37_b hY, ↓rh_b37_b hY, ↓rh_a38_b hY, ↓rh_b38_b hY, ↓rh_a39_b hY, ↓rh_b39_b hY, ↓rh_a40_b hY, ↓rh_b40_b hY, ↓rh_a41_b hY, ↓rh_b41_b hY, ↓rh_a42_b hY, ↓rh_b42_b hY, ↓rh_a43_b hY, ↓rh_b43_b hY, ↓rh_a44_b hY, ↓rh_b44_b hY, ↓rh_a45_b hY, ↓rh_b45_b hY, ↓rh_a46_b hY, ↓rh_a47_b hY, ↓rh_a48_b hY, ↓rh_a49_b hY, ↓rh_a50_b hY, ↓Option.bind_some, ↓jzo_0b, ↓jzo_1b, ↓jzo_bb, Option.toList_some, Option.toList_none, List.cons_append, List.nil_append, ↓reduceIte, jzo_0, jzo_1, jzo_b, jbi_t, jbi_f, i_add, ↓i_ltP, ↓i_ltN, ↓i_eqP, ↓i_eqN, i_lt, i_eq, jbi_0, pt_lt, pf_lt, pt_eq, pf_eq, pt_le, pf_le, Nat.reduceEqDiff, eq_self, true_or, or_true, false_or, or_false, true_and, and_true, false_and, and_false, jE_sw, jE_sw0]
  exact e1
