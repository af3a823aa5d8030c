/-! THE LAW OUT OF ONE EQUATION OF THE FUNCTION -/
def jx_okl (Z : jx_Z) (nl : Nat → Nat) : Nat → List (List (Nat × jx_B)) → Prop
  | _, [] => True
  | i, l :: ls => (∀ e ∈ l, jx_OkB Z nl i e.1 e.2) ∧ jx_okl Z nl (i + 1) ls
theorem jx_okl_at {Z : jx_Z} {nl : Nat → Nat} : ∀ (ls : List (List (Nat × jx_B))) (i : Nat), jx_okl Z nl i ls → ∀ (k : Nat) (l : List (Nat × jx_B)), ls[k]? = some l → ∀ e ∈ l, jx_OkB Z nl (i + k) e.1 e.2
  | [], _, _, k, l, h => by simp at h
  | x :: ls, i, hk, 0, l, h => by
    simp at h
    subst h
    exact hk.1
  | x :: ls, i, hk, k + 1, l, h => by
    have := jx_okl_at ls (i + 1) hk.2 k l (by simpa using h)
    intro e he
    rw [show i + (k + 1) = i + 1 + k by omega]
    exact this e he
set_option maxRecDepth 100000 in
theorem jB_all {l : Launch} {dC : Nat → ClassId} {dI : Nat → Nat → Nat} {aC : Nat → ClassId} {H0 : Heap} {G : jx_Gv} (hG : jx_GZ (jZ l dC dI aC H0 G)) (hb : G.2.2.1.1 < H0.size) : jx_okl (jZ l dC dI aC H0 G) jNl 0 (jBs G) := ⟨obs_0 hG hb, obs_1 hG hb, obs_2 hG hb, obs_3 hG hb, obs_4 hG hb, obs_5 hG hb, obs_6 hG hb, obs_7 hG hb, obs_8 hG hb, obs_9 hG hb, obs_10 hG hb, obs_11 hG hb, obs_12 hG hb, obs_13 hG hb, obs_14 hG hb, obs_15 hG hb, obs_16 hG hb, obs_17 hG hb, obs_18 hG hb, obs_19 hG hb, obs_20 hG hb, obs_21 hG hb, obs_22 hG hb, obs_23 hG hb, obs_24 hG hb, obs_25 hG hb, obs_26 hG hb, obs_27 hG hb, obs_28 hG hb, obs_29 hG hb, obs_30 hG hb, obs_31 hG hb, obs_32 hG hb, obs_33 hG hb, obs_34 hG hb, obs_35 hG hb, obs_36 hG hb, obs_37 hG hb, obs_38 hG hb, obs_39 hG hb, obs_40 hG hb, obs_41 hG hb, obs_42 hG hb, obs_43 hG hb, obs_44 hG hb, obs_45 hG hb, obs_46 hG hb, obs_47 hG hb, obs_48 hG hb, obs_49 hG hb, obs_50 hG hb, obs_51 hG hb, obs_52 hG hb, obs_53 hG hb, obs_54 hG hb, obs_55 hG hb, obs_56 hG hb, obs_57 hG hb, obs_58 hG hb, obs_59 hG hb, obs_60 hG hb, obs_61 hG hb, obs_62 hG hb, obs_63 hG hb, obs_64 hG hb, obs_65 hG hb, obs_66 hG hb, obs_67 hG hb, obs_68 hG hb, obs_69 hG hb, obs_70 hG hb, obs_71 hG hb, obs_72 hG hb, obs_73 hG hb, obs_74 hG hb, obs_75 hG hb, obs_76 hG hb, obs_77 hG hb, obs_78 hG hb, obs_79 hG hb, obs_80 hG hb, obs_81 hG hb, obs_82 hG hb, obs_83 hG hb, obs_84 hG hb, obs_85 hG hb, obs_86 hG hb, obs_87 hG hb, obs_88 hG hb, obs_89 hG hb, obs_90 hG hb, obs_91 hG hb, obs_92 hG hb, obs_93 hG hb, obs_94 hG hb, obs_95 hG hb, obs_96 hG hb, obs_97 hG hb, obs_98 hG hb, obs_99 hG hb, obs_100 hG hb, obs_101 hG hb, obs_102 hG hb, obs_103 hG hb, obs_104 hG hb, obs_105 hG hb, obs_106 hG hb, obs_107 hG hb, obs_108 hG hb, obs_109 hG hb, obs_110 hG hb, obs_111 hG hb, obs_112 hG hb, obs_113 hG hb, obs_114 hG hb, obs_115 hG hb, obs_116 hG hb, obs_117 hG hb, obs_118 hG hb, obs_119 hG hb, obs_120 hG hb, obs_121 hG hb, obs_122 hG hb, obs_123 hG hb, obs_124 hG hb, obs_125 hG hb, obs_126 hG hb, obs_127 hG hb, obs_128 hG hb, obs_129 hG hb, obs_130 hG hb, obs_131 hG hb, obs_132 hG hb, obs_133 hG hb, obs_134 hG hb, obs_135 hG hb, obs_136 hG hb, obs_137 hG hb, obs_138 hG hb, obs_139 hG hb, obs_140 hG hb, obs_141 hG hb, obs_142 hG hb, obs_143 hG hb, obs_144 hG hb, obs_145 hG hb, obs_146 hG hb, obs_147 hG hb, obs_148 hG hb, obs_149 hG hb, obs_150 hG hb, obs_151 hG hb, obs_152 hG hb, obs_153 hG hb, obs_154 hG hb, obs_155 hG hb, obs_156 hG hb, obs_157 hG hb, obs_158 hG hb, obs_159 hG hb, obs_160 hG hb, obs_161 hG hb, obs_162 hG hb, obs_163 hG hb, obs_164 hG hb, obs_165 hG hb, obs_166 hG hb, obs_167 hG hb, obs_168 hG hb, obs_169 hG hb, obs_170 hG hb, obs_171 hG hb, obs_172 hG hb, obs_173 hG hb, obs_174 hG hb, obs_175 hG hb, obs_176 hG hb, obs_177 hG hb, obs_178 hG hb, obs_179 hG hb, obs_180 hG hb, obs_181 hG hb, obs_182 hG hb, obs_183 hG hb, obs_184 hG hb, obs_185 hG hb, obs_186 hG hb, obs_187 hG hb, obs_188 hG hb, obs_189 hG hb, obs_190 hG hb, obs_191 hG hb, trivial⟩
theorem jB_ok {l : Launch} {dC : Nat → ClassId} {dI : Nat → Nat → Nat} {aC : Nat → ClassId} {H0 : Heap} {G : jx_Gv} (hG : jx_GZ (jZ l dC dI aC H0 G)) (hb : G.2.2.1.1 < H0.size) : ∀ (y pc : Nat) (b : jx_B), jB G y pc = some b → jx_OkB (jZ l dC dI aC H0 G) jNl y pc b := by
  intro y pc b h
  have h1 := jx_lk_mem h
  rcases Nat.lt_or_ge y (jBs G).length with hl | hl
  · rw [List.getD_eq_getElem?_getD, List.getElem?_eq_getElem hl] at h1
    have h2 := jx_okl_at (jBs G) 0 (jB_all hG hb) y _ (List.getElem?_eq_getElem hl) _ h1
    rw [Nat.zero_add] at h2
    exact h2
  · rw [List.getD_eq_getElem?_getD, List.getElem?_eq_none hl] at h1
    exact absurd h1 List.not_mem_nil
theorem jGZ {l : Launch} {dC : Nat → ClassId} {dI : Nat → Nat → Nat} {aC : Nat → ClassId} {H0 : Heap} {G : jx_Gv} : jx_GZ (jZ l dC dI aC H0 G) := by
  refine ⟨fun w hw => good_of_word (List.mem_filter.mp hw).2, fun s U hW h => ?_, fun s g mk a h => ?_⟩
  · obtain ⟨h1, h2, h3, h4, h5, h6⟩ := h
    exact ⟨fun q hq => (h1 q hq).warm hW, h2.moved hW.alike, h3.moved hW.alike, h4.moved hW.alike, h5.moved hW.alike, h6.moved hW.alike⟩
  · obtain ⟨h1, h2, h3, h4, h5, h6⟩ := h
    exact ⟨fun q hq => (h1 q hq).same rfl, h2.moved (Vm.Alike.refl s.vm), h3.moved (Vm.Alike.refl s.vm), h4.moved (Vm.Alike.refl s.vm), h5.moved (Vm.Alike.refl s.vm), h6.moved (Vm.Alike.refl s.vm)⟩
def jtm : Nat → Term := fun i => match i with
  | 0 => .string "PartText$Words" 15
  | 1 => .string "PartText$Reader" 19
  | 2 => .string "PartText$Scanner" 60
  | 3 => .string "PartText$Reader" 109
  | 4 => .string "PartText$Reader" 111
  | 5 => .string "PartText$Reader" 113
  | 6 => .string "PartText$Reader" 115
  | 7 => .string "PartText$Reader" 117
  | 8 => .string "PartText$Reader" 119
  | 9 => .string "PartText$Reader" 148
  | _ => .string "PartText$Reader" 150
/-- what is known of the literals' addresses: two of one address are one; two whose bytes are one array have the same bytes -/
def jx_GF (G : jx_Gv) : Prop := (∀ i j : Nat, i < 11 → j < 11 → G.1 i = G.1 j → i = j) ∧ ∀ i j : Nat, i < 11 → j < 11 → G.2.1 i = G.2.1 j → jlen.getD i 0 = jlen.getD j 0 ∧ ∀ k : Nat, k < jlen.getD i 0 → (jbyt.getD i []).getD k 0 = (jbyt.getD j []).getD k 0
/-- WHAT IS LEFT: the function's answer for the law is 1, within the room -/
def jx_Goal : Prop := ∀ (G : jx_Gv) (n0 : Nat), jx_GF G → G.2.2.1.2.1 ≤ 2048 → ∃ h' : jx_H, jE G (191, 0, [some (.ref G.2.2.1.1), none, none, none], [], (n0, 0, fun _ => none)) = some (some (.int 1), h') ∧ h'.1 ≤ n0 + 600000 ∧ h'.2.1 ≤ 7302250
theorem jx_GF_of {N : Nat} {ad adV : Nat → Nat} {A : Nat → Prop} {U : State} {H : Heap} (h : vk_S N jlen jbyt ad adV A U H) (hN : ∀ i : Nat, i < N → jlen.getD i 0 < 2 ^ 31) : ∀ i j : Nat, i < N → j < N → adV i = adV j → jlen.getD i 0 = jlen.getD j 0 ∧ ∀ k : Nat, k < jlen.getD i 0 → (jbyt.getD i []).getD k 0 = (jbyt.getD j []).getD k 0 := by
  intro i j hi hj e
  obtain ⟨c1, a1, -, -, a4, a5, a6, -⟩ := (h.1 i hi).2.2.2
  obtain ⟨c2, b1, -, -, b4, b5, b6, -⟩ := (h.1 j hj).2.2.2
  rw [e] at a1
  cases a1.symm.trans b1
  have e1 : Int32.ofNat (jlen.getD i 0) = Int32.ofNat (jlen.getD j 0) := a5.symm.trans b5
  have e2 : jlen.getD i 0 = jlen.getD j 0 := (nI_eq (hN i hi) (hN j hj)).mp e1
  refine ⟨e2, fun k hk => ?_⟩
  have q1 := a6 k hk
  have q2 := b6 k (by omega)
  have q3 := q1.symm.trans q2
  simpa using q3
theorem jx_prim {args : Array Value} {s : State} {ty : FieldType} (h : (Jvm.Cond.arrayClass ty).before args s = true) (hp : ∀ C, ty ≠ .object C) : ∃ cA : ClassId, ArrOfT s cA ty ∧ va_RA s cA ty := by
  obtain ⟨cA, kA, comp, h1, h2, h3⟩ := Cond.arrayClass_spec h
  refine ⟨cA, fun n z => ⟨fun k q => (by cases q), kA, h2, comp, h3⟩, ?_⟩
  cases ty with
  | object C => exact absurd rfl (hp C)
  | _ => exact h1
theorem jx_obj {args : Array Value} {s : State} {C : String} (h : (Jvm.Cond.arrayOver (.object C)).before args s = true) : ∃ cA : ClassId, ArrOfT s cA (.object C) ∧ va_RA s cA (.object C) := by
  obtain ⟨comp, c, k, h1, h2, h3, h4, h5⟩ := Cond.arrayOver_spec h
  exact ⟨c, fun n z => ⟨fun k q => (by cases q), k, h3, comp, h4⟩, k, comp, h3, h4, h1, h5⟩
theorem jx_isRef {args : Array Value} {s : State} {t : Term} (h : (Jvm.Cond.isRef t).before args s = true) : ∃ r : Option Nat, t.eval args s none [] s = some (va_rf r) := by
  cases hv : t.eval args s none [] s with
  | none => simp [Cond.before, Cond.holds, Cond.value, hv] at h
  | some w =>
    simp only [Cond.before, Cond.holds, Cond.value, hv] at h
    cases w with
    | null => exact ⟨none, rfl⟩
    | ref a => exact ⟨some a, rfl⟩
    | _ => simp at h
set_option maxHeartbeats 4000000 in
set_option maxRecDepth 100000 in
theorem jx_top (hgoal : jx_Goal) {p : Program} {e : Env} {s : State} {m : MethodId} {below : List Frame} {meth : Method} {c : Code} (l : Launch) {b L : Nat} {xs : Nat → Int32} (hL : L ≤ 2048) (C0 : lw_At p s m meth c b L xs) : W p l e room_1 s m #[Value.ref b] below meth c s.heap [] 0 0 (lw_Z below #[Value.ref b] s) (entryFrame m ([Value.ref b] : List Value).toArray 4) := by
  obtain ⟨hx, hb, hr, hml, hown, hts, hX, hbl, hlocks, hgv⟩ := id C0
  have hfl := flat_of_before _ hgv
  have hA : ∀ a : Nat, a < s.heap.size → ¬ (fun q : Nat => s.heap.size ≤ q) a := fun a h => Nat.not_le.mpr h
  have htj : ∀ w ∈ jT, w.before #[Value.ref b] s = true := fun w hw => hts w (List.mem_filter.mp hw).1
  obtain ⟨c0, iS0, hKn0⟩ := u_known (C := "PartText") (T := fT_0) (N := 7) (n := 7) htj hi_0 (htj _ wd_96)
  obtain ⟨c1, iS1, hKn1⟩ := u_known (C := "PartText$Octets") (T := fT_1) (N := 3) (n := 3) htj hi_1 (htj _ wd_175)
  obtain ⟨c2, iS2, hKn2⟩ := u_known (C := "PartText$Words") (T := fT_2) (N := 1) (n := 1) htj hi_2 (htj _ wd_104)
  obtain ⟨c3, iS3, hKn3⟩ := u_known (C := "PartText$Scanner") (T := fT_3) (N := 7) (n := 7) htj hi_3 (htj _ wd_194)
  obtain ⟨c4, iS4, hKn4⟩ := u_known (C := "PartText$Reader") (T := fT_4) (N := 6) (n := 6) htj hi_4 (htj _ wd_192)
  obtain ⟨c5, iS5, hKn5⟩ := u_known (C := "PartText$Writer") (T := fT_5) (N := 2) (n := 2) htj hi_5 (htj _ wd_246)
  obtain ⟨c6, iS6, hKn6⟩ := u_known (C := "PartText$Rules") (T := fT_6) (N := 1) (n := 1) htj hi_6 (htj _ wd_259)
  obtain ⟨c7, iS7, hKn7⟩ := u_known (C := "PartText$Edition") (T := fT_7) (N := 11) (n := 11) htj hi_7 (htj _ wd_312)
  obtain ⟨c8, iS8, hKn8⟩ := u_known (C := "PartTextModel") (T := fT_8) (N := 57) (n := 57) htj hi_8 (htj _ wd_830)
  obtain ⟨a0, hAr0⟩ := jx_prim (htj (Jvm.Cond.arrayClass .int) wd_190) (fun C h => by cases h)
  obtain ⟨a1, hAr1⟩ := jx_prim (htj (Jvm.Cond.arrayClass .long) wd_172) (fun C h => by cases h)
  obtain ⟨a2, hAr2⟩ := jx_prim (htj (Jvm.Cond.arrayClass .byte) wd_173) (fun C h => by cases h)
  obtain ⟨a3, hAr3⟩ := jx_prim (htj (Jvm.Cond.arrayClass .boolean) wd_1008) (fun C h => by cases h)
  have hov : (Jvm.Cond.arrayOver (.object "PartText$Edition")).before #[Value.ref b] s = true := hts _ (List.mem_of_getElem? (i := 269) (by decide +kernel))
  obtain ⟨a4, hAr4⟩ := jx_obj hov
  have hKc : ∀ (k : Nat) (q : vw_C), jC[k]? = some q → u_Kn s q.1 q.2.1 q.2.2 ([c0, c1, c2, c3, c4, c5, c6, c7, c8].getD k 0) ([iS0, iS1, iS2, iS3, iS4, iS5, iS6, iS7, iS8].getD k (fun _ => 0)) := by
    intro k q hq
    match k, hq with
    | 0, hq => cases hq; exact hKn0
    | 1, hq => cases hq; exact hKn1
    | 2, hq => cases hq; exact hKn2
    | 3, hq => cases hq; exact hKn3
    | 4, hq => cases hq; exact hKn4
    | 5, hq => cases hq; exact hKn5
    | 6, hq => cases hq; exact hKn6
    | 7, hq => cases hq; exact hKn7
    | 8, hq => cases hq; exact hKn8
    | k + 9, hq => simp [jC] at hq
  have hTy : ∀ (k : Nat) (q : ClassId × FieldType), (jx_tys (fun k => [a0, a1, a2, a3, a4].getD k 0) jTy)[k]? = some q → ArrOfT s q.1 q.2 ∧ va_RA s q.1 q.2 := by
    intro k q hq
    match k, hq with
    | 0, hq => cases hq; exact hAr0
    | 1, hq => cases hq; exact hAr1
    | 2, hq => cases hq; exact hAr2
    | 3, hq => cases hq; exact hAr3
    | 4, hq => cases hq; exact hAr4
    | k + 5, hq => simp [jx_tys, jTy] at hq
  have hN : ∀ i : Nat, i < 11 → jlen.getD i 0 < 2 ^ 31 := by decide +kernel
  have m1 : ∀ i : Nat, i < 11 → Jvm.Cond.exactly (jtm i) "java/lang/String" ∈ flatC (Jvm.Cond.and given_1 narrow_1) := by decide +kernel
  have m2 : ∀ i : Nat, i < 11 → Jvm.Cond.eq (.field (jtm i) "java/lang/String" "coder" "B") (.int 0) ∈ flatC (Jvm.Cond.and given_1 narrow_1) := by decide +kernel
  have m3 : ∀ i : Nat, i < 11 → Jvm.Cond.arrayOf (.field (jtm i) "java/lang/String" "value" "[B") .byte ∈ flatC (Jvm.Cond.and given_1 narrow_1) := by decide +kernel
  have m4 : ∀ i : Nat, i < 11 → Jvm.Cond.eq (.length (.field (jtm i) "java/lang/String" "value" "[B")) (.int (Int32.ofNat (jlen.getD i 0))) ∈ flatC (Jvm.Cond.and given_1 narrow_1) := by decide +kernel
  have m5 : ∀ i : Nat, i < 11 → ∀ j : Nat, j < jlen.getD i 0 → Jvm.Cond.eq (.elem (.field (jtm i) "java/lang/String" "value" "[B") (.int (Int32.ofNat j))) (.int ((jbyt.getD i []).getD j 0)) ∈ flatC (Jvm.Cond.and given_1 narrow_1) := by decide +kernel
  have m6 : ∀ i : Nat, i < 11 → ∀ j : Nat, j < 11 → i ≠ j → Jvm.Cond.not (Jvm.Cond.eq (jtm i) (jtm j)) ∈ flatC (Jvm.Cond.and given_1 narrow_1) ∨ Jvm.Cond.not (Jvm.Cond.eq (jtm j) (jtm i)) ∈ flatC (Jvm.Cond.and given_1 narrow_1) := by decide +kernel
  obtain ⟨adK, adV, hSk, hSe⟩ := vk_Sof (N := 11) (tm := jtm) (len := jlen) (byt := jbyt) (A := fun q : Nat => s.heap.size ≤ q) (args := #[Value.ref b]) (s := s) hN (fun i hi => hfl _ (m1 i hi)) (fun i hi => hfl _ (m2 i hi)) (fun i hi => hfl _ (m3 i hi)) (fun i hi => hfl _ (m4 i hi)) (fun i hi j hj => hfl _ (m5 i hi j hj)) (fun i j hi hj hne => (m6 i hi j hj hne).elim (fun q => Or.inl (hfl _ q)) (fun q => Or.inr (hfl _ q))) hA
  have z1 : va_Z "java/lang/String" "COMPACT_STRINGS" "Z" (.int 1) (fun q : Nat => s.heap.size ≤ q) s s.heap := va_Zof (hts (.laysStatic "java/lang/String" "COMPACT_STRINGS" "Z") (by decide +kernel)) (hts (.initialized "java/lang/String") (by decide +kernel)) (va_eqi (hfl _ (by decide +kernel))) hA
  obtain ⟨r, hrr⟩ := jx_isRef (hfl (Jvm.Cond.isRef (.static "jdk/internal/util/Preconditions" "SIOOBE_FORMATTER" "Ljava/util/function/BiFunction;")) (by decide +kernel))
  have z2 : va_Z "jdk/internal/util/Preconditions" "SIOOBE_FORMATTER" "Ljava/util/function/BiFunction;" (va_rf r) (fun q : Nat => s.heap.size ≤ q) s s.heap := va_Zof (hts (.laysStatic "jdk/internal/util/Preconditions" "SIOOBE_FORMATTER" "Ljava/util/function/BiFunction;") (by decide +kernel)) (hts (.initialized "jdk/internal/util/Preconditions") (by decide +kernel)) hrr hA
  have hR : ∀ q ∈ jStr, vk_R q.1 q.2.1 q.2.2.1 (adK q.2.2.2) s := by
    intro q hq
    simp only [jStr, List.mem_cons, List.not_mem_nil, or_false] at hq
    rcases hq with rfl | rfl | rfl | rfl | rfl | rfl | rfl | rfl | rfl | rfl | rfl
    · exact vk_R.of (A := #[Value.ref b]) (hts _ (List.mem_of_getElem? (i := 109) (by decide +kernel))) (hSe 0 (by decide))
    · exact vk_R.of (A := #[Value.ref b]) (hts _ (List.mem_of_getElem? (i := 225) (by decide +kernel))) (hSe 1 (by decide))
    · exact vk_R.of (A := #[Value.ref b]) (hts _ (List.mem_of_getElem? (i := 402) (by decide +kernel))) (hSe 2 (by decide))
    · exact vk_R.of (A := #[Value.ref b]) (hts _ (List.mem_of_getElem? (i := 515) (by decide +kernel))) (hSe 3 (by decide))
    · exact vk_R.of (A := #[Value.ref b]) (hts _ (List.mem_of_getElem? (i := 516) (by decide +kernel))) (hSe 4 (by decide))
    · exact vk_R.of (A := #[Value.ref b]) (hts _ (List.mem_of_getElem? (i := 517) (by decide +kernel))) (hSe 5 (by decide))
    · exact vk_R.of (A := #[Value.ref b]) (hts _ (List.mem_of_getElem? (i := 518) (by decide +kernel))) (hSe 6 (by decide))
    · exact vk_R.of (A := #[Value.ref b]) (hts _ (List.mem_of_getElem? (i := 519) (by decide +kernel))) (hSe 7 (by decide))
    · exact vk_R.of (A := #[Value.ref b]) (hts _ (List.mem_of_getElem? (i := 520) (by decide +kernel))) (hSe 8 (by decide))
    · exact vk_R.of (A := #[Value.ref b]) (hts _ (List.mem_of_getElem? (i := 548) (by decide +kernel))) (hSe 9 (by decide))
    · exact vk_R.of (A := #[Value.ref b]) (hts _ (List.mem_of_getElem? (i := 549) (by decide +kernel))) (hSe 10 (by decide))
  obtain ⟨h', hE, hc1, hs1⟩ := hgoal (adK, adV, (b, L, xs), r) s.heap.size ⟨hSk.2, jx_GF_of hSk hN⟩ hL
  have hP := jx_sound (Z := jZ l (fun k => [c0, c1, c2, c3, c4, c5, c6, c7, c8].getD k 0) (fun k => [iS0, iS1, iS2, iS3, iS4, iS5, iS6, iS7, iS8].getD k (fun _ => 0)) (fun k => [a0, a1, a2, a3, a4].getD k 0) s.heap (adK, adV, (b, L, xs), r)) (jB_good _) (jB_ok jGZ hbl) _ _ hE
  rw [lg_entry_eq]
  refine hP.2.2 p e room_1 s m _ below meth c s.heap [] _ 0 0 _ ⟨hx, hb, hml, hr, hlocks, hown, htj, ⟨hKc, hTy⟩, ⟨Nat.le_of_ble_eq_true rfl, Nat.le_of_ble_eq_true rfl⟩, ⟨Nat.le_refl _, fun _ _ => rfl⟩, (fun q => absurd (show "law" = "<init>" from q) (by decide)), hR, hSk, z1, z2, va_AO.of hov, hX⟩ (jx_lx_entry [.ref b] (Nat.le_of_ble_eq_true rfl)) ⟨rfl, Nat.le_refl _, fun _ _ => rfl, (fun a e h => by cases h)⟩ va_S.rf (by show 0 + h'.1 ≤ 600000 + s.heap.size; omega) (by show 0 + h'.2.1 ≤ 7302250 + 0; omega) ?_
  intro H1 locs1 ls1 cells1 slots1 pc1 hc2 hs2 hR1 hS1 hrt
  refine va_forget (fun q hq => hS1.2.2 q hq) ?_
  refine W.widen (k := 600000) (n := 7302250) hc2 hs2 ?_
  rcases hrt with ⟨q, -⟩ | ⟨x, ty, q1, q2, q3, q4⟩ | ⟨x, q, -⟩ | ⟨x, q1, q2, -⟩
  · cases q
  · exact lw_ret hx hb hr hlocks q4
  · cases q
  · cases q1
    rcases q2 with q2 | ⟨a, q2⟩ <;> cases q2
