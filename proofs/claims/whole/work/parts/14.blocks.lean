/-! THE BLOCKS, by program -/
def jb_0_0 (G : jx_Gv) : jx_B := ([jo_const (.int 1)], .inl (jc_i (fun x => decide (x = 0)), 13, 6))
theorem jm_0_0 (G : jx_Gv) : jx_mo (jb_0_0 G).1 := ⟨mo_const _, trivial⟩
def jb_0_6 (G : jx_Gv) : jx_B := ([jo_aload 0, jo_sfC G.1 11], .inr (.inl 14))
theorem jm_0_6 (G : jx_Gv) : jx_mo (jb_0_6 G).1 := ⟨mo_aload _, mo_sfC _ _, trivial⟩
def jb_0_13 (G : jx_Gv) : jx_B := ([jo_const (.int (1 : Int32))], .inr (.inl 14))
theorem jm_0_13 (G : jx_Gv) : jx_mo (jb_0_13 G).1 := ⟨mo_const _, trivial⟩
def jb_0_14 (G : jx_Gv) : jx_B := ([], .inr (.inr (.inr (.inr (jr_n .byte)))))
theorem jm_0_14 (G : jx_Gv) : jx_mo (jb_0_14 G).1 := trivial
def jbs_0 (G : jx_Gv) : List (Nat × jx_B) := [(0, jb_0_0 G), (6, jb_0_6 G), (13, jb_0_13 G), (14, jb_0_14 G)]
theorem jms_0 (G : jx_Gv) : ∀ e ∈ jbs_0 G, jx_mo e.2.1 := List.forall_mem_cons.mpr ⟨jm_0_0 G, List.forall_mem_cons.mpr ⟨jm_0_6 G, List.forall_mem_cons.mpr ⟨jm_0_13 G, List.forall_mem_cons.mpr ⟨jm_0_14 G, fun _ h => absurd h List.not_mem_nil⟩⟩⟩⟩
def jb_1_0 (G : jx_Gv) : jx_B := ([jo_aload 0, jo_sfV G.1 G.2.1 11, jo_sln G.2.1 11 jlen, jo_aload 0, jo_chk G.1 11 0], .inr (.inr (.inr (.inl (0, 1, 9, none)))))
theorem jm_1_0 (G : jx_Gv) : jx_mo (jb_1_0 G).1 := ⟨mo_aload _, mo_sfV _ _ _, mo_sln _ _ _, mo_aload _, mo_chk _ _ _, trivial⟩
def jb_1_9 (G : jx_Gv) : jx_B := ([jo_ii (fun x y => x >>> (y &&& 31))], .inr (.inr (.inr (.inr jr_i))))
theorem jm_1_9 (G : jx_Gv) : jx_mo (jb_1_9 G).1 := ⟨mo_ii _, trivial⟩
def jbs_1 (G : jx_Gv) : List (Nat × jx_B) := [(0, jb_1_0 G), (9, jb_1_9 G)]
theorem jms_1 (G : jx_Gv) : ∀ e ∈ jbs_1 G, jx_mo e.2.1 := List.forall_mem_cons.mpr ⟨jm_1_0 G, List.forall_mem_cons.mpr ⟨jm_1_9 G, fun _ h => absurd h List.not_mem_nil⟩⟩
def jb_2_0 (G : jx_Gv) : jx_B := ([jo_const (.int 1)], .inl (jc_i (fun x => decide (x = 0)), 17, 6))
theorem jm_2_0 (G : jx_Gv) : jx_mo (jb_2_0 G).1 := ⟨mo_const _, trivial⟩
def jb_2_6 (G : jx_Gv) : jx_B := ([jo_aload 0, jo_sfC G.1 11], .inl (jc_i (fun x => decide (¬ x = 0)), 17, 13))
theorem jm_2_6 (G : jx_Gv) : jx_mo (jb_2_6 G).1 := ⟨mo_aload _, mo_sfC _ _, trivial⟩
def jb_2_13 (G : jx_Gv) : jx_B := ([jo_const (.int (1 : Int32))], .inr (.inl 18))
theorem jm_2_13 (G : jx_Gv) : jx_mo (jb_2_13 G).1 := ⟨mo_const _, trivial⟩
def jb_2_17 (G : jx_Gv) : jx_B := ([jo_const (.int (0 : Int32))], .inr (.inl 18))
theorem jm_2_17 (G : jx_Gv) : jx_mo (jb_2_17 G).1 := ⟨mo_const _, trivial⟩
def jb_2_18 (G : jx_Gv) : jx_B := ([], .inr (.inr (.inr (.inr jr_z))))
theorem jm_2_18 (G : jx_Gv) : jx_mo (jb_2_18 G).1 := trivial
def jbs_2 (G : jx_Gv) : List (Nat × jx_B) := [(0, jb_2_0 G), (6, jb_2_6 G), (13, jb_2_13 G), (17, jb_2_17 G), (18, jb_2_18 G)]
theorem jms_2 (G : jx_Gv) : ∀ e ∈ jbs_2 G, jx_mo e.2.1 := List.forall_mem_cons.mpr ⟨jm_2_0 G, List.forall_mem_cons.mpr ⟨jm_2_6 G, List.forall_mem_cons.mpr ⟨jm_2_13 G, List.forall_mem_cons.mpr ⟨jm_2_17 G, List.forall_mem_cons.mpr ⟨jm_2_18 G, fun _ h => absurd h List.not_mem_nil⟩⟩⟩⟩⟩
def jb_3_0 (G : jx_Gv) : jx_B := ([jo_iload 0], .inl (jc_i (fun x => decide (x < 0)), 9, 4))
theorem jm_3_0 (G : jx_Gv) : jx_mo (jb_3_0 G).1 := ⟨mo_iload _, trivial⟩
def jb_3_4 (G : jx_Gv) : jx_B := ([jo_iload 0, jo_iload 1], .inl (jc_ii (fun x y => decide (x < y)), 16, 9))
theorem jm_3_4 (G : jx_Gv) : jx_mo (jb_3_4 G).1 := ⟨mo_iload _, mo_iload _, trivial⟩
def jb_3_9 (G : jx_Gv) : jx_B := ([jo_aload 2, jo_iload 0, jo_iload 1, jo_stop], .inr (.inl 15))
theorem jm_3_9 (G : jx_Gv) : jx_mo (jb_3_9 G).1 := ⟨mo_aload _, mo_iload _, mo_iload _, mo_stop, trivial⟩
def jb_3_16 (G : jx_Gv) : jx_B := ([jo_iload 0], .inr (.inr (.inr (.inr jr_i))))
theorem jm_3_16 (G : jx_Gv) : jx_mo (jb_3_16 G).1 := ⟨mo_iload _, trivial⟩
def jbs_3 (G : jx_Gv) : List (Nat × jx_B) := [(0, jb_3_0 G), (4, jb_3_4 G), (9, jb_3_9 G), (16, jb_3_16 G)]
theorem jms_3 (G : jx_Gv) : ∀ e ∈ jbs_3 G, jx_mo e.2.1 := List.forall_mem_cons.mpr ⟨jm_3_0 G, List.forall_mem_cons.mpr ⟨jm_3_4 G, List.forall_mem_cons.mpr ⟨jm_3_9 G, List.forall_mem_cons.mpr ⟨jm_3_16 G, fun _ h => absurd h List.not_mem_nil⟩⟩⟩⟩
def jb_4_0 (G : jx_Gv) : jx_B := ([jo_iload 0, jo_iload 1, jo_rf G.2.2.2], .inr (.inr (.inr (.inl (3, 3, 8, none)))))
theorem jm_4_0 (G : jx_Gv) : jx_mo (jb_4_0 G).1 := ⟨mo_iload _, mo_iload _, mo_rf _, trivial⟩
def jb_4_8 (G : jx_Gv) : jx_B := ([jo_pop], .inr (.inr (.inr (.inr jr_v))))
theorem jm_4_8 (G : jx_Gv) : jx_mo (jb_4_8 G).1 := ⟨mo_pop, trivial⟩
def jbs_4 (G : jx_Gv) : List (Nat × jx_B) := [(0, jb_4_0 G), (8, jb_4_8 G)]
theorem jms_4 (G : jx_Gv) : ∀ e ∈ jbs_4 G, jx_mo e.2.1 := List.forall_mem_cons.mpr ⟨jm_4_0 G, List.forall_mem_cons.mpr ⟨jm_4_8 G, fun _ h => absurd h List.not_mem_nil⟩⟩
def jb_5_0 (G : jx_Gv) : jx_B := ([jo_iload 1, jo_aload 0, jo_sln G.2.1 11 jlen], .inr (.inr (.inr (.inl (4, 2, 6, none)))))
theorem jm_5_0 (G : jx_Gv) : jx_mo (jb_5_0 G).1 := ⟨mo_iload _, mo_aload _, mo_sln _ _ _, trivial⟩
def jb_5_6 (G : jx_Gv) : jx_B := ([jo_aload 0, jo_iload 1, jo_sba G.2.1 11 jlen jbyt, jo_const (.int (255 : Int32)), jo_ii (· &&& ·), jo_i1 (fun x => (x.toUInt32 % 65536).toInt32)], .inr (.inr (.inr (.inr (jr_n .char)))))
theorem jm_5_6 (G : jx_Gv) : jx_mo (jb_5_6 G).1 := ⟨mo_aload _, mo_iload _, mo_sba _ _ _ _, mo_const _, mo_ii _, mo_i1 _, trivial⟩
def jbs_5 (G : jx_Gv) : List (Nat × jx_B) := [(0, jb_5_0 G), (6, jb_5_6 G)]
theorem jms_5 (G : jx_Gv) : ∀ e ∈ jbs_5 G, jx_mo e.2.1 := List.forall_mem_cons.mpr ⟨jm_5_0 G, List.forall_mem_cons.mpr ⟨jm_5_6 G, fun _ h => absurd h List.not_mem_nil⟩⟩
def jb_6_0 (G : jx_Gv) : jx_B := ([jo_aload 0, jo_chk G.1 11 0], .inr (.inr (.inr (.inl (2, 1, 4, none)))))
theorem jm_6_0 (G : jx_Gv) : jx_mo (jb_6_0 G).1 := ⟨mo_aload _, mo_chk _ _ _, trivial⟩
def jb_6_4 (G : jx_Gv) : jx_B := ([], .inl (jc_i (fun x => decide (x = 0)), 16, 7))
theorem jm_6_4 (G : jx_Gv) : jx_mo (jb_6_4 G).1 := trivial
def jb_6_7 (G : jx_Gv) : jx_B := ([jo_aload 0, jo_sfV G.1 G.2.1 11, jo_iload 1], .inr (.inr (.inr (.inl (5, 2, 15, none)))))
theorem jm_6_7 (G : jx_Gv) : jx_mo (jb_6_7 G).1 := ⟨mo_aload _, mo_sfV _ _ _, mo_iload _, trivial⟩
def jb_6_15 (G : jx_Gv) : jx_B := ([], .inr (.inr (.inr (.inr (jr_n .char)))))
theorem jm_6_15 (G : jx_Gv) : jx_mo (jb_6_15 G).1 := trivial
def jb_6_16 (G : jx_Gv) : jx_B := ([jo_aload 0, jo_sfV G.1 G.2.1 11, jo_iload 1, jo_stop], .inr (.inl 24))
theorem jm_6_16 (G : jx_Gv) : jx_mo (jb_6_16 G).1 := ⟨mo_aload _, mo_sfV _ _ _, mo_iload _, mo_stop, trivial⟩
def jbs_6 (G : jx_Gv) : List (Nat × jx_B) := [(0, jb_6_0 G), (4, jb_6_4 G), (7, jb_6_7 G), (15, jb_6_15 G), (16, jb_6_16 G)]
theorem jms_6 (G : jx_Gv) : ∀ e ∈ jbs_6 G, jx_mo e.2.1 := List.forall_mem_cons.mpr ⟨jm_6_0 G, List.forall_mem_cons.mpr ⟨jm_6_4 G, List.forall_mem_cons.mpr ⟨jm_6_7 G, List.forall_mem_cons.mpr ⟨jm_6_15 G, List.forall_mem_cons.mpr ⟨jm_6_16 G, fun _ h => absurd h List.not_mem_nil⟩⟩⟩⟩⟩
def jb_7_0 (G : jx_Gv) : jx_B := ([jo_iload 0, jo_const (.int (48 : Int32))], .inl (jc_ii (fun x y => decide (x < y)), 16, 6))
theorem jm_7_0 (G : jx_Gv) : jx_mo (jb_7_0 G).1 := ⟨mo_iload _, mo_const _, trivial⟩
def jb_7_6 (G : jx_Gv) : jx_B := ([jo_iload 0, jo_const (.int (57 : Int32))], .inl (jc_ii (fun x y => decide (y < x)), 16, 12))
theorem jm_7_6 (G : jx_Gv) : jx_mo (jb_7_6 G).1 := ⟨mo_iload _, mo_const _, trivial⟩
def jb_7_12 (G : jx_Gv) : jx_B := ([jo_const (.int (1 : Int32))], .inr (.inl 17))
theorem jm_7_12 (G : jx_Gv) : jx_mo (jb_7_12 G).1 := ⟨mo_const _, trivial⟩
def jb_7_16 (G : jx_Gv) : jx_B := ([jo_const (.int (0 : Int32))], .inr (.inl 17))
theorem jm_7_16 (G : jx_Gv) : jx_mo (jb_7_16 G).1 := ⟨mo_const _, trivial⟩
def jb_7_17 (G : jx_Gv) : jx_B := ([], .inr (.inr (.inr (.inr jr_z))))
theorem jm_7_17 (G : jx_Gv) : jx_mo (jb_7_17 G).1 := trivial
def jbs_7 (G : jx_Gv) : List (Nat × jx_B) := [(0, jb_7_0 G), (6, jb_7_6 G), (12, jb_7_12 G), (16, jb_7_16 G), (17, jb_7_17 G)]
theorem jms_7 (G : jx_Gv) : ∀ e ∈ jbs_7 G, jx_mo e.2.1 := List.forall_mem_cons.mpr ⟨jm_7_0 G, List.forall_mem_cons.mpr ⟨jm_7_6 G, List.forall_mem_cons.mpr ⟨jm_7_12 G, List.forall_mem_cons.mpr ⟨jm_7_16 G, List.forall_mem_cons.mpr ⟨jm_7_17 G, fun _ h => absurd h List.not_mem_nil⟩⟩⟩⟩⟩
def jb_8_0 (G : jx_Gv) : jx_B := ([jo_iload 0, jo_const (.int (97 : Int32))], .inl (jc_ii (fun x y => decide (x < y)), 16, 6))
theorem jm_8_0 (G : jx_Gv) : jx_mo (jb_8_0 G).1 := ⟨mo_iload _, mo_const _, trivial⟩
def jb_8_6 (G : jx_Gv) : jx_B := ([jo_iload 0, jo_const (.int (122 : Int32))], .inl (jc_ii (fun x y => decide (y < x)), 16, 12))
theorem jm_8_6 (G : jx_Gv) : jx_mo (jb_8_6 G).1 := ⟨mo_iload _, mo_const _, trivial⟩
def jb_8_12 (G : jx_Gv) : jx_B := ([jo_const (.int (1 : Int32))], .inr (.inl 17))
theorem jm_8_12 (G : jx_Gv) : jx_mo (jb_8_12 G).1 := ⟨mo_const _, trivial⟩
def jb_8_16 (G : jx_Gv) : jx_B := ([jo_const (.int (0 : Int32))], .inr (.inl 17))
theorem jm_8_16 (G : jx_Gv) : jx_mo (jb_8_16 G).1 := ⟨mo_const _, trivial⟩
def jb_8_17 (G : jx_Gv) : jx_B := ([], .inr (.inr (.inr (.inr jr_z))))
theorem jm_8_17 (G : jx_Gv) : jx_mo (jb_8_17 G).1 := trivial
def jbs_8 (G : jx_Gv) : List (Nat × jx_B) := [(0, jb_8_0 G), (6, jb_8_6 G), (12, jb_8_12 G), (16, jb_8_16 G), (17, jb_8_17 G)]
theorem jms_8 (G : jx_Gv) : ∀ e ∈ jbs_8 G, jx_mo e.2.1 := List.forall_mem_cons.mpr ⟨jm_8_0 G, List.forall_mem_cons.mpr ⟨jm_8_6 G, List.forall_mem_cons.mpr ⟨jm_8_12 G, List.forall_mem_cons.mpr ⟨jm_8_16 G, List.forall_mem_cons.mpr ⟨jm_8_17 G, fun _ h => absurd h List.not_mem_nil⟩⟩⟩⟩⟩
def jb_9_0 (G : jx_Gv) : jx_B := ([jo_iload 0], .inr (.inr (.inr (.inl (7, 1, 4, none)))))
theorem jm_9_0 (G : jx_Gv) : jx_mo (jb_9_0 G).1 := ⟨mo_iload _, trivial⟩
def jb_9_4 (G : jx_Gv) : jx_B := ([], .inl (jc_i (fun x => decide (x = 0)), 14, 7))
theorem jm_9_4 (G : jx_Gv) : jx_mo (jb_9_4 G).1 := trivial
def jb_9_7 (G : jx_Gv) : jx_B := ([jo_iload 0, jo_const (.int (48 : Int32)), jo_ii (· - ·), jo_const (.int (1 : Int32)), jo_ii (· + ·)], .inr (.inr (.inr (.inr jr_i))))
theorem jm_9_7 (G : jx_Gv) : jx_mo (jb_9_7 G).1 := ⟨mo_iload _, mo_const _, mo_ii _, mo_const _, mo_ii _, trivial⟩
def jb_9_14 (G : jx_Gv) : jx_B := ([jo_iload 0], .inr (.inr (.inr (.inl (8, 1, 18, none)))))
theorem jm_9_14 (G : jx_Gv) : jx_mo (jb_9_14 G).1 := ⟨mo_iload _, trivial⟩
def jb_9_18 (G : jx_Gv) : jx_B := ([], .inl (jc_i (fun x => decide (x = 0)), 31, 21))
theorem jm_9_18 (G : jx_Gv) : jx_mo (jb_9_18 G).1 := trivial
def jb_9_21 (G : jx_Gv) : jx_B := ([jo_iload 0, jo_const (.int (97 : Int32)), jo_ii (· - ·), jo_const (.int (11 : Int32)), jo_ii (· + ·)], .inr (.inl 32))
theorem jm_9_21 (G : jx_Gv) : jx_mo (jb_9_21 G).1 := ⟨mo_iload _, mo_const _, mo_ii _, mo_const _, mo_ii _, trivial⟩
def jb_9_31 (G : jx_Gv) : jx_B := ([jo_const (.int (0 : Int32))], .inr (.inl 32))
theorem jm_9_31 (G : jx_Gv) : jx_mo (jb_9_31 G).1 := ⟨mo_const _, trivial⟩
def jb_9_32 (G : jx_Gv) : jx_B := ([], .inr (.inr (.inr (.inr jr_i))))
theorem jm_9_32 (G : jx_Gv) : jx_mo (jb_9_32 G).1 := trivial
def jbs_9 (G : jx_Gv) : List (Nat × jx_B) := [(0, jb_9_0 G), (4, jb_9_4 G), (7, jb_9_7 G), (14, jb_9_14 G), (18, jb_9_18 G), (21, jb_9_21 G), (31, jb_9_31 G), (32, jb_9_32 G)]
theorem jms_9 (G : jx_Gv) : ∀ e ∈ jbs_9 G, jx_mo e.2.1 := List.forall_mem_cons.mpr ⟨jm_9_0 G, List.forall_mem_cons.mpr ⟨jm_9_4 G, List.forall_mem_cons.mpr ⟨jm_9_7 G, List.forall_mem_cons.mpr ⟨jm_9_14 G, List.forall_mem_cons.mpr ⟨jm_9_18 G, List.forall_mem_cons.mpr ⟨jm_9_21 G, List.forall_mem_cons.mpr ⟨jm_9_31 G, List.forall_mem_cons.mpr ⟨jm_9_32 G, fun _ h => absurd h List.not_mem_nil⟩⟩⟩⟩⟩⟩⟩⟩
def jb_10_0 (G : jx_Gv) : jx_B := ([jo_aload 0, jo_objI, jo_aload 0, jo_const (.int (16 : Int32)), jo_newa 1 (.inr (.inl (fun _ => 0))), jo_putA 2 0, jo_const (.int (0 : Int32)), jo_istore 1, jo_const (.long (1 : Int64)), jo_lstore 2, jo_const (.int (0 : Int32)), jo_drop 3, jo_istore 4], .inr (.inl 19))
theorem jm_10_0 (G : jx_Gv) : jx_mo (jb_10_0 G).1 := ⟨mo_aload _, mo_objI, mo_aload _, mo_const _, mo_newa _ _, mo_putA _ _, mo_const _, mo_istore _, mo_const _, mo_lstore _, mo_const _, mo_drop _, mo_istore _, trivial⟩
def jb_10_19 (G : jx_Gv) : jx_B := ([jo_iload 4, jo_const (.ref (G.1 0)), jo_chk G.1 11 0], .inr (.inr (.inr (.inl (1, 1, 26, none)))))
theorem jm_10_19 (G : jx_Gv) : jx_mo (jb_10_19 G).1 := ⟨mo_iload _, mo_const _, mo_chk _ _ _, trivial⟩
def jb_10_26 (G : jx_Gv) : jx_B := ([], .inl (jc_ii (fun x y => decide (y ≤ x)), 89, 29))
theorem jm_10_26 (G : jx_Gv) : jx_mo (jb_10_26 G).1 := trivial
def jb_10_29 (G : jx_Gv) : jx_B := ([jo_const (.ref (G.1 0)), jo_iload 4, jo_chk G.1 11 1], .inr (.inr (.inr (.inl (6, 2, 36, none)))))
theorem jm_10_29 (G : jx_Gv) : jx_mo (jb_10_29 G).1 := ⟨mo_const _, mo_iload _, mo_chk _ _ _, trivial⟩
def jb_10_36 (G : jx_Gv) : jx_B := ([], .inr (.inr (.inr (.inl (9, 1, 39, none)))))
theorem jm_10_36 (G : jx_Gv) : jx_mo (jb_10_36 G).1 := trivial
def jb_10_39 (G : jx_Gv) : jx_B := ([jo_istore 5, jo_iload 5], .inl (jc_i (fun x => decide (¬ x = 0)), 54, 46))
theorem jm_10_39 (G : jx_Gv) : jx_mo (jb_10_39 G).1 := ⟨mo_istore _, mo_iload _, trivial⟩
def jb_10_46 (G : jx_Gv) : jx_B := ([jo_iinc 1 (1 : Int32), jo_const (.long (1 : Int64)), jo_lstore 2], .inr (.inl 83))
theorem jm_10_46 (G : jx_Gv) : jx_mo (jb_10_46 G).1 := ⟨mo_iinc _ _, mo_const _, mo_lstore _, trivial⟩
def jb_10_54 (G : jx_Gv) : jx_B := ([jo_iload 1, jo_aload 0, jo_getA 2 0, jo_alen 1], .inl (jc_ii (fun x y => decide (y ≤ x)), 83, 63))
theorem jm_10_54 (G : jx_Gv) : jx_mo (jb_10_54 G).1 := ⟨mo_iload _, mo_aload _, mo_getA _ _, mo_alen _, trivial⟩
def jb_10_63 (G : jx_Gv) : jx_B := ([jo_aload 0, jo_getA 2 0, jo_iload 1, jo_dup2, jo_lald 1, jo_iload 5, jo_i2l, jo_lload 2, jo_ll (· * ·), jo_ll (· + ·), jo_last 1, jo_lload 2, jo_const (.long (37 : Int64)), jo_ll (· * ·), jo_lstore 2], .inr (.inl 83))
theorem jm_10_63 (G : jx_Gv) : jx_mo (jb_10_63 G).1 := ⟨mo_aload _, mo_getA _ _, mo_iload _, mo_dup2, mo_lald _, mo_iload _, mo_i2l, mo_lload _, mo_ll _, mo_ll _, mo_last _, mo_lload _, mo_const _, mo_ll _, mo_lstore _, trivial⟩
def jb_10_83 (G : jx_Gv) : jx_B := ([jo_drop 3, jo_iinc 4 (1 : Int32)], .inr (.inl 19))
theorem jm_10_83 (G : jx_Gv) : jx_mo (jb_10_83 G).1 := ⟨mo_drop _, mo_iinc _ _, trivial⟩
def jb_10_89 (G : jx_Gv) : jx_B := ([], .inr (.inr (.inr (.inr jr_v))))
theorem jm_10_89 (G : jx_Gv) : jx_mo (jb_10_89 G).1 := trivial
def jbs_10 (G : jx_Gv) : List (Nat × jx_B) := [(0, jb_10_0 G), (19, jb_10_19 G), (26, jb_10_26 G), (29, jb_10_29 G), (36, jb_10_36 G), (39, jb_10_39 G), (46, jb_10_46 G), (54, jb_10_54 G), (63, jb_10_63 G), (83, jb_10_83 G), (89, jb_10_89 G)]
theorem jms_10 (G : jx_Gv) : ∀ e ∈ jbs_10 G, jx_mo e.2.1 := List.forall_mem_cons.mpr ⟨jm_10_0 G, List.forall_mem_cons.mpr ⟨jm_10_19 G, List.forall_mem_cons.mpr ⟨jm_10_26 G, List.forall_mem_cons.mpr ⟨jm_10_29 G, List.forall_mem_cons.mpr ⟨jm_10_36 G, List.forall_mem_cons.mpr ⟨jm_10_39 G, List.forall_mem_cons.mpr ⟨jm_10_46 G, List.forall_mem_cons.mpr ⟨jm_10_54 G, List.forall_mem_cons.mpr ⟨jm_10_63 G, List.forall_mem_cons.mpr ⟨jm_10_83 G, List.forall_mem_cons.mpr ⟨jm_10_89 G, fun _ h => absurd h List.not_mem_nil⟩⟩⟩⟩⟩⟩⟩⟩⟩⟩⟩
def jb_11_0 (G : jx_Gv) : jx_B := ([jo_aload 0, jo_objI, jo_aload 0, jo_const (.int (2000 : Int32)), jo_newa 0 (.inl (fun _ => 0)), jo_putA 1 0, jo_aload 0, jo_const (.int (0 : Int32)), jo_putI 1 1, jo_aload 0, jo_const (.int (0 : Int32)), jo_putZ 1 2], .inr (.inr (.inr (.inr jr_v))))
theorem jm_11_0 (G : jx_Gv) : jx_mo (jb_11_0 G).1 := ⟨mo_aload _, mo_objI, mo_aload _, mo_const _, mo_newa _ _, mo_putA _ _, mo_aload _, mo_const _, mo_putI _ _, mo_aload _, mo_const _, mo_putZ _ _, trivial⟩
def jbs_11 (G : jx_Gv) : List (Nat × jx_B) := [(0, jb_11_0 G)]
theorem jms_11 (G : jx_Gv) : ∀ e ∈ jbs_11 G, jx_mo e.2.1 := List.forall_mem_cons.mpr ⟨jm_11_0 G, fun _ h => absurd h List.not_mem_nil⟩
def jb_12_0 (G : jx_Gv) : jx_B := ([jo_aload 0, jo_objI, jo_aload 0, jo_aload 1, jo_putA 3 0, jo_aload 0, jo_aload 2, jo_putA 3 1, jo_aload 0, jo_const (.int (0 : Int32)), jo_putI 3 2, jo_aload 0, jo_const (.int (1 : Int32)), jo_putI 3 3, jo_aload 0, jo_const (.int (6 : Int32)), jo_putI 3 4, jo_aload 0, jo_const (.int (0 : Int32)), jo_putI 3 5, jo_aload 0, jo_const (.long (0 : Int64)), jo_putJ 3 6], .inr (.inr (.inr (.inr jr_v))))
theorem jm_12_0 (G : jx_Gv) : jx_mo (jb_12_0 G).1 := ⟨mo_aload _, mo_objI, mo_aload _, mo_aload _, mo_putA _ _, mo_aload _, mo_aload _, mo_putA _ _, mo_aload _, mo_const _, mo_putI _ _, mo_aload _, mo_const _, mo_putI _ _, mo_aload _, mo_const _, mo_putI _ _, mo_aload _, mo_const _, mo_putI _ _, mo_aload _, mo_const _, mo_putJ _ _, trivial⟩
def jbs_12 (G : jx_Gv) : List (Nat × jx_B) := [(0, jb_12_0 G)]
theorem jms_12 (G : jx_Gv) : ∀ e ∈ jbs_12 G, jx_mo e.2.1 := List.forall_mem_cons.mpr ⟨jm_12_0 G, fun _ h => absurd h List.not_mem_nil⟩
def jb_13_0 (G : jx_Gv) : jx_B := ([jo_aload 0, jo_objI, jo_aload 0, jo_aload 1, jo_putA 4 0, jo_aload 0, jo_const (.int (0 : Int32)), jo_putI 4 1, jo_aload 0, jo_const (.ref (G.1 1)), jo_putA 4 2, jo_aload 0, jo_const (.int (0 : Int32)), jo_putI 4 3, jo_aload 0, jo_const (.int (0 : Int32)), jo_putI 4 4, jo_aload 0, jo_const (.int (0 : Int32)), jo_putZ 4 5], .inr (.inr (.inr (.inr jr_v))))
theorem jm_13_0 (G : jx_Gv) : jx_mo (jb_13_0 G).1 := ⟨mo_aload _, mo_objI, mo_aload _, mo_aload _, mo_putA _ _, mo_aload _, mo_const _, mo_putI _ _, mo_aload _, mo_const _, mo_putA _ _, mo_aload _, mo_const _, mo_putI _ _, mo_aload _, mo_const _, mo_putI _ _, mo_aload _, mo_const _, mo_putZ _ _, trivial⟩
def jbs_13 (G : jx_Gv) : List (Nat × jx_B) := [(0, jb_13_0 G)]
theorem jms_13 (G : jx_Gv) : ∀ e ∈ jbs_13 G, jx_mo e.2.1 := List.forall_mem_cons.mpr ⟨jm_13_0 G, fun _ h => absurd h List.not_mem_nil⟩
def jb_14_0 (G : jx_Gv) : jx_B := ([jo_aload 0, jo_objI, jo_aload 0, jo_aload 1, jo_putA 5 0, jo_aload 0, jo_aload 2, jo_putA 5 1], .inr (.inr (.inr (.inr jr_v))))
theorem jm_14_0 (G : jx_Gv) : jx_mo (jb_14_0 G).1 := ⟨mo_aload _, mo_objI, mo_aload _, mo_aload _, mo_putA _ _, mo_aload _, mo_aload _, mo_putA _ _, trivial⟩
def jbs_14 (G : jx_Gv) : List (Nat × jx_B) := [(0, jb_14_0 G)]
theorem jms_14 (G : jx_Gv) : ∀ e ∈ jbs_14 G, jx_mo e.2.1 := List.forall_mem_cons.mpr ⟨jm_14_0 G, fun _ h => absurd h List.not_mem_nil⟩
def jb_15_0 (G : jx_Gv) : jx_B := ([jo_aload 0, jo_objI, jo_aload 0, jo_const (.int (120 : Int32)), jo_newa 0 (.inl (fun _ => 0)), jo_putA 6 0], .inr (.inr (.inr (.inr jr_v))))
theorem jm_15_0 (G : jx_Gv) : jx_mo (jb_15_0 G).1 := ⟨mo_aload _, mo_objI, mo_aload _, mo_const _, mo_newa _ _, mo_putA _ _, trivial⟩
def jbs_15 (G : jx_Gv) : List (Nat × jx_B) := [(0, jb_15_0 G)]
theorem jms_15 (G : jx_Gv) : ∀ e ∈ jbs_15 G, jx_mo e.2.1 := List.forall_mem_cons.mpr ⟨jm_15_0 G, fun _ h => absurd h List.not_mem_nil⟩
def jb_16_0 (G : jx_Gv) : jx_B := ([jo_aload 0, jo_objI, jo_new 2 1 [.null], jo_dup], .inr (.inr (.inr (.inl (10, 1, 11, some 2)))))
theorem jm_16_0 (G : jx_Gv) : jx_mo (jb_16_0 G).1 := ⟨mo_aload _, mo_objI, mo_new _ _ _, mo_dup, trivial⟩
def jb_16_11 (G : jx_Gv) : jx_B := ([jo_astore 1, jo_aload 0, jo_new 1 3 [.null, .int 0, .int 0], jo_dup], .inr (.inr (.inr (.inl (11, 1, 20, some 1)))))
theorem jm_16_11 (G : jx_Gv) : jx_mo (jb_16_11 G).1 := ⟨mo_astore _, mo_aload _, mo_new _ _ _, mo_dup, trivial⟩
def jb_16_20 (G : jx_Gv) : jx_B := ([jo_putA 0 0, jo_aload 0, jo_new 4 6 [.null, .int 0, .null, .int 0, .int 0, .int 0], jo_dup, jo_new 3 7 [.null, .null, .int 0, .int 0, .int 0, .int 0, .long 0], jo_dup, jo_aload 0, jo_getA 0 0, jo_aload 1], .inr (.inr (.inr (.inl (12, 3, 40, some 3)))))
theorem jm_16_20 (G : jx_Gv) : jx_mo (jb_16_20 G).1 := ⟨mo_putA _ _, mo_aload _, mo_new _ _ _, mo_dup, mo_new _ _ _, mo_dup, mo_aload _, mo_getA _ _, mo_aload _, trivial⟩
def jb_16_40 (G : jx_Gv) : jx_B := ([], .inr (.inr (.inr (.inl (13, 2, 43, some 4)))))
theorem jm_16_40 (G : jx_Gv) : jx_mo (jb_16_40 G).1 := trivial
def jb_16_43 (G : jx_Gv) : jx_B := ([jo_putA 0 1, jo_aload 0, jo_new 5 2 [.null, .null], jo_dup, jo_aload 0, jo_getA 0 0, jo_aload 1], .inr (.inr (.inr (.inl (14, 3, 59, some 5)))))
theorem jm_16_43 (G : jx_Gv) : jx_mo (jb_16_43 G).1 := ⟨mo_putA _ _, mo_aload _, mo_new _ _ _, mo_dup, mo_aload _, mo_getA _ _, mo_aload _, trivial⟩
def jb_16_59 (G : jx_Gv) : jx_B := ([jo_putA 0 2, jo_aload 0, jo_new 6 1 [.null], jo_dup], .inr (.inr (.inr (.inl (15, 1, 70, some 6)))))
theorem jm_16_59 (G : jx_Gv) : jx_mo (jb_16_59 G).1 := ⟨mo_putA _ _, mo_aload _, mo_new _ _ _, mo_dup, trivial⟩
def jb_16_70 (G : jx_Gv) : jx_B := ([jo_putA 0 3, jo_aload 0, jo_const (.int (10 : Int32)), jo_newa 4 (.inr (.inr (.inr (.inr (fun _ => none))))), jo_putA 0 4, jo_aload 0, jo_const (.int (0 : Int32)), jo_putI 0 5, jo_aload 0, jo_const (.int (-1 : Int32)), jo_putI 0 6], .inr (.inr (.inr (.inr jr_v))))
theorem jm_16_70 (G : jx_Gv) : jx_mo (jb_16_70 G).1 := ⟨mo_putA _ _, mo_aload _, mo_const _, mo_newa _ _, mo_putA _ _, mo_aload _, mo_const _, mo_putI _ _, mo_aload _, mo_const _, mo_putI _ _, trivial⟩
def jbs_16 (G : jx_Gv) : List (Nat × jx_B) := [(0, jb_16_0 G), (11, jb_16_11 G), (20, jb_16_20 G), (40, jb_16_40 G), (43, jb_16_43 G), (59, jb_16_59 G), (70, jb_16_70 G)]
theorem jms_16 (G : jx_Gv) : ∀ e ∈ jbs_16 G, jx_mo e.2.1 := List.forall_mem_cons.mpr ⟨jm_16_0 G, List.forall_mem_cons.mpr ⟨jm_16_11 G, List.forall_mem_cons.mpr ⟨jm_16_20 G, List.forall_mem_cons.mpr ⟨jm_16_40 G, List.forall_mem_cons.mpr ⟨jm_16_43 G, List.forall_mem_cons.mpr ⟨jm_16_59 G, List.forall_mem_cons.mpr ⟨jm_16_70 G, fun _ h => absurd h List.not_mem_nil⟩⟩⟩⟩⟩⟩⟩
def jb_17_0 (G : jx_Gv) : jx_B := ([jo_aload 0, jo_objI, jo_aload 0, jo_const (.int (2000 : Int32)), jo_newa 0 (.inl (fun _ => 0)), jo_putA 8 1, jo_aload 0, jo_const (.int (1001 : Int32)), jo_newa 0 (.inl (fun _ => 0)), jo_putA 8 9, jo_aload 0, jo_const (.int (12012 : Int32)), jo_newa 0 (.inl (fun _ => 0)), jo_putA 8 10, jo_aload 0, jo_const (.int (120 : Int32)), jo_newa 0 (.inl (fun _ => 0)), jo_putA 8 12, jo_aload 0, jo_const (.int (120 : Int32)), jo_newa 0 (.inl (fun _ => 0)), jo_putA 8 13, jo_aload 0, jo_const (.int (120 : Int32))], .inr (.inl 50))
theorem jm_17_0 (G : jx_Gv) : jx_mo (jb_17_0 G).1 := ⟨mo_aload _, mo_objI, mo_aload _, mo_const _, mo_newa _ _, mo_putA _ _, mo_aload _, mo_const _, mo_newa _ _, mo_putA _ _, mo_aload _, mo_const _, mo_newa _ _, mo_putA _ _, mo_aload _, mo_const _, mo_newa _ _, mo_putA _ _, mo_aload _, mo_const _, mo_newa _ _, mo_putA _ _, mo_aload _, mo_const _, trivial⟩
def jb_17_50 (G : jx_Gv) : jx_B := ([jo_newa 0 (.inl (fun _ => 0)), jo_putA 8 14, jo_aload 0, jo_const (.int (120 : Int32)), jo_newa 0 (.inl (fun _ => 0)), jo_putA 8 15, jo_aload 0, jo_const (.int (120 : Int32)), jo_newa 0 (.inl (fun _ => 0)), jo_putA 8 16, jo_aload 0, jo_const (.int (120 : Int32)), jo_newa 0 (.inl (fun _ => 0)), jo_putA 8 17, jo_aload 0, jo_const (.int (120 : Int32)), jo_newa 0 (.inl (fun _ => 0)), jo_putA 8 18, jo_aload 0, jo_const (.int (120 : Int32)), jo_newa 0 (.inl (fun _ => 0)), jo_putA 8 19, jo_aload 0, jo_const (.int (120 : Int32))], .inr (.inl 98))
theorem jm_17_50 (G : jx_Gv) : jx_mo (jb_17_50 G).1 := ⟨mo_newa _ _, mo_putA _ _, mo_aload _, mo_const _, mo_newa _ _, mo_putA _ _, mo_aload _, mo_const _, mo_newa _ _, mo_putA _ _, mo_aload _, mo_const _, mo_newa _ _, mo_putA _ _, mo_aload _, mo_const _, mo_newa _ _, mo_putA _ _, mo_aload _, mo_const _, mo_newa _ _, mo_putA _ _, mo_aload _, mo_const _, trivial⟩
def jb_17_98 (G : jx_Gv) : jx_B := ([jo_newa 0 (.inl (fun _ => 0)), jo_putA 8 20, jo_aload 0, jo_const (.int (120 : Int32)), jo_newa 0 (.inl (fun _ => 0)), jo_putA 8 21, jo_aload 0, jo_const (.int (120 : Int32)), jo_newa 0 (.inl (fun _ => 0)), jo_putA 8 22, jo_aload 0, jo_const (.int (120 : Int32)), jo_newa 0 (.inl (fun _ => 0)), jo_putA 8 23, jo_aload 0, jo_const (.int (600 : Int32)), jo_newa 0 (.inl (fun _ => 0)), jo_putA 8 25, jo_aload 0, jo_const (.int (600 : Int32)), jo_newa 0 (.inl (fun _ => 0)), jo_putA 8 26, jo_aload 0, jo_const (.int (600 : Int32))], .inr (.inl 149))
theorem jm_17_98 (G : jx_Gv) : jx_mo (jb_17_98 G).1 := ⟨mo_newa _ _, mo_putA _ _, mo_aload _, mo_const _, mo_newa _ _, mo_putA _ _, mo_aload _, mo_const _, mo_newa _ _, mo_putA _ _, mo_aload _, mo_const _, mo_newa _ _, mo_putA _ _, mo_aload _, mo_const _, mo_newa _ _, mo_putA _ _, mo_aload _, mo_const _, mo_newa _ _, mo_putA _ _, mo_aload _, mo_const _, trivial⟩
def jb_17_149 (G : jx_Gv) : jx_B := ([jo_newa 0 (.inl (fun _ => 0)), jo_putA 8 27, jo_aload 0, jo_const (.int (6000 : Int32)), jo_newa 0 (.inl (fun _ => 0)), jo_putA 8 29, jo_aload 0, jo_const (.int (121 : Int32)), jo_newa 0 (.inl (fun _ => 0)), jo_putA 8 30, jo_aload 0, jo_const (.int (120 : Int32)), jo_newa 0 (.inl (fun _ => 0)), jo_putA 8 34, jo_aload 0, jo_const (.int (120 : Int32)), jo_newa 0 (.inl (fun _ => 0)), jo_putA 8 35, jo_aload 0, jo_const (.int (120 : Int32)), jo_newa 0 (.inl (fun _ => 0)), jo_putA 8 36, jo_aload 0, jo_const (.int (120 : Int32))], .inr (.inl 198))
theorem jm_17_149 (G : jx_Gv) : jx_mo (jb_17_149 G).1 := ⟨mo_newa _ _, mo_putA _ _, mo_aload _, mo_const _, mo_newa _ _, mo_putA _ _, mo_aload _, mo_const _, mo_newa _ _, mo_putA _ _, mo_aload _, mo_const _, mo_newa _ _, mo_putA _ _, mo_aload _, mo_const _, mo_newa _ _, mo_putA _ _, mo_aload _, mo_const _, mo_newa _ _, mo_putA _ _, mo_aload _, mo_const _, trivial⟩
def jb_17_198 (G : jx_Gv) : jx_B := ([jo_newa 0 (.inl (fun _ => 0)), jo_putA 8 37, jo_aload 0, jo_const (.int (120 : Int32)), jo_newa 0 (.inl (fun _ => 0)), jo_putA 8 38, jo_aload 0, jo_const (.int (120 : Int32)), jo_newa 0 (.inl (fun _ => 0)), jo_putA 8 39, jo_aload 0, jo_const (.int (120 : Int32)), jo_newa 0 (.inl (fun _ => 0)), jo_putA 8 40, jo_aload 0, jo_const (.int (120 : Int32)), jo_newa 0 (.inl (fun _ => 0)), jo_putA 8 41, jo_aload 0, jo_const (.int (120 : Int32)), jo_newa 0 (.inl (fun _ => 0)), jo_putA 8 42, jo_aload 0, jo_const (.int (120 : Int32))], .inr (.inl 246))
theorem jm_17_198 (G : jx_Gv) : jx_mo (jb_17_198 G).1 := ⟨mo_newa _ _, mo_putA _ _, mo_aload _, mo_const _, mo_newa _ _, mo_putA _ _, mo_aload _, mo_const _, mo_newa _ _, mo_putA _ _, mo_aload _, mo_const _, mo_newa _ _, mo_putA _ _, mo_aload _, mo_const _, mo_newa _ _, mo_putA _ _, mo_aload _, mo_const _, mo_newa _ _, mo_putA _ _, mo_aload _, mo_const _, trivial⟩
def jb_17_246 (G : jx_Gv) : jx_B := ([jo_newa 0 (.inl (fun _ => 0)), jo_putA 8 43, jo_aload 0, jo_const (.int (120 : Int32)), jo_newa 0 (.inl (fun _ => 0)), jo_putA 8 44, jo_aload 0, jo_const (.int (120 : Int32)), jo_newa 0 (.inl (fun _ => 0)), jo_putA 8 45, jo_aload 0, jo_const (.int (600 : Int32)), jo_newa 0 (.inl (fun _ => 0)), jo_putA 8 46, jo_aload 0, jo_const (.int (600 : Int32)), jo_newa 0 (.inl (fun _ => 0)), jo_putA 8 47, jo_aload 0, jo_const (.int (600 : Int32)), jo_newa 0 (.inl (fun _ => 0)), jo_putA 8 48, jo_aload 0, jo_const (.int (6000 : Int32))], .inr (.inl 298))
theorem jm_17_246 (G : jx_Gv) : jx_mo (jb_17_246 G).1 := ⟨mo_newa _ _, mo_putA _ _, mo_aload _, mo_const _, mo_newa _ _, mo_putA _ _, mo_aload _, mo_const _, mo_newa _ _, mo_putA _ _, mo_aload _, mo_const _, mo_newa _ _, mo_putA _ _, mo_aload _, mo_const _, mo_newa _ _, mo_putA _ _, mo_aload _, mo_const _, mo_newa _ _, mo_putA _ _, mo_aload _, mo_const _, trivial⟩
def jb_17_298 (G : jx_Gv) : jx_B := ([jo_newa 0 (.inl (fun _ => 0)), jo_putA 8 49, jo_aload 0, jo_const (.int (121 : Int32)), jo_newa 0 (.inl (fun _ => 0)), jo_putA 8 50, jo_aload 0, jo_const (.int (8 : Int32)), jo_newa 0 (.inl (fun _ => 0)), jo_putA 8 52, jo_aload 0, jo_const (.int (960 : Int32)), jo_newa 0 (.inl (fun _ => 0)), jo_putA 8 53, jo_aload 0, jo_const (.int (968 : Int32)), jo_newa 0 (.inl (fun _ => 0)), jo_putA 8 54, jo_aload 0, jo_const (.int (48000 : Int32)), jo_newa 0 (.inl (fun _ => 0)), jo_putA 8 55, jo_aload 0, jo_const (.int (120 : Int32))], .inr (.inl 348))
theorem jm_17_298 (G : jx_Gv) : jx_mo (jb_17_298 G).1 := ⟨mo_newa _ _, mo_putA _ _, mo_aload _, mo_const _, mo_newa _ _, mo_putA _ _, mo_aload _, mo_const _, mo_newa _ _, mo_putA _ _, mo_aload _, mo_const _, mo_newa _ _, mo_putA _ _, mo_aload _, mo_const _, mo_newa _ _, mo_putA _ _, mo_aload _, mo_const _, mo_newa _ _, mo_putA _ _, mo_aload _, mo_const _, trivial⟩
def jb_17_348 (G : jx_Gv) : jx_B := ([jo_newa 3 (.inl (fun _ => 0)), jo_putA 8 56], .inr (.inr (.inr (.inr jr_v))))
theorem jm_17_348 (G : jx_Gv) : jx_mo (jb_17_348 G).1 := ⟨mo_newa _ _, mo_putA _ _, trivial⟩
def jbs_17 (G : jx_Gv) : List (Nat × jx_B) := [(0, jb_17_0 G), (50, jb_17_50 G), (98, jb_17_98 G), (149, jb_17_149 G), (198, jb_17_198 G), (246, jb_17_246 G), (298, jb_17_298 G), (348, jb_17_348 G)]
theorem jms_17 (G : jx_Gv) : ∀ e ∈ jbs_17 G, jx_mo e.2.1 := List.forall_mem_cons.mpr ⟨jm_17_0 G, List.forall_mem_cons.mpr ⟨jm_17_50 G, List.forall_mem_cons.mpr ⟨jm_17_98 G, List.forall_mem_cons.mpr ⟨jm_17_149 G, List.forall_mem_cons.mpr ⟨jm_17_198 G, List.forall_mem_cons.mpr ⟨jm_17_246 G, List.forall_mem_cons.mpr ⟨jm_17_298 G, List.forall_mem_cons.mpr ⟨jm_17_348 G, fun _ h => absurd h List.not_mem_nil⟩⟩⟩⟩⟩⟩⟩⟩
def jb_18_0 (G : jx_Gv) : jx_B := ([jo_aload 0, jo_getI 1 1, jo_aload 0, jo_getA 1 0, jo_alen 0], .inl (jc_ii (fun x y => decide (x < y)), 18, 12))
theorem jm_18_0 (G : jx_Gv) : jx_mo (jb_18_0 G).1 := ⟨mo_aload _, mo_getI _ _, mo_aload _, mo_getA _ _, mo_alen _, trivial⟩
def jb_18_12 (G : jx_Gv) : jx_B := ([jo_aload 0, jo_const (.int (1 : Int32)), jo_putZ 1 2], .inr (.inr (.inr (.inr jr_v))))
theorem jm_18_12 (G : jx_Gv) : jx_mo (jb_18_12 G).1 := ⟨mo_aload _, mo_const _, mo_putZ _ _, trivial⟩
def jb_18_18 (G : jx_Gv) : jx_B := ([jo_aload 0, jo_getA 1 0, jo_aload 0, jo_getI 1 1, jo_iload 1, jo_iast 0, jo_aload 0, jo_dup, jo_getI 1 1, jo_const (.int (1 : Int32)), jo_ii (· + ·), jo_putI 1 1], .inr (.inr (.inr (.inr jr_v))))
theorem jm_18_18 (G : jx_Gv) : jx_mo (jb_18_18 G).1 := ⟨mo_aload _, mo_getA _ _, mo_aload _, mo_getI _ _, mo_iload _, mo_iast _, mo_aload _, mo_dup, mo_getI _ _, mo_const _, mo_ii _, mo_putI _ _, trivial⟩
def jbs_18 (G : jx_Gv) : List (Nat × jx_B) := [(0, jb_18_0 G), (12, jb_18_12 G), (18, jb_18_18 G)]
theorem jms_18 (G : jx_Gv) : ∀ e ∈ jbs_18 G, jx_mo e.2.1 := List.forall_mem_cons.mpr ⟨jm_18_0 G, List.forall_mem_cons.mpr ⟨jm_18_12 G, List.forall_mem_cons.mpr ⟨jm_18_18 G, fun _ h => absurd h List.not_mem_nil⟩⟩⟩
def jb_19_0 (G : jx_Gv) : jx_B := ([jo_const (.int (24 : Int32)), jo_istore 2], .inr (.inl 3))
theorem jm_19_0 (G : jx_Gv) : jx_mo (jb_19_0 G).1 := ⟨mo_const _, mo_istore _, trivial⟩
def jb_19_3 (G : jx_Gv) : jx_B := ([jo_iload 2], .inl (jc_i (fun x => decide (x < 0)), 33, 7))
theorem jm_19_3 (G : jx_Gv) : jx_mo (jb_19_3 G).1 := ⟨mo_iload _, trivial⟩
def jb_19_7 (G : jx_Gv) : jx_B := ([jo_iload 1, jo_iload 2, jo_ii (fun x y => (x.toUInt32 >>> (y.toUInt32 &&& Int32.toUInt32 31)).toInt32), jo_const (.int (255 : Int32)), jo_ii (· &&& ·), jo_istore 3, jo_iload 3], .inl (jc_i (fun x => decide (x = 0)), 27, 19))
theorem jm_19_7 (G : jx_Gv) : jx_mo (jb_19_7 G).1 := ⟨mo_iload _, mo_iload _, mo_ii _, mo_const _, mo_ii _, mo_istore _, mo_iload _, trivial⟩
def jb_19_19 (G : jx_Gv) : jx_B := ([jo_aload 0, jo_getA 0 0, jo_iload 3], .inr (.inr (.inr (.inl (18, 2, 27, some 1)))))
theorem jm_19_19 (G : jx_Gv) : jx_mo (jb_19_19 G).1 := ⟨mo_aload _, mo_getA _ _, mo_iload _, trivial⟩
def jb_19_27 (G : jx_Gv) : jx_B := ([jo_iinc 2 (-8 : Int32)], .inr (.inl 3))
theorem jm_19_27 (G : jx_Gv) : jx_mo (jb_19_27 G).1 := ⟨mo_iinc _ _, trivial⟩
def jb_19_33 (G : jx_Gv) : jx_B := ([], .inr (.inr (.inr (.inr jr_v))))
theorem jm_19_33 (G : jx_Gv) : jx_mo (jb_19_33 G).1 := trivial
def jbs_19 (G : jx_Gv) : List (Nat × jx_B) := [(0, jb_19_0 G), (3, jb_19_3 G), (7, jb_19_7 G), (19, jb_19_19 G), (27, jb_19_27 G), (33, jb_19_33 G)]
theorem jms_19 (G : jx_Gv) : ∀ e ∈ jbs_19 G, jx_mo e.2.1 := List.forall_mem_cons.mpr ⟨jm_19_0 G, List.forall_mem_cons.mpr ⟨jm_19_3 G, List.forall_mem_cons.mpr ⟨jm_19_7 G, List.forall_mem_cons.mpr ⟨jm_19_19 G, List.forall_mem_cons.mpr ⟨jm_19_27 G, List.forall_mem_cons.mpr ⟨jm_19_33 G, fun _ h => absurd h List.not_mem_nil⟩⟩⟩⟩⟩⟩
def jb_20_0 (G : jx_Gv) : jx_B := ([jo_const (.int (24 : Int32)), jo_istore 2], .inr (.inl 3))
theorem jm_20_0 (G : jx_Gv) : jx_mo (jb_20_0 G).1 := ⟨mo_const _, mo_istore _, trivial⟩
def jb_20_3 (G : jx_Gv) : jx_B := ([jo_iload 2], .inl (jc_i (fun x => decide (x < 0)), 55, 7))
theorem jm_20_3 (G : jx_Gv) : jx_mo (jb_20_3 G).1 := ⟨mo_iload _, trivial⟩
def jb_20_7 (G : jx_Gv) : jx_B := ([jo_iload 1, jo_iload 2, jo_ii (fun x y => x >>> (y &&& 31)), jo_const (.int (255 : Int32)), jo_ii (· &&& ·), jo_istore 3, jo_iload 3], .inl (jc_i (fun x => decide (x = 0)), 49, 19))
theorem jm_20_7 (G : jx_Gv) : jx_mo (jb_20_7 G).1 := ⟨mo_iload _, mo_iload _, mo_ii _, mo_const _, mo_ii _, mo_istore _, mo_iload _, trivial⟩
def jb_20_19 (G : jx_Gv) : jx_B := ([jo_aload 0, jo_getI 8 0, jo_const (.int (2000 : Int32))], .inl (jc_ii (fun x y => decide (y ≤ x)), 49, 29))
theorem jm_20_19 (G : jx_Gv) : jx_mo (jb_20_19 G).1 := ⟨mo_aload _, mo_getI _ _, mo_const _, trivial⟩
def jb_20_29 (G : jx_Gv) : jx_B := ([jo_aload 0, jo_getA 8 1, jo_aload 0, jo_getI 8 0, jo_iload 3, jo_iast 0, jo_aload 0, jo_dup, jo_getI 8 0, jo_const (.int (1 : Int32)), jo_ii (· + ·), jo_putI 8 0], .inr (.inl 49))
theorem jm_20_29 (G : jx_Gv) : jx_mo (jb_20_29 G).1 := ⟨mo_aload _, mo_getA _ _, mo_aload _, mo_getI _ _, mo_iload _, mo_iast _, mo_aload _, mo_dup, mo_getI _ _, mo_const _, mo_ii _, mo_putI _ _, trivial⟩
def jb_20_49 (G : jx_Gv) : jx_B := ([jo_iinc 2 (-8 : Int32)], .inr (.inl 3))
theorem jm_20_49 (G : jx_Gv) : jx_mo (jb_20_49 G).1 := ⟨mo_iinc _ _, trivial⟩
def jb_20_55 (G : jx_Gv) : jx_B := ([], .inr (.inr (.inr (.inr jr_v))))
theorem jm_20_55 (G : jx_Gv) : jx_mo (jb_20_55 G).1 := trivial
def jbs_20 (G : jx_Gv) : List (Nat × jx_B) := [(0, jb_20_0 G), (3, jb_20_3 G), (7, jb_20_7 G), (19, jb_20_19 G), (29, jb_20_29 G), (49, jb_20_49 G), (55, jb_20_55 G)]
theorem jms_20 (G : jx_Gv) : ∀ e ∈ jbs_20 G, jx_mo e.2.1 := List.forall_mem_cons.mpr ⟨jm_20_0 G, List.forall_mem_cons.mpr ⟨jm_20_3 G, List.forall_mem_cons.mpr ⟨jm_20_7 G, List.forall_mem_cons.mpr ⟨jm_20_19 G, List.forall_mem_cons.mpr ⟨jm_20_29 G, List.forall_mem_cons.mpr ⟨jm_20_49 G, List.forall_mem_cons.mpr ⟨jm_20_55 G, fun _ h => absurd h List.not_mem_nil⟩⟩⟩⟩⟩⟩⟩
def jb_21_0 (G : jx_Gv) : jx_B := ([jo_aload 0, jo_getI 0 5, jo_const (.int (8 : Int32))], .inl (jc_ii (fun x y => decide (y ≤ x)), 14, 9))
theorem jm_21_0 (G : jx_Gv) : jx_mo (jb_21_0 G).1 := ⟨mo_aload _, mo_getI _ _, mo_const _, trivial⟩
def jb_21_9 (G : jx_Gv) : jx_B := ([jo_aload 0, jo_getI 0 5], .inr (.inr (.inr (.inr jr_i))))
theorem jm_21_9 (G : jx_Gv) : jx_mo (jb_21_9 G).1 := ⟨mo_aload _, mo_getI _ _, trivial⟩
def jb_21_14 (G : jx_Gv) : jx_B := ([jo_aload 0, jo_getI 0 6, jo_const (.int (8 : Int32))], .inl (jc_ii (fun x y => decide (¬ x = y)), 28, 23))
theorem jm_21_14 (G : jx_Gv) : jx_mo (jb_21_14 G).1 := ⟨mo_aload _, mo_getI _ _, mo_const _, trivial⟩
def jb_21_23 (G : jx_Gv) : jx_B := ([jo_const (.int (9 : Int32))], .inr (.inl 30))
theorem jm_21_23 (G : jx_Gv) : jx_mo (jb_21_23 G).1 := ⟨mo_const _, trivial⟩
def jb_21_28 (G : jx_Gv) : jx_B := ([jo_const (.int (8 : Int32))], .inr (.inl 30))
theorem jm_21_28 (G : jx_Gv) : jx_mo (jb_21_28 G).1 := ⟨mo_const _, trivial⟩
def jb_21_30 (G : jx_Gv) : jx_B := ([], .inr (.inr (.inr (.inr jr_i))))
theorem jm_21_30 (G : jx_Gv) : jx_mo (jb_21_30 G).1 := trivial
def jbs_21 (G : jx_Gv) : List (Nat × jx_B) := [(0, jb_21_0 G), (9, jb_21_9 G), (14, jb_21_14 G), (23, jb_21_23 G), (28, jb_21_28 G), (30, jb_21_30 G)]
theorem jms_21 (G : jx_Gv) : ∀ e ∈ jbs_21 G, jx_mo e.2.1 := List.forall_mem_cons.mpr ⟨jm_21_0 G, List.forall_mem_cons.mpr ⟨jm_21_9 G, List.forall_mem_cons.mpr ⟨jm_21_14 G, List.forall_mem_cons.mpr ⟨jm_21_23 G, List.forall_mem_cons.mpr ⟨jm_21_28 G, List.forall_mem_cons.mpr ⟨jm_21_30 G, fun _ h => absurd h List.not_mem_nil⟩⟩⟩⟩⟩⟩
def jb_22_0 (G : jx_Gv) : jx_B := ([jo_aload 0, jo_objI, jo_aload 0, jo_const (.int (2000 : Int32)), jo_newa 2 (.inl (fun _ => 0)), jo_putA 7 0, jo_aload 0, jo_const (.int (2000 : Int32)), jo_newa 0 (.inl (fun _ => 0)), jo_putA 7 1, jo_aload 0, jo_const (.int (0 : Int32)), jo_putI 7 2, jo_aload 0, jo_const (.int (1000 : Int32)), jo_newa 1 (.inr (.inl (fun _ => 0))), jo_putA 7 3, jo_aload 0, jo_const (.int (0 : Int32)), jo_putI 7 4, jo_aload 0, jo_const (.int (121 : Int32)), jo_newa 0 (.inl (fun _ => 0)), jo_putA 7 5], .inr (.inl 49))
theorem jm_22_0 (G : jx_Gv) : jx_mo (jb_22_0 G).1 := ⟨mo_aload _, mo_objI, mo_aload _, mo_const _, mo_newa _ _, mo_putA _ _, mo_aload _, mo_const _, mo_newa _ _, mo_putA _ _, mo_aload _, mo_const _, mo_putI _ _, mo_aload _, mo_const _, mo_newa _ _, mo_putA _ _, mo_aload _, mo_const _, mo_putI _ _, mo_aload _, mo_const _, mo_newa _ _, mo_putA _ _, trivial⟩
def jb_22_49 (G : jx_Gv) : jx_B := ([jo_aload 0, jo_const (.int (121 : Int32)), jo_newa 0 (.inl (fun _ => 0)), jo_putA 7 6, jo_aload 0, jo_const (.int (121 : Int32)), jo_newa 0 (.inl (fun _ => 0)), jo_putA 7 7, jo_aload 0, jo_const (.int (121 : Int32)), jo_newa 0 (.inl (fun _ => 0)), jo_putA 7 8, jo_aload 0, jo_const (.int (121 : Int32)), jo_newa 0 (.inl (fun _ => 0)), jo_putA 7 9, jo_aload 0, jo_const (.int (0 : Int32)), jo_putI 7 10], .inr (.inr (.inr (.inr jr_v))))
theorem jm_22_49 (G : jx_Gv) : jx_mo (jb_22_49 G).1 := ⟨mo_aload _, mo_const _, mo_newa _ _, mo_putA _ _, mo_aload _, mo_const _, mo_newa _ _, mo_putA _ _, mo_aload _, mo_const _, mo_newa _ _, mo_putA _ _, mo_aload _, mo_const _, mo_newa _ _, mo_putA _ _, mo_aload _, mo_const _, mo_putI _ _, trivial⟩
def jbs_22 (G : jx_Gv) : List (Nat × jx_B) := [(0, jb_22_0 G), (49, jb_22_49 G)]
theorem jms_22 (G : jx_Gv) : ∀ e ∈ jbs_22 G, jx_mo e.2.1 := List.forall_mem_cons.mpr ⟨jm_22_0 G, List.forall_mem_cons.mpr ⟨jm_22_49 G, fun _ h => absurd h List.not_mem_nil⟩⟩
def jb_23_0 (G : jx_Gv) : jx_B := ([jo_iload 1], .inl (jc_i (fun x => decide (x < 0)), 13, 4))
theorem jm_23_0 (G : jx_Gv) : jx_mo (jb_23_0 G).1 := ⟨mo_iload _, trivial⟩
def jb_23_4 (G : jx_Gv) : jx_B := ([jo_iload 1, jo_aload 0, jo_getA 0 4, jo_alen 4], .inl (jc_ii (fun x y => decide (x < y)), 15, 13))
theorem jm_23_4 (G : jx_Gv) : jx_mo (jb_23_4 G).1 := ⟨mo_iload _, mo_aload _, mo_getA _ _, mo_alen _, trivial⟩
def jb_23_13 (G : jx_Gv) : jx_B := ([jo_const .null], .inr (.inr (.inr (.inr jr_a))))
theorem jm_23_13 (G : jx_Gv) : jx_mo (jb_23_13 G).1 := ⟨mo_const _, trivial⟩
def jb_23_15 (G : jx_Gv) : jx_B := ([jo_aload 0, jo_getA 0 4, jo_iload 1, jo_aald 4], .inl (jc_nonn, 37, 24))
theorem jm_23_15 (G : jx_Gv) : jx_mo (jb_23_15 G).1 := ⟨mo_aload _, mo_getA _ _, mo_iload _, mo_aald _, trivial⟩
def jb_23_24 (G : jx_Gv) : jx_B := ([jo_aload 0, jo_getA 0 4, jo_iload 1, jo_new 7 11 [.null, .null, .int 0, .null, .int 0, .null, .null, .null, .null, .null, .int 0], jo_dup], .inr (.inr (.inr (.inl (22, 1, 36, some 7)))))
theorem jm_23_24 (G : jx_Gv) : jx_mo (jb_23_24 G).1 := ⟨mo_aload _, mo_getA _ _, mo_iload _, mo_new _ _ _, mo_dup, trivial⟩
def jb_23_36 (G : jx_Gv) : jx_B := ([jo_aast 4 7], .inr (.inl 37))
theorem jm_23_36 (G : jx_Gv) : jx_mo (jb_23_36 G).1 := ⟨mo_aast _ _, trivial⟩
def jb_23_37 (G : jx_Gv) : jx_B := ([jo_aload 0, jo_getA 0 4, jo_iload 1, jo_aald 4], .inr (.inr (.inr (.inr jr_a))))
theorem jm_23_37 (G : jx_Gv) : jx_mo (jb_23_37 G).1 := ⟨mo_aload _, mo_getA _ _, mo_iload _, mo_aald _, trivial⟩
def jbs_23 (G : jx_Gv) : List (Nat × jx_B) := [(0, jb_23_0 G), (4, jb_23_4 G), (13, jb_23_13 G), (15, jb_23_15 G), (24, jb_23_24 G), (36, jb_23_36 G), (37, jb_23_37 G)]
theorem jms_23 (G : jx_Gv) : ∀ e ∈ jbs_23 G, jx_mo e.2.1 := List.forall_mem_cons.mpr ⟨jm_23_0 G, List.forall_mem_cons.mpr ⟨jm_23_4 G, List.forall_mem_cons.mpr ⟨jm_23_13 G, List.forall_mem_cons.mpr ⟨jm_23_15 G, List.forall_mem_cons.mpr ⟨jm_23_24 G, List.forall_mem_cons.mpr ⟨jm_23_36 G, List.forall_mem_cons.mpr ⟨jm_23_37 G, fun _ h => absurd h List.not_mem_nil⟩⟩⟩⟩⟩⟩⟩
def jb_24_0 (G : jx_Gv) : jx_B := ([jo_aload 0, jo_const (.int (0 : Int32)), jo_putI 7 2, jo_aload 0, jo_const (.int (0 : Int32)), jo_putI 7 4, jo_aload 0, jo_const (.int (0 : Int32)), jo_putI 7 10], .inr (.inr (.inr (.inr jr_v))))
theorem jm_24_0 (G : jx_Gv) : jx_mo (jb_24_0 G).1 := ⟨mo_aload _, mo_const _, mo_putI _ _, mo_aload _, mo_const _, mo_putI _ _, mo_aload _, mo_const _, mo_putI _ _, trivial⟩
def jbs_24 (G : jx_Gv) : List (Nat × jx_B) := [(0, jb_24_0 G)]
theorem jms_24 (G : jx_Gv) : ∀ e ∈ jbs_24 G, jx_mo e.2.1 := List.forall_mem_cons.mpr ⟨jm_24_0 G, fun _ h => absurd h List.not_mem_nil⟩
def jb_25_0 (G : jx_Gv) : jx_B := ([jo_aload 0, jo_const (.int (0 : Int32)), jo_putI 3 2, jo_aload 0, jo_const (.int (1 : Int32)), jo_putI 3 3], .inr (.inr (.inr (.inr jr_v))))
theorem jm_25_0 (G : jx_Gv) : jx_mo (jb_25_0 G).1 := ⟨mo_aload _, mo_const _, mo_putI _ _, mo_aload _, mo_const _, mo_putI _ _, trivial⟩
def jbs_25 (G : jx_Gv) : List (Nat × jx_B) := [(0, jb_25_0 G)]
theorem jms_25 (G : jx_Gv) : ∀ e ∈ jbs_25 G, jx_mo e.2.1 := List.forall_mem_cons.mpr ⟨jm_25_0 G, fun _ h => absurd h List.not_mem_nil⟩
def jb_26_0 (G : jx_Gv) : jx_B := ([jo_aload 0, jo_aload 1, jo_putA 4 2, jo_aload 0, jo_const (.int (0 : Int32)), jo_putI 4 3], .inr (.inr (.inr (.inr jr_v))))
theorem jm_26_0 (G : jx_Gv) : jx_mo (jb_26_0 G).1 := ⟨mo_aload _, mo_aload _, mo_putA _ _, mo_aload _, mo_const _, mo_putI _ _, trivial⟩
def jbs_26 (G : jx_Gv) : List (Nat × jx_B) := [(0, jb_26_0 G)]
theorem jms_26 (G : jx_Gv) : ∀ e ∈ jbs_26 G, jx_mo e.2.1 := List.forall_mem_cons.mpr ⟨jm_26_0 G, fun _ h => absurd h List.not_mem_nil⟩
def jb_27_0 (G : jx_Gv) : jx_B := ([jo_aload 0, jo_getI 1 1], .inr (.inr (.inr (.inr jr_i))))
theorem jm_27_0 (G : jx_Gv) : jx_mo (jb_27_0 G).1 := ⟨mo_aload _, mo_getI _ _, trivial⟩
def jbs_27 (G : jx_Gv) : List (Nat × jx_B) := [(0, jb_27_0 G)]
theorem jms_27 (G : jx_Gv) : ∀ e ∈ jbs_27 G, jx_mo e.2.1 := List.forall_mem_cons.mpr ⟨jm_27_0 G, fun _ h => absurd h List.not_mem_nil⟩
def jb_28_0 (G : jx_Gv) : jx_B := ([jo_iload 1], .inl (jc_i (fun x => decide (x < 0)), 21, 4))
theorem jm_28_0 (G : jx_Gv) : jx_mo (jb_28_0 G).1 := ⟨mo_iload _, trivial⟩
def jb_28_4 (G : jx_Gv) : jx_B := ([jo_iload 1, jo_aload 0, jo_getI 1 1], .inl (jc_ii (fun x y => decide (y ≤ x)), 21, 12))
theorem jm_28_4 (G : jx_Gv) : jx_mo (jb_28_4 G).1 := ⟨mo_iload _, mo_aload _, mo_getI _ _, trivial⟩
def jb_28_12 (G : jx_Gv) : jx_B := ([jo_iload 1, jo_aload 0, jo_getA 1 0, jo_alen 0], .inl (jc_ii (fun x y => decide (x < y)), 25, 21))
theorem jm_28_12 (G : jx_Gv) : jx_mo (jb_28_12 G).1 := ⟨mo_iload _, mo_aload _, mo_getA _ _, mo_alen _, trivial⟩
def jb_28_21 (G : jx_Gv) : jx_B := ([jo_const (.int (-1 : Int32))], .inr (.inl 31))
theorem jm_28_21 (G : jx_Gv) : jx_mo (jb_28_21 G).1 := ⟨mo_const _, trivial⟩
def jb_28_25 (G : jx_Gv) : jx_B := ([jo_aload 0, jo_getA 1 0, jo_iload 1, jo_iald 0], .inr (.inl 31))
theorem jm_28_25 (G : jx_Gv) : jx_mo (jb_28_25 G).1 := ⟨mo_aload _, mo_getA _ _, mo_iload _, mo_iald _, trivial⟩
def jb_28_31 (G : jx_Gv) : jx_B := ([], .inr (.inr (.inr (.inr jr_i))))
theorem jm_28_31 (G : jx_Gv) : jx_mo (jb_28_31 G).1 := trivial
def jbs_28 (G : jx_Gv) : List (Nat × jx_B) := [(0, jb_28_0 G), (4, jb_28_4 G), (12, jb_28_12 G), (21, jb_28_21 G), (25, jb_28_25 G), (31, jb_28_31 G)]
theorem jms_28 (G : jx_Gv) : ∀ e ∈ jbs_28 G, jx_mo e.2.1 := List.forall_mem_cons.mpr ⟨jm_28_0 G, List.forall_mem_cons.mpr ⟨jm_28_4 G, List.forall_mem_cons.mpr ⟨jm_28_12 G, List.forall_mem_cons.mpr ⟨jm_28_21 G, List.forall_mem_cons.mpr ⟨jm_28_25 G, List.forall_mem_cons.mpr ⟨jm_28_31 G, fun _ h => absurd h List.not_mem_nil⟩⟩⟩⟩⟩⟩
def jb_29_0 (G : jx_Gv) : jx_B := ([jo_iload 0, jo_const (.int (9 : Int32))], .inl (jc_ii (fun x y => decide (x = y)), 24, 6))
theorem jm_29_0 (G : jx_Gv) : jx_mo (jb_29_0 G).1 := ⟨mo_iload _, mo_const _, trivial⟩
def jb_29_6 (G : jx_Gv) : jx_B := ([jo_iload 0, jo_const (.int (10 : Int32))], .inl (jc_ii (fun x y => decide (x = y)), 24, 12))
theorem jm_29_6 (G : jx_Gv) : jx_mo (jb_29_6 G).1 := ⟨mo_iload _, mo_const _, trivial⟩
def jb_29_12 (G : jx_Gv) : jx_B := ([jo_iload 0, jo_const (.int (13 : Int32))], .inl (jc_ii (fun x y => decide (x = y)), 24, 18))
theorem jm_29_12 (G : jx_Gv) : jx_mo (jb_29_12 G).1 := ⟨mo_iload _, mo_const _, trivial⟩
def jb_29_18 (G : jx_Gv) : jx_B := ([jo_iload 0, jo_const (.int (32 : Int32))], .inl (jc_ii (fun x y => decide (¬ x = y)), 28, 24))
theorem jm_29_18 (G : jx_Gv) : jx_mo (jb_29_18 G).1 := ⟨mo_iload _, mo_const _, trivial⟩
def jb_29_24 (G : jx_Gv) : jx_B := ([jo_const (.int (1 : Int32))], .inr (.inl 29))
theorem jm_29_24 (G : jx_Gv) : jx_mo (jb_29_24 G).1 := ⟨mo_const _, trivial⟩
def jb_29_28 (G : jx_Gv) : jx_B := ([jo_const (.int (0 : Int32))], .inr (.inl 29))
theorem jm_29_28 (G : jx_Gv) : jx_mo (jb_29_28 G).1 := ⟨mo_const _, trivial⟩
def jb_29_29 (G : jx_Gv) : jx_B := ([], .inr (.inr (.inr (.inr jr_z))))
theorem jm_29_29 (G : jx_Gv) : jx_mo (jb_29_29 G).1 := trivial
def jbs_29 (G : jx_Gv) : List (Nat × jx_B) := [(0, jb_29_0 G), (6, jb_29_6 G), (12, jb_29_12 G), (18, jb_29_18 G), (24, jb_29_24 G), (28, jb_29_28 G), (29, jb_29_29 G)]
theorem jms_29 (G : jx_Gv) : ∀ e ∈ jbs_29 G, jx_mo e.2.1 := List.forall_mem_cons.mpr ⟨jm_29_0 G, List.forall_mem_cons.mpr ⟨jm_29_6 G, List.forall_mem_cons.mpr ⟨jm_29_12 G, List.forall_mem_cons.mpr ⟨jm_29_18 G, List.forall_mem_cons.mpr ⟨jm_29_24 G, List.forall_mem_cons.mpr ⟨jm_29_28 G, List.forall_mem_cons.mpr ⟨jm_29_29 G, fun _ h => absurd h List.not_mem_nil⟩⟩⟩⟩⟩⟩⟩
def jb_30_0 (G : jx_Gv) : jx_B := ([jo_aload 0, jo_getI 3 2, jo_aload 0, jo_getA 3 0], .inr (.inr (.inr (.inl (27, 1, 11, some 1)))))
theorem jm_30_0 (G : jx_Gv) : jx_mo (jb_30_0 G).1 := ⟨mo_aload _, mo_getI _ _, mo_aload _, mo_getA _ _, trivial⟩
def jb_30_11 (G : jx_Gv) : jx_B := ([], .inl (jc_ii (fun x y => decide (y ≤ x)), 70, 14))
theorem jm_30_11 (G : jx_Gv) : jx_mo (jb_30_11 G).1 := trivial
def jb_30_14 (G : jx_Gv) : jx_B := ([jo_aload 0, jo_getA 3 0, jo_aload 0, jo_getI 3 2], .inr (.inr (.inr (.inl (28, 2, 25, some 1)))))
theorem jm_30_14 (G : jx_Gv) : jx_mo (jb_30_14 G).1 := ⟨mo_aload _, mo_getA _ _, mo_aload _, mo_getI _ _, trivial⟩
def jb_30_25 (G : jx_Gv) : jx_B := ([], .inr (.inr (.inr (.inl (29, 1, 28, none)))))
theorem jm_30_25 (G : jx_Gv) : jx_mo (jb_30_25 G).1 := trivial
def jb_30_28 (G : jx_Gv) : jx_B := ([], .inl (jc_i (fun x => decide (x = 0)), 70, 31))
theorem jm_30_28 (G : jx_Gv) : jx_mo (jb_30_28 G).1 := trivial
def jb_30_31 (G : jx_Gv) : jx_B := ([jo_aload 0, jo_getA 3 0, jo_aload 0, jo_getI 3 2], .inr (.inr (.inr (.inl (28, 2, 42, some 1)))))
theorem jm_30_31 (G : jx_Gv) : jx_mo (jb_30_31 G).1 := ⟨mo_aload _, mo_getA _ _, mo_aload _, mo_getI _ _, trivial⟩
def jb_30_42 (G : jx_Gv) : jx_B := ([jo_const (.int (10 : Int32))], .inl (jc_ii (fun x y => decide (¬ x = y)), 57, 47))
theorem jm_30_42 (G : jx_Gv) : jx_mo (jb_30_42 G).1 := ⟨mo_const _, trivial⟩
def jb_30_47 (G : jx_Gv) : jx_B := ([jo_aload 0, jo_dup, jo_getI 3 3, jo_const (.int (1 : Int32)), jo_ii (· + ·), jo_putI 3 3], .inr (.inl 57))
theorem jm_30_47 (G : jx_Gv) : jx_mo (jb_30_47 G).1 := ⟨mo_aload _, mo_dup, mo_getI _ _, mo_const _, mo_ii _, mo_putI _ _, trivial⟩
def jb_30_57 (G : jx_Gv) : jx_B := ([jo_aload 0, jo_dup, jo_getI 3 2, jo_const (.int (1 : Int32)), jo_ii (· + ·), jo_putI 3 2], .inr (.inl 0))
theorem jm_30_57 (G : jx_Gv) : jx_mo (jb_30_57 G).1 := ⟨mo_aload _, mo_dup, mo_getI _ _, mo_const _, mo_ii _, mo_putI _ _, trivial⟩
def jb_30_70 (G : jx_Gv) : jx_B := ([], .inr (.inr (.inr (.inr jr_v))))
theorem jm_30_70 (G : jx_Gv) : jx_mo (jb_30_70 G).1 := trivial
def jbs_30 (G : jx_Gv) : List (Nat × jx_B) := [(0, jb_30_0 G), (11, jb_30_11 G), (14, jb_30_14 G), (25, jb_30_25 G), (28, jb_30_28 G), (31, jb_30_31 G), (42, jb_30_42 G), (47, jb_30_47 G), (57, jb_30_57 G), (70, jb_30_70 G)]
theorem jms_30 (G : jx_Gv) : ∀ e ∈ jbs_30 G, jx_mo e.2.1 := List.forall_mem_cons.mpr ⟨jm_30_0 G, List.forall_mem_cons.mpr ⟨jm_30_11 G, List.forall_mem_cons.mpr ⟨jm_30_14 G, List.forall_mem_cons.mpr ⟨jm_30_25 G, List.forall_mem_cons.mpr ⟨jm_30_28 G, List.forall_mem_cons.mpr ⟨jm_30_31 G, List.forall_mem_cons.mpr ⟨jm_30_42 G, List.forall_mem_cons.mpr ⟨jm_30_47 G, List.forall_mem_cons.mpr ⟨jm_30_57 G, List.forall_mem_cons.mpr ⟨jm_30_70 G, fun _ h => absurd h List.not_mem_nil⟩⟩⟩⟩⟩⟩⟩⟩⟩⟩
def jb_31_0 (G : jx_Gv) : jx_B := ([jo_const (.int (0 : Int32)), jo_drop 2, jo_istore 3], .inr (.inl 2))
theorem jm_31_0 (G : jx_Gv) : jx_mo (jb_31_0 G).1 := ⟨mo_const _, mo_drop _, mo_istore _, trivial⟩
def jb_31_2 (G : jx_Gv) : jx_B := ([jo_iload 3, jo_aload 0, jo_getA 2 0, jo_alen 1], .inl (jc_ii (fun x y => decide (y ≤ x)), 32, 11))
theorem jm_31_2 (G : jx_Gv) : jx_mo (jb_31_2 G).1 := ⟨mo_iload _, mo_aload _, mo_getA _ _, mo_alen _, trivial⟩
def jb_31_11 (G : jx_Gv) : jx_B := ([jo_aload 0, jo_getA 2 0, jo_iload 3, jo_lald 1, jo_lload 1, jo_lc lg_cmp], .inl (jc_i (fun x => decide (¬ x = 0)), 26, 22))
theorem jm_31_11 (G : jx_Gv) : jx_mo (jb_31_11 G).1 := ⟨mo_aload _, mo_getA _ _, mo_iload _, mo_lald _, mo_lload _, mo_lc _, trivial⟩
def jb_31_22 (G : jx_Gv) : jx_B := ([jo_const (.int (1 : Int32)), jo_iload 3, jo_ii (fun x y => x <<< (y &&& 31))], .inr (.inr (.inr (.inr jr_i))))
theorem jm_31_22 (G : jx_Gv) : jx_mo (jb_31_22 G).1 := ⟨mo_const _, mo_iload _, mo_ii _, trivial⟩
def jb_31_26 (G : jx_Gv) : jx_B := ([jo_drop 2, jo_iinc 3 (1 : Int32)], .inr (.inl 2))
theorem jm_31_26 (G : jx_Gv) : jx_mo (jb_31_26 G).1 := ⟨mo_drop _, mo_iinc _ _, trivial⟩
def jb_31_32 (G : jx_Gv) : jx_B := ([jo_const (.int (0 : Int32))], .inr (.inr (.inr (.inr jr_i))))
theorem jm_31_32 (G : jx_Gv) : jx_mo (jb_31_32 G).1 := ⟨mo_const _, trivial⟩
def jbs_31 (G : jx_Gv) : List (Nat × jx_B) := [(0, jb_31_0 G), (2, jb_31_2 G), (11, jb_31_11 G), (22, jb_31_22 G), (26, jb_31_26 G), (32, jb_31_32 G)]
theorem jms_31 (G : jx_Gv) : ∀ e ∈ jbs_31 G, jx_mo e.2.1 := List.forall_mem_cons.mpr ⟨jm_31_0 G, List.forall_mem_cons.mpr ⟨jm_31_2 G, List.forall_mem_cons.mpr ⟨jm_31_11 G, List.forall_mem_cons.mpr ⟨jm_31_22 G, List.forall_mem_cons.mpr ⟨jm_31_26 G, List.forall_mem_cons.mpr ⟨jm_31_32 G, fun _ h => absurd h List.not_mem_nil⟩⟩⟩⟩⟩⟩
def jb_32_0 (G : jx_Gv) : jx_B := ([jo_aload 0, jo_const (.long (0 : Int64)), jo_putJ 3 6, jo_const (.long (1 : Int64)), jo_lstore 1, jo_aload 0, jo_getA 3 0, jo_aload 0, jo_getI 3 2], .inr (.inr (.inr (.inl (28, 2, 18, some 1)))))
theorem jm_32_0 (G : jx_Gv) : jx_mo (jb_32_0 G).1 := ⟨mo_aload _, mo_const _, mo_putJ _ _, mo_const _, mo_lstore _, mo_aload _, mo_getA _ _, mo_aload _, mo_getI _ _, trivial⟩
def jb_32_18 (G : jx_Gv) : jx_B := ([], .inr (.inr (.inr (.inl (9, 1, 21, none)))))
theorem jm_32_18 (G : jx_Gv) : jx_mo (jb_32_18 G).1 := trivial
def jb_32_21 (G : jx_Gv) : jx_B := ([jo_drop 2, jo_istore 3, jo_const (.int (0 : Int32)), jo_istore 4], .inr (.inl 25))
theorem jm_32_21 (G : jx_Gv) : jx_mo (jb_32_21 G).1 := ⟨mo_drop _, mo_istore _, mo_const _, mo_istore _, trivial⟩
def jb_32_25 (G : jx_Gv) : jx_B := ([jo_iload 4, jo_const (.int (12 : Int32))], .inl (jc_ii (fun x y => decide (y ≤ x)), 86, 32))
theorem jm_32_25 (G : jx_Gv) : jx_mo (jb_32_25 G).1 := ⟨mo_iload _, mo_const _, trivial⟩
def jb_32_32 (G : jx_Gv) : jx_B := ([jo_iload 3], .inl (jc_i (fun x => decide (x ≤ 0)), 86, 36))
theorem jm_32_32 (G : jx_Gv) : jx_mo (jb_32_32 G).1 := ⟨mo_iload _, trivial⟩
def jb_32_36 (G : jx_Gv) : jx_B := ([jo_aload 0, jo_dup, jo_getJ 3 6, jo_iload 3, jo_i2l, jo_lload 1, jo_ll (· * ·), jo_ll (· + ·), jo_putJ 3 6, jo_lload 1, jo_const (.long (37 : Int64)), jo_ll (· * ·), jo_lstore 1, jo_aload 0, jo_dup, jo_getI 3 2, jo_const (.int (1 : Int32)), jo_ii (· + ·), jo_putI 3 2, jo_aload 0, jo_getA 3 0, jo_aload 0, jo_getI 3 2], .inr (.inr (.inr (.inl (28, 2, 76, some 1)))))
theorem jm_32_36 (G : jx_Gv) : jx_mo (jb_32_36 G).1 := ⟨mo_aload _, mo_dup, mo_getJ _ _, mo_iload _, mo_i2l, mo_lload _, mo_ll _, mo_ll _, mo_putJ _ _, mo_lload _, mo_const _, mo_ll _, mo_lstore _, mo_aload _, mo_dup, mo_getI _ _, mo_const _, mo_ii _, mo_putI _ _, mo_aload _, mo_getA _ _, mo_aload _, mo_getI _ _, trivial⟩
def jb_32_76 (G : jx_Gv) : jx_B := ([], .inr (.inr (.inr (.inl (9, 1, 79, none)))))
theorem jm_32_76 (G : jx_Gv) : jx_mo (jb_32_76 G).1 := trivial
def jb_32_79 (G : jx_Gv) : jx_B := ([jo_drop 2, jo_istore 3, jo_iinc 4 (1 : Int32)], .inr (.inl 25))
theorem jm_32_79 (G : jx_Gv) : jx_mo (jb_32_79 G).1 := ⟨mo_drop _, mo_istore _, mo_iinc _ _, trivial⟩
def jb_32_86 (G : jx_Gv) : jx_B := ([jo_aload 0, jo_aload 0, jo_getA 3 1, jo_aload 0, jo_getJ 3 6], .inr (.inr (.inr (.inl (31, 2, 98, some 2)))))
theorem jm_32_86 (G : jx_Gv) : jx_mo (jb_32_86 G).1 := ⟨mo_aload _, mo_aload _, mo_getA _ _, mo_aload _, mo_getJ _ _, trivial⟩
def jb_32_98 (G : jx_Gv) : jx_B := ([jo_putI 3 5, jo_iload 3], .inl (jc_i (fun x => decide (x ≤ 0)), 113, 105))
theorem jm_32_98 (G : jx_Gv) : jx_mo (jb_32_98 G).1 := ⟨mo_putI _ _, mo_iload _, trivial⟩
def jb_32_105 (G : jx_Gv) : jx_B := ([jo_aload 0, jo_const (.int (5 : Int32)), jo_putI 3 4], .inr (.inl 129))
theorem jm_32_105 (G : jx_Gv) : jx_mo (jb_32_105 G).1 := ⟨mo_aload _, mo_const _, mo_putI _ _, trivial⟩
def jb_32_113 (G : jx_Gv) : jx_B := ([jo_aload 0, jo_aload 0, jo_getI 3 5], .inl (jc_i (fun x => decide (¬ x = 0)), 125, 121))
theorem jm_32_113 (G : jx_Gv) : jx_mo (jb_32_113 G).1 := ⟨mo_aload _, mo_aload _, mo_getI _ _, trivial⟩
def jb_32_121 (G : jx_Gv) : jx_B := ([jo_const (.int (2 : Int32))], .inr (.inl 126))
theorem jm_32_121 (G : jx_Gv) : jx_mo (jb_32_121 G).1 := ⟨mo_const _, trivial⟩
def jb_32_125 (G : jx_Gv) : jx_B := ([jo_const (.int (1 : Int32))], .inr (.inl 126))
theorem jm_32_125 (G : jx_Gv) : jx_mo (jb_32_125 G).1 := ⟨mo_const _, trivial⟩
def jb_32_126 (G : jx_Gv) : jx_B := ([jo_putI 3 4], .inr (.inl 129))
theorem jm_32_126 (G : jx_Gv) : jx_mo (jb_32_126 G).1 := ⟨mo_putI _ _, trivial⟩
def jb_32_129 (G : jx_Gv) : jx_B := ([], .inr (.inr (.inr (.inr jr_v))))
theorem jm_32_129 (G : jx_Gv) : jx_mo (jb_32_129 G).1 := trivial
def jbs_32 (G : jx_Gv) : List (Nat × jx_B) := [(0, jb_32_0 G), (18, jb_32_18 G), (21, jb_32_21 G), (25, jb_32_25 G), (32, jb_32_32 G), (36, jb_32_36 G), (76, jb_32_76 G), (79, jb_32_79 G), (86, jb_32_86 G), (98, jb_32_98 G), (105, jb_32_105 G), (113, jb_32_113 G), (121, jb_32_121 G), (125, jb_32_125 G), (126, jb_32_126 G), (129, jb_32_129 G)]
theorem jms_32 (G : jx_Gv) : ∀ e ∈ jbs_32 G, jx_mo e.2.1 := List.forall_mem_cons.mpr ⟨jm_32_0 G, List.forall_mem_cons.mpr ⟨jm_32_18 G, List.forall_mem_cons.mpr ⟨jm_32_21 G, List.forall_mem_cons.mpr ⟨jm_32_25 G, List.forall_mem_cons.mpr ⟨jm_32_32 G, List.forall_mem_cons.mpr ⟨jm_32_36 G, List.forall_mem_cons.mpr ⟨jm_32_76 G, List.forall_mem_cons.mpr ⟨jm_32_79 G, List.forall_mem_cons.mpr ⟨jm_32_86 G, List.forall_mem_cons.mpr ⟨jm_32_98 G, List.forall_mem_cons.mpr ⟨jm_32_105 G, List.forall_mem_cons.mpr ⟨jm_32_113 G, List.forall_mem_cons.mpr ⟨jm_32_121 G, List.forall_mem_cons.mpr ⟨jm_32_125 G, List.forall_mem_cons.mpr ⟨jm_32_126 G, List.forall_mem_cons.mpr ⟨jm_32_129 G, fun _ h => absurd h List.not_mem_nil⟩⟩⟩⟩⟩⟩⟩⟩⟩⟩⟩⟩⟩⟩⟩⟩
def jb_33_0 (G : jx_Gv) : jx_B := ([jo_aload 0, jo_const (.int (0 : Int32)), jo_putI 3 5, jo_const (.int (0 : Int32)), jo_istore 1], .inr (.inl 7))
theorem jm_33_0 (G : jx_Gv) : jx_mo (jb_33_0 G).1 := ⟨mo_aload _, mo_const _, mo_putI _ _, mo_const _, mo_istore _, trivial⟩
def jb_33_7 (G : jx_Gv) : jx_B := ([jo_iload 1, jo_const (.int (6 : Int32))], .inl (jc_ii (fun x y => decide (y ≤ x)), 72, 13))
theorem jm_33_7 (G : jx_Gv) : jx_mo (jb_33_7 G).1 := ⟨mo_iload _, mo_const _, trivial⟩
def jb_33_13 (G : jx_Gv) : jx_B := ([jo_aload 0, jo_getA 3 0, jo_aload 0, jo_getI 3 2], .inr (.inr (.inr (.inl (28, 2, 24, some 1)))))
theorem jm_33_13 (G : jx_Gv) : jx_mo (jb_33_13 G).1 := ⟨mo_aload _, mo_getA _ _, mo_aload _, mo_getI _ _, trivial⟩
def jb_33_24 (G : jx_Gv) : jx_B := ([], .inr (.inr (.inr (.inl (7, 1, 27, none)))))
theorem jm_33_24 (G : jx_Gv) : jx_mo (jb_33_24 G).1 := trivial
def jb_33_27 (G : jx_Gv) : jx_B := ([], .inl (jc_i (fun x => decide (x = 0)), 72, 30))
theorem jm_33_27 (G : jx_Gv) : jx_mo (jb_33_27 G).1 := trivial
def jb_33_30 (G : jx_Gv) : jx_B := ([jo_aload 0, jo_aload 0, jo_getI 3 5, jo_const (.int (10 : Int32)), jo_ii (· * ·), jo_aload 0, jo_getA 3 0, jo_aload 0, jo_getI 3 2], .inr (.inr (.inr (.inl (28, 2, 49, some 1)))))
theorem jm_33_30 (G : jx_Gv) : jx_mo (jb_33_30 G).1 := ⟨mo_aload _, mo_aload _, mo_getI _ _, mo_const _, mo_ii _, mo_aload _, mo_getA _ _, mo_aload _, mo_getI _ _, trivial⟩
def jb_33_49 (G : jx_Gv) : jx_B := ([jo_ii (· + ·), jo_const (.int (48 : Int32)), jo_ii (· - ·), jo_putI 3 5, jo_aload 0, jo_dup, jo_getI 3 2, jo_const (.int (1 : Int32)), jo_ii (· + ·), jo_putI 3 2, jo_iinc 1 (1 : Int32)], .inr (.inl 7))
theorem jm_33_49 (G : jx_Gv) : jx_mo (jb_33_49 G).1 := ⟨mo_ii _, mo_const _, mo_ii _, mo_putI _ _, mo_aload _, mo_dup, mo_getI _ _, mo_const _, mo_ii _, mo_putI _ _, mo_iinc _ _, trivial⟩
def jb_33_72 (G : jx_Gv) : jx_B := ([jo_aload 0, jo_aload 0, jo_getA 3 0, jo_aload 0, jo_getI 3 2], .inr (.inr (.inr (.inl (28, 2, 84, some 1)))))
theorem jm_33_72 (G : jx_Gv) : jx_mo (jb_33_72 G).1 := ⟨mo_aload _, mo_aload _, mo_getA _ _, mo_aload _, mo_getI _ _, trivial⟩
def jb_33_84 (G : jx_Gv) : jx_B := ([], .inr (.inr (.inr (.inl (9, 1, 87, none)))))
theorem jm_33_84 (G : jx_Gv) : jx_mo (jb_33_84 G).1 := trivial
def jb_33_87 (G : jx_Gv) : jx_B := ([], .inl (jc_i (fun x => decide (x ≤ 0)), 94, 90))
theorem jm_33_87 (G : jx_Gv) : jx_mo (jb_33_87 G).1 := trivial
def jb_33_90 (G : jx_Gv) : jx_B := ([jo_const (.int (5 : Int32))], .inr (.inl 95))
theorem jm_33_90 (G : jx_Gv) : jx_mo (jb_33_90 G).1 := ⟨mo_const _, trivial⟩
def jb_33_94 (G : jx_Gv) : jx_B := ([jo_const (.int (3 : Int32))], .inr (.inl 95))
theorem jm_33_94 (G : jx_Gv) : jx_mo (jb_33_94 G).1 := ⟨mo_const _, trivial⟩
def jb_33_95 (G : jx_Gv) : jx_B := ([jo_putI 3 4], .inr (.inr (.inr (.inr jr_v))))
theorem jm_33_95 (G : jx_Gv) : jx_mo (jb_33_95 G).1 := ⟨mo_putI _ _, trivial⟩
def jbs_33 (G : jx_Gv) : List (Nat × jx_B) := [(0, jb_33_0 G), (7, jb_33_7 G), (13, jb_33_13 G), (24, jb_33_24 G), (27, jb_33_27 G), (30, jb_33_30 G), (49, jb_33_49 G), (72, jb_33_72 G), (84, jb_33_84 G), (87, jb_33_87 G), (90, jb_33_90 G), (94, jb_33_94 G), (95, jb_33_95 G)]
theorem jms_33 (G : jx_Gv) : ∀ e ∈ jbs_33 G, jx_mo e.2.1 := List.forall_mem_cons.mpr ⟨jm_33_0 G, List.forall_mem_cons.mpr ⟨jm_33_7 G, List.forall_mem_cons.mpr ⟨jm_33_13 G, List.forall_mem_cons.mpr ⟨jm_33_24 G, List.forall_mem_cons.mpr ⟨jm_33_27 G, List.forall_mem_cons.mpr ⟨jm_33_30 G, List.forall_mem_cons.mpr ⟨jm_33_49 G, List.forall_mem_cons.mpr ⟨jm_33_72 G, List.forall_mem_cons.mpr ⟨jm_33_84 G, List.forall_mem_cons.mpr ⟨jm_33_87 G, List.forall_mem_cons.mpr ⟨jm_33_90 G, List.forall_mem_cons.mpr ⟨jm_33_94 G, List.forall_mem_cons.mpr ⟨jm_33_95 G, fun _ h => absurd h List.not_mem_nil⟩⟩⟩⟩⟩⟩⟩⟩⟩⟩⟩⟩⟩
def jb_34_0 (G : jx_Gv) : jx_B := ([jo_iload 0], .inl (jc_i (fun x => decide (x < 0)), 15, 4))
theorem jm_34_0 (G : jx_Gv) : jx_mo (jb_34_0 G).1 := ⟨mo_iload _, trivial⟩
def jb_34_4 (G : jx_Gv) : jx_B := ([jo_iload 0, jo_const (.int (255 : Int32))], .inl (jc_ii (fun x y => decide (y < x)), 15, 11))
theorem jm_34_4 (G : jx_Gv) : jx_mo (jb_34_4 G).1 := ⟨mo_iload _, mo_const _, trivial⟩
def jb_34_11 (G : jx_Gv) : jx_B := ([jo_const (.int (1 : Int32))], .inr (.inl 16))
theorem jm_34_11 (G : jx_Gv) : jx_mo (jb_34_11 G).1 := ⟨mo_const _, trivial⟩
def jb_34_15 (G : jx_Gv) : jx_B := ([jo_const (.int (0 : Int32))], .inr (.inl 16))
theorem jm_34_15 (G : jx_Gv) : jx_mo (jb_34_15 G).1 := ⟨mo_const _, trivial⟩
def jb_34_16 (G : jx_Gv) : jx_B := ([], .inr (.inr (.inr (.inr jr_z))))
theorem jm_34_16 (G : jx_Gv) : jx_mo (jb_34_16 G).1 := trivial
def jbs_34 (G : jx_Gv) : List (Nat × jx_B) := [(0, jb_34_0 G), (4, jb_34_4 G), (11, jb_34_11 G), (15, jb_34_15 G), (16, jb_34_16 G)]
theorem jms_34 (G : jx_Gv) : ∀ e ∈ jbs_34 G, jx_mo e.2.1 := List.forall_mem_cons.mpr ⟨jm_34_0 G, List.forall_mem_cons.mpr ⟨jm_34_4 G, List.forall_mem_cons.mpr ⟨jm_34_11 G, List.forall_mem_cons.mpr ⟨jm_34_15 G, List.forall_mem_cons.mpr ⟨jm_34_16 G, fun _ h => absurd h List.not_mem_nil⟩⟩⟩⟩⟩
def jb_35_0 (G : jx_Gv) : jx_B := ([jo_iload 1, jo_i1 (fun x => x.toInt8.toInt32), jo_istore 4, jo_iload 2, jo_istore 5], .inr (.inl 7))
theorem jm_35_0 (G : jx_Gv) : jx_mo (jb_35_0 G).1 := ⟨mo_iload _, mo_i1 _, mo_istore _, mo_iload _, mo_istore _, trivial⟩
def jb_35_7 (G : jx_Gv) : jx_B := ([jo_iload 5, jo_iload 3], .inl (jc_ii (fun x y => decide (y ≤ x)), 31, 13))
theorem jm_35_7 (G : jx_Gv) : jx_mo (jb_35_7 G).1 := ⟨mo_iload _, mo_iload _, trivial⟩
def jb_35_13 (G : jx_Gv) : jx_B := ([jo_aload 0, jo_iload 5, jo_sba G.2.1 11 jlen jbyt, jo_iload 4], .inl (jc_ii (fun x y => decide (¬ x = y)), 25, 22))
theorem jm_35_13 (G : jx_Gv) : jx_mo (jb_35_13 G).1 := ⟨mo_aload _, mo_iload _, mo_sba _ _ _ _, mo_iload _, trivial⟩
def jb_35_22 (G : jx_Gv) : jx_B := ([jo_iload 5], .inr (.inr (.inr (.inr jr_i))))
theorem jm_35_22 (G : jx_Gv) : jx_mo (jb_35_22 G).1 := ⟨mo_iload _, trivial⟩
def jb_35_25 (G : jx_Gv) : jx_B := ([jo_iinc 5 (1 : Int32)], .inr (.inl 7))
theorem jm_35_25 (G : jx_Gv) : jx_mo (jb_35_25 G).1 := ⟨mo_iinc _ _, trivial⟩
def jb_35_31 (G : jx_Gv) : jx_B := ([jo_const (.int (-1 : Int32))], .inr (.inr (.inr (.inr jr_i))))
theorem jm_35_31 (G : jx_Gv) : jx_mo (jb_35_31 G).1 := ⟨mo_const _, trivial⟩
def jbs_35 (G : jx_Gv) : List (Nat × jx_B) := [(0, jb_35_0 G), (7, jb_35_7 G), (13, jb_35_13 G), (22, jb_35_22 G), (25, jb_35_25 G), (31, jb_35_31 G)]
theorem jms_35 (G : jx_Gv) : ∀ e ∈ jbs_35 G, jx_mo e.2.1 := List.forall_mem_cons.mpr ⟨jm_35_0 G, List.forall_mem_cons.mpr ⟨jm_35_7 G, List.forall_mem_cons.mpr ⟨jm_35_13 G, List.forall_mem_cons.mpr ⟨jm_35_22 G, List.forall_mem_cons.mpr ⟨jm_35_25 G, List.forall_mem_cons.mpr ⟨jm_35_31 G, fun _ h => absurd h List.not_mem_nil⟩⟩⟩⟩⟩⟩
def jb_36_0 (G : jx_Gv) : jx_B := ([jo_iload 1], .inr (.inr (.inr (.inl (34, 1, 4, none)))))
theorem jm_36_0 (G : jx_Gv) : jx_mo (jb_36_0 G).1 := ⟨mo_iload _, trivial⟩
def jb_36_4 (G : jx_Gv) : jx_B := ([], .inl (jc_i (fun x => decide (¬ x = 0)), 9, 7))
theorem jm_36_4 (G : jx_Gv) : jx_mo (jb_36_4 G).1 := trivial
def jb_36_7 (G : jx_Gv) : jx_B := ([jo_const (.int (-1 : Int32))], .inr (.inr (.inr (.inr jr_i))))
theorem jm_36_7 (G : jx_Gv) : jx_mo (jb_36_7 G).1 := ⟨mo_const _, trivial⟩
def jb_36_9 (G : jx_Gv) : jx_B := ([jo_iload 2, jo_const (.int (0 : Int32)), jo_m2 (fun x y => if x < y then y else x), jo_istore 2, jo_iload 3, jo_aload 0, jo_sln G.2.1 11 jlen, jo_m2 (fun x y => if y < x then y else x), jo_istore 3, jo_iload 2, jo_iload 3], .inl (jc_ii (fun x y => decide (x < y)), 29, 27))
theorem jm_36_9 (G : jx_Gv) : jx_mo (jb_36_9 G).1 := ⟨mo_iload _, mo_const _, mo_m2 _, mo_istore _, mo_iload _, mo_aload _, mo_sln _ _ _, mo_m2 _, mo_istore _, mo_iload _, mo_iload _, trivial⟩
def jb_36_27 (G : jx_Gv) : jx_B := ([jo_const (.int (-1 : Int32))], .inr (.inr (.inr (.inr jr_i))))
theorem jm_36_27 (G : jx_Gv) : jx_mo (jb_36_27 G).1 := ⟨mo_const _, trivial⟩
def jb_36_29 (G : jx_Gv) : jx_B := ([jo_aload 0, jo_iload 1, jo_iload 2, jo_iload 3], .inr (.inr (.inr (.inl (35, 4, 36, none)))))
theorem jm_36_29 (G : jx_Gv) : jx_mo (jb_36_29 G).1 := ⟨mo_aload _, mo_iload _, mo_iload _, mo_iload _, trivial⟩
def jb_36_36 (G : jx_Gv) : jx_B := ([], .inr (.inr (.inr (.inr jr_i))))
theorem jm_36_36 (G : jx_Gv) : jx_mo (jb_36_36 G).1 := trivial
def jbs_36 (G : jx_Gv) : List (Nat × jx_B) := [(0, jb_36_0 G), (4, jb_36_4 G), (7, jb_36_7 G), (9, jb_36_9 G), (27, jb_36_27 G), (29, jb_36_29 G), (36, jb_36_36 G)]
theorem jms_36 (G : jx_Gv) : ∀ e ∈ jbs_36 G, jx_mo e.2.1 := List.forall_mem_cons.mpr ⟨jm_36_0 G, List.forall_mem_cons.mpr ⟨jm_36_4 G, List.forall_mem_cons.mpr ⟨jm_36_7 G, List.forall_mem_cons.mpr ⟨jm_36_9 G, List.forall_mem_cons.mpr ⟨jm_36_27 G, List.forall_mem_cons.mpr ⟨jm_36_29 G, List.forall_mem_cons.mpr ⟨jm_36_36 G, fun _ h => absurd h List.not_mem_nil⟩⟩⟩⟩⟩⟩⟩
def jb_37_0 (G : jx_Gv) : jx_B := ([jo_aload 0, jo_chk G.1 11 0], .inr (.inr (.inr (.inl (2, 1, 4, none)))))
theorem jm_37_0 (G : jx_Gv) : jx_mo (jb_37_0 G).1 := ⟨mo_aload _, mo_chk _ _ _, trivial⟩
def jb_37_4 (G : jx_Gv) : jx_B := ([], .inl (jc_i (fun x => decide (x = 0)), 23, 7))
theorem jm_37_4 (G : jx_Gv) : jx_mo (jb_37_4 G).1 := trivial
def jb_37_7 (G : jx_Gv) : jx_B := ([jo_aload 0, jo_sfV G.1 G.2.1 11, jo_iload 1, jo_iload 2, jo_aload 0, jo_chk G.1 11 0], .inr (.inr (.inr (.inl (1, 1, 17, none)))))
theorem jm_37_7 (G : jx_Gv) : jx_mo (jb_37_7 G).1 := ⟨mo_aload _, mo_sfV _ _ _, mo_iload _, mo_iload _, mo_aload _, mo_chk _ _ _, trivial⟩
def jb_37_17 (G : jx_Gv) : jx_B := ([], .inr (.inr (.inr (.inl (36, 4, 20, none)))))
theorem jm_37_17 (G : jx_Gv) : jx_mo (jb_37_17 G).1 := trivial
def jb_37_20 (G : jx_Gv) : jx_B := ([], .inr (.inl 36))
theorem jm_37_20 (G : jx_Gv) : jx_mo (jb_37_20 G).1 := trivial
def jb_37_23 (G : jx_Gv) : jx_B := ([jo_aload 0, jo_sfV G.1 G.2.1 11, jo_iload 1, jo_iload 2, jo_aload 0, jo_chk G.1 11 0], .inr (.inr (.inr (.inl (1, 1, 33, none)))))
theorem jm_37_23 (G : jx_Gv) : jx_mo (jb_37_23 G).1 := ⟨mo_aload _, mo_sfV _ _ _, mo_iload _, mo_iload _, mo_aload _, mo_chk _ _ _, trivial⟩
def jb_37_33 (G : jx_Gv) : jx_B := ([jo_stop], .inr (.inl 36))
theorem jm_37_33 (G : jx_Gv) : jx_mo (jb_37_33 G).1 := ⟨mo_stop, trivial⟩
def jb_37_36 (G : jx_Gv) : jx_B := ([], .inr (.inr (.inr (.inr jr_i))))
theorem jm_37_36 (G : jx_Gv) : jx_mo (jb_37_36 G).1 := trivial
def jbs_37 (G : jx_Gv) : List (Nat × jx_B) := [(0, jb_37_0 G), (4, jb_37_4 G), (7, jb_37_7 G), (17, jb_37_17 G), (20, jb_37_20 G), (23, jb_37_23 G), (33, jb_37_33 G), (36, jb_37_36 G)]
theorem jms_37 (G : jx_Gv) : ∀ e ∈ jbs_37 G, jx_mo e.2.1 := List.forall_mem_cons.mpr ⟨jm_37_0 G, List.forall_mem_cons.mpr ⟨jm_37_4 G, List.forall_mem_cons.mpr ⟨jm_37_7 G, List.forall_mem_cons.mpr ⟨jm_37_17 G, List.forall_mem_cons.mpr ⟨jm_37_20 G, List.forall_mem_cons.mpr ⟨jm_37_23 G, List.forall_mem_cons.mpr ⟨jm_37_33 G, List.forall_mem_cons.mpr ⟨jm_37_36 G, fun _ h => absurd h List.not_mem_nil⟩⟩⟩⟩⟩⟩⟩⟩
def jb_38_0 (G : jx_Gv) : jx_B := ([jo_aload 0, jo_iload 1, jo_const (.int (0 : Int32)), jo_chk G.1 11 2], .inr (.inr (.inr (.inl (37, 3, 6, none)))))
theorem jm_38_0 (G : jx_Gv) : jx_mo (jb_38_0 G).1 := ⟨mo_aload _, mo_iload _, mo_const _, mo_chk _ _ _, trivial⟩
def jb_38_6 (G : jx_Gv) : jx_B := ([], .inr (.inr (.inr (.inr jr_i))))
theorem jm_38_6 (G : jx_Gv) : jx_mo (jb_38_6 G).1 := trivial
def jbs_38 (G : jx_Gv) : List (Nat × jx_B) := [(0, jb_38_0 G), (6, jb_38_6 G)]
theorem jms_38 (G : jx_Gv) : ∀ e ∈ jbs_38 G, jx_mo e.2.1 := List.forall_mem_cons.mpr ⟨jm_38_0 G, List.forall_mem_cons.mpr ⟨jm_38_6 G, fun _ h => absurd h List.not_mem_nil⟩⟩
def jb_39_0 (G : jx_Gv) : jx_B := ([jo_aload 0], .inr (.inr (.inr (.inl (30, 1, 4, some 3)))))
theorem jm_39_0 (G : jx_Gv) : jx_mo (jb_39_0 G).1 := ⟨mo_aload _, trivial⟩
def jb_39_4 (G : jx_Gv) : jx_B := ([jo_aload 0, jo_getA 3 0, jo_aload 0, jo_getI 3 2], .inr (.inr (.inr (.inl (28, 2, 15, some 1)))))
theorem jm_39_4 (G : jx_Gv) : jx_mo (jb_39_4 G).1 := ⟨mo_aload _, mo_getA _ _, mo_aload _, mo_getI _ _, trivial⟩
def jb_39_15 (G : jx_Gv) : jx_B := ([jo_istore 1, jo_iload 1], .inl (jc_i (fun x => decide (0 ≤ x)), 29, 20))
theorem jm_39_15 (G : jx_Gv) : jx_mo (jb_39_15 G).1 := ⟨mo_istore _, mo_iload _, trivial⟩
def jb_39_20 (G : jx_Gv) : jx_B := ([jo_aload 0, jo_const (.int (6 : Int32)), jo_putI 3 4], .inr (.inl 91))
theorem jm_39_20 (G : jx_Gv) : jx_mo (jb_39_20 G).1 := ⟨mo_aload _, mo_const _, mo_putI _ _, trivial⟩
def jb_39_29 (G : jx_Gv) : jx_B := ([jo_iload 1], .inr (.inr (.inr (.inl (8, 1, 33, none)))))
theorem jm_39_29 (G : jx_Gv) : jx_mo (jb_39_29 G).1 := ⟨mo_iload _, trivial⟩
def jb_39_33 (G : jx_Gv) : jx_B := ([], .inl (jc_i (fun x => decide (x = 0)), 43, 36))
theorem jm_39_33 (G : jx_Gv) : jx_mo (jb_39_33 G).1 := trivial
def jb_39_36 (G : jx_Gv) : jx_B := ([jo_aload 0], .inr (.inr (.inr (.inl (32, 1, 40, some 3)))))
theorem jm_39_36 (G : jx_Gv) : jx_mo (jb_39_36 G).1 := ⟨mo_aload _, trivial⟩
def jb_39_40 (G : jx_Gv) : jx_B := ([], .inr (.inl 91))
theorem jm_39_40 (G : jx_Gv) : jx_mo (jb_39_40 G).1 := trivial
def jb_39_43 (G : jx_Gv) : jx_B := ([jo_iload 1], .inr (.inr (.inr (.inl (7, 1, 47, none)))))
theorem jm_39_43 (G : jx_Gv) : jx_mo (jb_39_43 G).1 := ⟨mo_iload _, trivial⟩
def jb_39_47 (G : jx_Gv) : jx_B := ([], .inl (jc_i (fun x => decide (x = 0)), 57, 50))
theorem jm_39_47 (G : jx_Gv) : jx_mo (jb_39_47 G).1 := trivial
def jb_39_50 (G : jx_Gv) : jx_B := ([jo_aload 0], .inr (.inr (.inr (.inl (33, 1, 54, some 3)))))
theorem jm_39_50 (G : jx_Gv) : jx_mo (jb_39_50 G).1 := ⟨mo_aload _, trivial⟩
def jb_39_54 (G : jx_Gv) : jx_B := ([], .inr (.inl 91))
theorem jm_39_54 (G : jx_Gv) : jx_mo (jb_39_54 G).1 := trivial
def jb_39_57 (G : jx_Gv) : jx_B := ([jo_aload 0, jo_iload 1, jo_putI 3 5, jo_aload 0, jo_dup, jo_getI 3 2, jo_const (.int (1 : Int32)), jo_ii (· + ·), jo_putI 3 2, jo_aload 0, jo_const (.ref (G.1 2)), jo_iload 1, jo_i1 (fun x => (x.toUInt32 % 65536).toInt32), jo_chk G.1 11 1], .inr (.inr (.inr (.inl (38, 2, 80, none)))))
theorem jm_39_57 (G : jx_Gv) : jx_mo (jb_39_57 G).1 := ⟨mo_aload _, mo_iload _, mo_putI _ _, mo_aload _, mo_dup, mo_getI _ _, mo_const _, mo_ii _, mo_putI _ _, mo_aload _, mo_const _, mo_iload _, mo_i1 _, mo_chk _ _ _, trivial⟩
def jb_39_80 (G : jx_Gv) : jx_B := ([], .inl (jc_i (fun x => decide (x < 0)), 87, 83))
theorem jm_39_80 (G : jx_Gv) : jx_mo (jb_39_80 G).1 := trivial
def jb_39_83 (G : jx_Gv) : jx_B := ([jo_const (.int (4 : Int32))], .inr (.inl 88))
theorem jm_39_83 (G : jx_Gv) : jx_mo (jb_39_83 G).1 := ⟨mo_const _, trivial⟩
def jb_39_87 (G : jx_Gv) : jx_B := ([jo_const (.int (5 : Int32))], .inr (.inl 88))
theorem jm_39_87 (G : jx_Gv) : jx_mo (jb_39_87 G).1 := ⟨mo_const _, trivial⟩
def jb_39_88 (G : jx_Gv) : jx_B := ([jo_putI 3 4], .inr (.inl 91))
theorem jm_39_88 (G : jx_Gv) : jx_mo (jb_39_88 G).1 := ⟨mo_putI _ _, trivial⟩
def jb_39_91 (G : jx_Gv) : jx_B := ([], .inr (.inr (.inr (.inr jr_v))))
theorem jm_39_91 (G : jx_Gv) : jx_mo (jb_39_91 G).1 := trivial
def jbs_39 (G : jx_Gv) : List (Nat × jx_B) := [(0, jb_39_0 G), (4, jb_39_4 G), (15, jb_39_15 G), (20, jb_39_20 G), (29, jb_39_29 G), (33, jb_39_33 G), (36, jb_39_36 G), (40, jb_39_40 G), (43, jb_39_43 G), (47, jb_39_47 G), (50, jb_39_50 G), (54, jb_39_54 G), (57, jb_39_57 G), (80, jb_39_80 G), (83, jb_39_83 G), (87, jb_39_87 G), (88, jb_39_88 G), (91, jb_39_91 G)]
theorem jms_39 (G : jx_Gv) : ∀ e ∈ jbs_39 G, jx_mo e.2.1 := List.forall_mem_cons.mpr ⟨jm_39_0 G, List.forall_mem_cons.mpr ⟨jm_39_4 G, List.forall_mem_cons.mpr ⟨jm_39_15 G, List.forall_mem_cons.mpr ⟨jm_39_20 G, List.forall_mem_cons.mpr ⟨jm_39_29 G, List.forall_mem_cons.mpr ⟨jm_39_33 G, List.forall_mem_cons.mpr ⟨jm_39_36 G, List.forall_mem_cons.mpr ⟨jm_39_40 G, List.forall_mem_cons.mpr ⟨jm_39_43 G, List.forall_mem_cons.mpr ⟨jm_39_47 G, List.forall_mem_cons.mpr ⟨jm_39_50 G, List.forall_mem_cons.mpr ⟨jm_39_54 G, List.forall_mem_cons.mpr ⟨jm_39_57 G, List.forall_mem_cons.mpr ⟨jm_39_80 G, List.forall_mem_cons.mpr ⟨jm_39_83 G, List.forall_mem_cons.mpr ⟨jm_39_87 G, List.forall_mem_cons.mpr ⟨jm_39_88 G, List.forall_mem_cons.mpr ⟨jm_39_91 G, fun _ h => absurd h List.not_mem_nil⟩⟩⟩⟩⟩⟩⟩⟩⟩⟩⟩⟩⟩⟩⟩⟩⟩⟩
def jb_40_0 (G : jx_Gv) : jx_B := ([jo_aload 0, jo_getI 3 4], .inr (.inr (.inr (.inr jr_i))))
theorem jm_40_0 (G : jx_Gv) : jx_mo (jb_40_0 G).1 := ⟨mo_aload _, mo_getI _ _, trivial⟩
def jbs_40 (G : jx_Gv) : List (Nat × jx_B) := [(0, jb_40_0 G)]
theorem jms_40 (G : jx_Gv) : ∀ e ∈ jbs_40 G, jx_mo e.2.1 := List.forall_mem_cons.mpr ⟨jm_40_0 G, fun _ h => absurd h List.not_mem_nil⟩
def jb_41_0 (G : jx_Gv) : jx_B := ([jo_aload 0, jo_getI 4 3, jo_aload 0, jo_getA 4 2, jo_chk G.1 11 0], .inr (.inr (.inr (.inl (1, 1, 11, none)))))
theorem jm_41_0 (G : jx_Gv) : jx_mo (jb_41_0 G).1 := ⟨mo_aload _, mo_getI _ _, mo_aload _, mo_getA _ _, mo_chk _ _ _, trivial⟩
def jb_41_11 (G : jx_Gv) : jx_B := ([], .inl (jc_ii (fun x y => decide (x < y)), 18, 14))
theorem jm_41_11 (G : jx_Gv) : jx_mo (jb_41_11 G).1 := trivial
def jb_41_14 (G : jx_Gv) : jx_B := ([jo_const (.int (1 : Int32))], .inr (.inl 19))
theorem jm_41_14 (G : jx_Gv) : jx_mo (jb_41_14 G).1 := ⟨mo_const _, trivial⟩
def jb_41_18 (G : jx_Gv) : jx_B := ([jo_const (.int (0 : Int32))], .inr (.inl 19))
theorem jm_41_18 (G : jx_Gv) : jx_mo (jb_41_18 G).1 := ⟨mo_const _, trivial⟩
def jb_41_19 (G : jx_Gv) : jx_B := ([], .inr (.inr (.inr (.inr jr_z))))
theorem jm_41_19 (G : jx_Gv) : jx_mo (jb_41_19 G).1 := trivial
def jbs_41 (G : jx_Gv) : List (Nat × jx_B) := [(0, jb_41_0 G), (11, jb_41_11 G), (14, jb_41_14 G), (18, jb_41_18 G), (19, jb_41_19 G)]
theorem jms_41 (G : jx_Gv) : ∀ e ∈ jbs_41 G, jx_mo e.2.1 := List.forall_mem_cons.mpr ⟨jm_41_0 G, List.forall_mem_cons.mpr ⟨jm_41_11 G, List.forall_mem_cons.mpr ⟨jm_41_14 G, List.forall_mem_cons.mpr ⟨jm_41_18 G, List.forall_mem_cons.mpr ⟨jm_41_19 G, fun _ h => absurd h List.not_mem_nil⟩⟩⟩⟩⟩
def jb_42_0 (G : jx_Gv) : jx_B := ([jo_aload 0, jo_getI 7 10], .inr (.inr (.inr (.inr jr_i))))
theorem jm_42_0 (G : jx_Gv) : jx_mo (jb_42_0 G).1 := ⟨mo_aload _, mo_getI _ _, trivial⟩
def jbs_42 (G : jx_Gv) : List (Nat × jx_B) := [(0, jb_42_0 G)]
theorem jms_42 (G : jx_Gv) : ∀ e ∈ jbs_42 G, jx_mo e.2.1 := List.forall_mem_cons.mpr ⟨jm_42_0 G, fun _ h => absurd h List.not_mem_nil⟩
def jb_43_0 (G : jx_Gv) : jx_B := ([jo_aload 0, jo_getI 3 4, jo_const (.int (4 : Int32))], .inl (jc_ii (fun x y => decide (¬ x = y)), 20, 8))
theorem jm_43_0 (G : jx_Gv) : jx_mo (jb_43_0 G).1 := ⟨mo_aload _, mo_getI _ _, mo_const _, trivial⟩
def jb_43_8 (G : jx_Gv) : jx_B := ([jo_aload 0, jo_getI 3 5, jo_iload 1], .inl (jc_ii (fun x y => decide (¬ x = y)), 20, 16))
theorem jm_43_8 (G : jx_Gv) : jx_mo (jb_43_8 G).1 := ⟨mo_aload _, mo_getI _ _, mo_iload _, trivial⟩
def jb_43_16 (G : jx_Gv) : jx_B := ([jo_const (.int (1 : Int32))], .inr (.inl 21))
theorem jm_43_16 (G : jx_Gv) : jx_mo (jb_43_16 G).1 := ⟨mo_const _, trivial⟩
def jb_43_20 (G : jx_Gv) : jx_B := ([jo_const (.int (0 : Int32))], .inr (.inl 21))
theorem jm_43_20 (G : jx_Gv) : jx_mo (jb_43_20 G).1 := ⟨mo_const _, trivial⟩
def jb_43_21 (G : jx_Gv) : jx_B := ([], .inr (.inr (.inr (.inr jr_z))))
theorem jm_43_21 (G : jx_Gv) : jx_mo (jb_43_21 G).1 := trivial
def jbs_43 (G : jx_Gv) : List (Nat × jx_B) := [(0, jb_43_0 G), (8, jb_43_8 G), (16, jb_43_16 G), (20, jb_43_20 G), (21, jb_43_21 G)]
theorem jms_43 (G : jx_Gv) : ∀ e ∈ jbs_43 G, jx_mo e.2.1 := List.forall_mem_cons.mpr ⟨jm_43_0 G, List.forall_mem_cons.mpr ⟨jm_43_8 G, List.forall_mem_cons.mpr ⟨jm_43_16 G, List.forall_mem_cons.mpr ⟨jm_43_20 G, List.forall_mem_cons.mpr ⟨jm_43_21 G, fun _ h => absurd h List.not_mem_nil⟩⟩⟩⟩⟩
def jb_44_0 (G : jx_Gv) : jx_B := ([jo_aload 0, jo_getI 7 10, jo_const (.int (120 : Int32))], .inl (jc_ii (fun x y => decide (x < y)), 10, 9))
theorem jm_44_0 (G : jx_Gv) : jx_mo (jb_44_0 G).1 := ⟨mo_aload _, mo_getI _ _, mo_const _, trivial⟩
def jb_44_9 (G : jx_Gv) : jx_B := ([], .inr (.inr (.inr (.inr jr_v))))
theorem jm_44_9 (G : jx_Gv) : jx_mo (jb_44_9 G).1 := trivial
def jb_44_10 (G : jx_Gv) : jx_B := ([jo_aload 0, jo_dup, jo_getI 7 10, jo_const (.int (1 : Int32)), jo_ii (· + ·), jo_putI 7 10, jo_aload 0, jo_getA 7 5, jo_aload 0, jo_getI 7 10, jo_iload 1, jo_iast 0, jo_aload 0, jo_getA 7 6, jo_aload 0, jo_getI 7 10, jo_iload 2, jo_iast 0, jo_aload 0, jo_getA 7 7, jo_aload 0, jo_getI 7 10, jo_aload 0, jo_getI 7 2], .inr (.inl 52))
theorem jm_44_10 (G : jx_Gv) : jx_mo (jb_44_10 G).1 := ⟨mo_aload _, mo_dup, mo_getI _ _, mo_const _, mo_ii _, mo_putI _ _, mo_aload _, mo_getA _ _, mo_aload _, mo_getI _ _, mo_iload _, mo_iast _, mo_aload _, mo_getA _ _, mo_aload _, mo_getI _ _, mo_iload _, mo_iast _, mo_aload _, mo_getA _ _, mo_aload _, mo_getI _ _, mo_aload _, mo_getI _ _, trivial⟩
def jb_44_52 (G : jx_Gv) : jx_B := ([jo_iast 0, jo_aload 0, jo_getA 7 8, jo_aload 0, jo_getI 7 10, jo_const (.int (0 : Int32)), jo_iast 0, jo_aload 0, jo_getA 7 9, jo_aload 0, jo_getI 7 10, jo_const (.int (0 : Int32)), jo_iast 0], .inr (.inr (.inr (.inr jr_v))))
theorem jm_44_52 (G : jx_Gv) : jx_mo (jb_44_52 G).1 := ⟨mo_iast _, mo_aload _, mo_getA _ _, mo_aload _, mo_getI _ _, mo_const _, mo_iast _, mo_aload _, mo_getA _ _, mo_aload _, mo_getI _ _, mo_const _, mo_iast _, trivial⟩
def jbs_44 (G : jx_Gv) : List (Nat × jx_B) := [(0, jb_44_0 G), (9, jb_44_9 G), (10, jb_44_10 G), (52, jb_44_52 G)]
theorem jms_44 (G : jx_Gv) : ∀ e ∈ jbs_44 G, jx_mo e.2.1 := List.forall_mem_cons.mpr ⟨jm_44_0 G, List.forall_mem_cons.mpr ⟨jm_44_9 G, List.forall_mem_cons.mpr ⟨jm_44_10 G, List.forall_mem_cons.mpr ⟨jm_44_52 G, fun _ h => absurd h List.not_mem_nil⟩⟩⟩⟩
def jb_45_0 (G : jx_Gv) : jx_B := ([jo_aload 0, jo_getI 7 10], .inl (jc_i (fun x => decide (x = 0)), 17, 7))
theorem jm_45_0 (G : jx_Gv) : jx_mo (jb_45_0 G).1 := ⟨mo_aload _, mo_getI _ _, trivial⟩
def jb_45_7 (G : jx_Gv) : jx_B := ([jo_aload 0, jo_getI 7 2, jo_const (.int (2000 : Int32))], .inl (jc_ii (fun x y => decide (x < y)), 18, 17))
theorem jm_45_7 (G : jx_Gv) : jx_mo (jb_45_7 G).1 := ⟨mo_aload _, mo_getI _ _, mo_const _, trivial⟩
def jb_45_17 (G : jx_Gv) : jx_B := ([], .inr (.inr (.inr (.inr jr_v))))
theorem jm_45_17 (G : jx_Gv) : jx_mo (jb_45_17 G).1 := trivial
def jb_45_18 (G : jx_Gv) : jx_B := ([jo_aload 0, jo_getA 7 0, jo_aload 0, jo_getI 7 2, jo_iload 1, jo_i1 (fun x => x.toInt8.toInt32), jo_bast 2, jo_aload 0, jo_getA 7 1, jo_aload 0, jo_getI 7 2, jo_iload 2, jo_iast 0, jo_aload 0, jo_dup, jo_getI 7 2, jo_const (.int (1 : Int32)), jo_ii (· + ·), jo_putI 7 2, jo_aload 0, jo_getA 7 8, jo_aload 0, jo_getI 7 10, jo_dup2], .inr (.inl 58))
theorem jm_45_18 (G : jx_Gv) : jx_mo (jb_45_18 G).1 := ⟨mo_aload _, mo_getA _ _, mo_aload _, mo_getI _ _, mo_iload _, mo_i1 _, mo_bast _, mo_aload _, mo_getA _ _, mo_aload _, mo_getI _ _, mo_iload _, mo_iast _, mo_aload _, mo_dup, mo_getI _ _, mo_const _, mo_ii _, mo_putI _ _, mo_aload _, mo_getA _ _, mo_aload _, mo_getI _ _, mo_dup2, trivial⟩
def jb_45_58 (G : jx_Gv) : jx_B := ([jo_iald 0, jo_const (.int (1 : Int32)), jo_ii (· + ·), jo_iast 0], .inr (.inr (.inr (.inr jr_v))))
theorem jm_45_58 (G : jx_Gv) : jx_mo (jb_45_58 G).1 := ⟨mo_iald _, mo_const _, mo_ii _, mo_iast _, trivial⟩
def jbs_45 (G : jx_Gv) : List (Nat × jx_B) := [(0, jb_45_0 G), (7, jb_45_7 G), (17, jb_45_17 G), (18, jb_45_18 G), (58, jb_45_58 G)]
theorem jms_45 (G : jx_Gv) : ∀ e ∈ jbs_45 G, jx_mo e.2.1 := List.forall_mem_cons.mpr ⟨jm_45_0 G, List.forall_mem_cons.mpr ⟨jm_45_7 G, List.forall_mem_cons.mpr ⟨jm_45_17 G, List.forall_mem_cons.mpr ⟨jm_45_18 G, List.forall_mem_cons.mpr ⟨jm_45_58 G, fun _ h => absurd h List.not_mem_nil⟩⟩⟩⟩⟩
def jb_46_0 (G : jx_Gv) : jx_B := ([jo_aload 1, jo_aload 0, jo_getA 4 0], .inr (.inr (.inr (.inl (40, 1, 8, some 3)))))
theorem jm_46_0 (G : jx_Gv) : jx_mo (jb_46_0 G).1 := ⟨mo_aload _, mo_aload _, mo_getA _ _, trivial⟩
def jb_46_8 (G : jx_Gv) : jx_B := ([jo_iload 2], .inr (.inr (.inr (.inl (45, 3, 12, some 7)))))
theorem jm_46_8 (G : jx_Gv) : jx_mo (jb_46_8 G).1 := ⟨mo_iload _, trivial⟩
def jb_46_12 (G : jx_Gv) : jx_B := ([jo_const (.int (1 : Int32))], .inr (.inr (.inr (.inr jr_z))))
theorem jm_46_12 (G : jx_Gv) : jx_mo (jb_46_12 G).1 := ⟨mo_const _, trivial⟩
def jbs_46 (G : jx_Gv) : List (Nat × jx_B) := [(0, jb_46_0 G), (8, jb_46_8 G), (12, jb_46_12 G)]
theorem jms_46 (G : jx_Gv) : ∀ e ∈ jbs_46 G, jx_mo e.2.1 := List.forall_mem_cons.mpr ⟨jm_46_0 G, List.forall_mem_cons.mpr ⟨jm_46_8 G, List.forall_mem_cons.mpr ⟨jm_46_12 G, fun _ h => absurd h List.not_mem_nil⟩⟩⟩
def jb_47_0 (G : jx_Gv) : jx_B := ([jo_iload 1, jo_const (.int (1 : Int32))], .inl (jc_ii (fun x y => decide (x < y)), 13, 5))
theorem jm_47_0 (G : jx_Gv) : jx_mo (jb_47_0 G).1 := ⟨mo_iload _, mo_const _, trivial⟩
def jb_47_5 (G : jx_Gv) : jx_B := ([jo_iload 1, jo_aload 0, jo_getI 7 10], .inl (jc_ii (fun x y => decide (x ≤ y)), 17, 13))
theorem jm_47_5 (G : jx_Gv) : jx_mo (jb_47_5 G).1 := ⟨mo_iload _, mo_aload _, mo_getI _ _, trivial⟩
def jb_47_13 (G : jx_Gv) : jx_B := ([jo_const (.int (0 : Int32))], .inr (.inl 23))
theorem jm_47_13 (G : jx_Gv) : jx_mo (jb_47_13 G).1 := ⟨mo_const _, trivial⟩
def jb_47_17 (G : jx_Gv) : jx_B := ([jo_aload 0, jo_getA 7 5, jo_iload 1, jo_iald 0], .inr (.inl 23))
theorem jm_47_17 (G : jx_Gv) : jx_mo (jb_47_17 G).1 := ⟨mo_aload _, mo_getA _ _, mo_iload _, mo_iald _, trivial⟩
def jb_47_23 (G : jx_Gv) : jx_B := ([], .inr (.inr (.inr (.inr jr_i))))
theorem jm_47_23 (G : jx_Gv) : jx_mo (jb_47_23 G).1 := trivial
def jbs_47 (G : jx_Gv) : List (Nat × jx_B) := [(0, jb_47_0 G), (5, jb_47_5 G), (13, jb_47_13 G), (17, jb_47_17 G), (23, jb_47_23 G)]
theorem jms_47 (G : jx_Gv) : ∀ e ∈ jbs_47 G, jx_mo e.2.1 := List.forall_mem_cons.mpr ⟨jm_47_0 G, List.forall_mem_cons.mpr ⟨jm_47_5 G, List.forall_mem_cons.mpr ⟨jm_47_13 G, List.forall_mem_cons.mpr ⟨jm_47_17 G, List.forall_mem_cons.mpr ⟨jm_47_23 G, fun _ h => absurd h List.not_mem_nil⟩⟩⟩⟩⟩
def jb_48_0 (G : jx_Gv) : jx_B := ([jo_iload 0], .inr (.inr (.inl (jx_sw [((4 : Int32), 36), ((16 : Int32), 39), ((8192 : Int32), 43)] 47))))
theorem jm_48_0 (G : jx_Gv) : jx_mo (jb_48_0 G).1 := ⟨mo_iload _, trivial⟩
def jb_48_36 (G : jx_Gv) : jx_B := ([jo_const (.int (8 : Int32))], .inr (.inr (.inr (.inr jr_i))))
theorem jm_48_36 (G : jx_Gv) : jx_mo (jb_48_36 G).1 := ⟨mo_const _, trivial⟩
def jb_48_39 (G : jx_Gv) : jx_B := ([jo_const (.int (480 : Int32))], .inr (.inr (.inr (.inr jr_i))))
theorem jm_48_39 (G : jx_Gv) : jx_mo (jb_48_39 G).1 := ⟨mo_const _, trivial⟩
def jb_48_43 (G : jx_Gv) : jx_B := ([jo_const (.int (16400 : Int32))], .inr (.inr (.inr (.inr jr_i))))
theorem jm_48_43 (G : jx_Gv) : jx_mo (jb_48_43 G).1 := ⟨mo_const _, trivial⟩
def jb_48_47 (G : jx_Gv) : jx_B := ([jo_const (.int (8215 : Int32))], .inr (.inr (.inr (.inr jr_i))))
theorem jm_48_47 (G : jx_Gv) : jx_mo (jb_48_47 G).1 := ⟨mo_const _, trivial⟩
def jbs_48 (G : jx_Gv) : List (Nat × jx_B) := [(0, jb_48_0 G), (36, jb_48_36 G), (39, jb_48_39 G), (43, jb_48_43 G), (47, jb_48_47 G)]
theorem jms_48 (G : jx_Gv) : ∀ e ∈ jbs_48 G, jx_mo e.2.1 := List.forall_mem_cons.mpr ⟨jm_48_0 G, List.forall_mem_cons.mpr ⟨jm_48_36 G, List.forall_mem_cons.mpr ⟨jm_48_39 G, List.forall_mem_cons.mpr ⟨jm_48_43 G, List.forall_mem_cons.mpr ⟨jm_48_47 G, fun _ h => absurd h List.not_mem_nil⟩⟩⟩⟩⟩
def jb_49_0 (G : jx_Gv) : jx_B := ([jo_aload 0, jo_getI 3 4, jo_const (.int (1 : Int32))], .inl (jc_ii (fun x y => decide (¬ x = y)), 21, 8))
theorem jm_49_0 (G : jx_Gv) : jx_mo (jb_49_0 G).1 := ⟨mo_aload _, mo_getI _ _, mo_const _, trivial⟩
def jb_49_8 (G : jx_Gv) : jx_B := ([jo_aload 0, jo_getI 3 5, jo_iload 1, jo_ii (· &&& ·)], .inl (jc_i (fun x => decide (x = 0)), 21, 17))
theorem jm_49_8 (G : jx_Gv) : jx_mo (jb_49_8 G).1 := ⟨mo_aload _, mo_getI _ _, mo_iload _, mo_ii _, trivial⟩
def jb_49_17 (G : jx_Gv) : jx_B := ([jo_const (.int (1 : Int32))], .inr (.inl 22))
theorem jm_49_17 (G : jx_Gv) : jx_mo (jb_49_17 G).1 := ⟨mo_const _, trivial⟩
def jb_49_21 (G : jx_Gv) : jx_B := ([jo_const (.int (0 : Int32))], .inr (.inl 22))
theorem jm_49_21 (G : jx_Gv) : jx_mo (jb_49_21 G).1 := ⟨mo_const _, trivial⟩
def jb_49_22 (G : jx_Gv) : jx_B := ([], .inr (.inr (.inr (.inr jr_z))))
theorem jm_49_22 (G : jx_Gv) : jx_mo (jb_49_22 G).1 := trivial
def jbs_49 (G : jx_Gv) : List (Nat × jx_B) := [(0, jb_49_0 G), (8, jb_49_8 G), (17, jb_49_17 G), (21, jb_49_21 G), (22, jb_49_22 G)]
theorem jms_49 (G : jx_Gv) : ∀ e ∈ jbs_49 G, jx_mo e.2.1 := List.forall_mem_cons.mpr ⟨jm_49_0 G, List.forall_mem_cons.mpr ⟨jm_49_8 G, List.forall_mem_cons.mpr ⟨jm_49_17 G, List.forall_mem_cons.mpr ⟨jm_49_21 G, List.forall_mem_cons.mpr ⟨jm_49_22 G, fun _ h => absurd h List.not_mem_nil⟩⟩⟩⟩⟩
def jb_50_0 (G : jx_Gv) : jx_B := ([jo_aload 0, jo_getI 3 5], .inr (.inr (.inr (.inr jr_i))))
theorem jm_50_0 (G : jx_Gv) : jx_mo (jb_50_0 G).1 := ⟨mo_aload _, mo_getI _ _, trivial⟩
def jbs_50 (G : jx_Gv) : List (Nat × jx_B) := [(0, jb_50_0 G)]
theorem jms_50 (G : jx_Gv) : ∀ e ∈ jbs_50 G, jx_mo e.2.1 := List.forall_mem_cons.mpr ⟨jm_50_0 G, fun _ h => absurd h List.not_mem_nil⟩
def jb_51_0 (G : jx_Gv) : jx_B := ([jo_iload 0], .inr (.inr (.inl (jx_sw [((1 : Int32), 68), ((2 : Int32), 71), ((4 : Int32), 74), ((16 : Int32), 74), ((256 : Int32), 77), ((8192 : Int32), 74), ((16384 : Int32), 80)] 83))))
theorem jm_51_0 (G : jx_Gv) : jx_mo (jb_51_0 G).1 := ⟨mo_iload _, trivial⟩
def jb_51_68 (G : jx_Gv) : jx_B := ([jo_const (.ref (G.1 3))], .inr (.inr (.inr (.inr jr_a))))
theorem jm_51_68 (G : jx_Gv) : jx_mo (jb_51_68 G).1 := ⟨mo_const _, trivial⟩
def jb_51_71 (G : jx_Gv) : jx_B := ([jo_const (.ref (G.1 4))], .inr (.inr (.inr (.inr jr_a))))
theorem jm_51_71 (G : jx_Gv) : jx_mo (jb_51_71 G).1 := ⟨mo_const _, trivial⟩
def jb_51_74 (G : jx_Gv) : jx_B := ([jo_const (.ref (G.1 5))], .inr (.inr (.inr (.inr jr_a))))
theorem jm_51_74 (G : jx_Gv) : jx_mo (jb_51_74 G).1 := ⟨mo_const _, trivial⟩
def jb_51_77 (G : jx_Gv) : jx_B := ([jo_const (.ref (G.1 6))], .inr (.inr (.inr (.inr jr_a))))
theorem jm_51_77 (G : jx_Gv) : jx_mo (jb_51_77 G).1 := ⟨mo_const _, trivial⟩
def jb_51_80 (G : jx_Gv) : jx_B := ([jo_const (.ref (G.1 7))], .inr (.inr (.inr (.inr jr_a))))
theorem jm_51_80 (G : jx_Gv) : jx_mo (jb_51_80 G).1 := ⟨mo_const _, trivial⟩
def jb_51_83 (G : jx_Gv) : jx_B := ([jo_const (.ref (G.1 8))], .inr (.inr (.inr (.inr jr_a))))
theorem jm_51_83 (G : jx_Gv) : jx_mo (jb_51_83 G).1 := ⟨mo_const _, trivial⟩
def jbs_51 (G : jx_Gv) : List (Nat × jx_B) := [(0, jb_51_0 G), (68, jb_51_68 G), (71, jb_51_71 G), (74, jb_51_74 G), (77, jb_51_77 G), (80, jb_51_80 G), (83, jb_51_83 G)]
theorem jms_51 (G : jx_Gv) : ∀ e ∈ jbs_51 G, jx_mo e.2.1 := List.forall_mem_cons.mpr ⟨jm_51_0 G, List.forall_mem_cons.mpr ⟨jm_51_68 G, List.forall_mem_cons.mpr ⟨jm_51_71 G, List.forall_mem_cons.mpr ⟨jm_51_74 G, List.forall_mem_cons.mpr ⟨jm_51_77 G, List.forall_mem_cons.mpr ⟨jm_51_80 G, List.forall_mem_cons.mpr ⟨jm_51_83 G, fun _ h => absurd h List.not_mem_nil⟩⟩⟩⟩⟩⟩⟩
def jb_52_0 (G : jx_Gv) : jx_B := ([jo_aload 1], .inr (.inr (.inr (.inl (42, 1, 4, some 7)))))
theorem jm_52_0 (G : jx_Gv) : jx_mo (jb_52_0 G).1 := ⟨mo_aload _, trivial⟩
def jb_52_4 (G : jx_Gv) : jx_B := ([jo_const (.int (120 : Int32))], .inl (jc_ii (fun x y => decide (x < y)), 11, 9))
theorem jm_52_4 (G : jx_Gv) : jx_mo (jb_52_4 G).1 := ⟨mo_const _, trivial⟩
def jb_52_9 (G : jx_Gv) : jx_B := ([jo_const (.int (0 : Int32))], .inr (.inr (.inr (.inr jr_z))))
theorem jm_52_9 (G : jx_Gv) : jx_mo (jb_52_9 G).1 := ⟨mo_const _, trivial⟩
def jb_52_11 (G : jx_Gv) : jx_B := ([jo_aload 0, jo_getI 4 1], .inl (jc_i (fun x => decide (x = 0)), 53, 18))
theorem jm_52_11 (G : jx_Gv) : jx_mo (jb_52_11 G).1 := ⟨mo_aload _, mo_getI _ _, trivial⟩
def jb_52_18 (G : jx_Gv) : jx_B := ([jo_aload 0, jo_getA 4 0, jo_const (.int (125 : Int32))], .inr (.inr (.inr (.inl (43, 2, 27, some 3)))))
theorem jm_52_18 (G : jx_Gv) : jx_mo (jb_52_18 G).1 := ⟨mo_aload _, mo_getA _ _, mo_const _, trivial⟩
def jb_52_27 (G : jx_Gv) : jx_B := ([], .inl (jc_i (fun x => decide (x = 0)), 53, 30))
theorem jm_52_27 (G : jx_Gv) : jx_mo (jb_52_27 G).1 := trivial
def jb_52_30 (G : jx_Gv) : jx_B := ([jo_aload 1, jo_const (.int (131072 : Int32)), jo_aload 0, jo_getI 4 1], .inr (.inr (.inr (.inl (44, 3, 40, some 7)))))
theorem jm_52_30 (G : jx_Gv) : jx_mo (jb_52_30 G).1 := ⟨mo_aload _, mo_const _, mo_aload _, mo_getI _ _, trivial⟩
def jb_52_40 (G : jx_Gv) : jx_B := ([jo_aload 0, jo_const (.int (0 : Int32)), jo_putI 4 1, jo_aload 0, jo_aload 1, jo_const (.int (125 : Int32))], .inr (.inr (.inr (.inl (46, 3, 52, some 4)))))
theorem jm_52_40 (G : jx_Gv) : jx_mo (jb_52_40 G).1 := ⟨mo_aload _, mo_const _, mo_putI _ _, mo_aload _, mo_aload _, mo_const _, trivial⟩
def jb_52_52 (G : jx_Gv) : jx_B := ([], .inr (.inr (.inr (.inr jr_z))))
theorem jm_52_52 (G : jx_Gv) : jx_mo (jb_52_52 G).1 := trivial
def jb_52_53 (G : jx_Gv) : jx_B := ([jo_aload 0, jo_getA 4 0, jo_aload 1, jo_aload 0, jo_getI 4 1], .inr (.inr (.inr (.inl (47, 2, 65, some 7)))))
theorem jm_52_53 (G : jx_Gv) : jx_mo (jb_52_53 G).1 := ⟨mo_aload _, mo_getA _ _, mo_aload _, mo_aload _, mo_getI _ _, trivial⟩
def jb_52_65 (G : jx_Gv) : jx_B := ([], .inr (.inr (.inr (.inl (48, 1, 68, none)))))
theorem jm_52_65 (G : jx_Gv) : jx_mo (jb_52_65 G).1 := trivial
def jb_52_68 (G : jx_Gv) : jx_B := ([], .inr (.inr (.inr (.inl (49, 2, 71, some 3)))))
theorem jm_52_68 (G : jx_Gv) : jx_mo (jb_52_68 G).1 := trivial
def jb_52_71 (G : jx_Gv) : jx_B := ([], .inl (jc_i (fun x => decide (¬ x = 0)), 76, 74))
theorem jm_52_71 (G : jx_Gv) : jx_mo (jb_52_71 G).1 := trivial
def jb_52_74 (G : jx_Gv) : jx_B := ([jo_const (.int (0 : Int32))], .inr (.inr (.inr (.inr jr_z))))
theorem jm_52_74 (G : jx_Gv) : jx_mo (jb_52_74 G).1 := ⟨mo_const _, trivial⟩
def jb_52_76 (G : jx_Gv) : jx_B := ([jo_aload 0, jo_getA 4 0], .inr (.inr (.inr (.inl (50, 1, 83, some 3)))))
theorem jm_52_76 (G : jx_Gv) : jx_mo (jb_52_76 G).1 := ⟨mo_aload _, mo_getA _ _, trivial⟩
def jb_52_83 (G : jx_Gv) : jx_B := ([jo_istore 2, jo_iload 2, jo_const (.int (16 : Int32))], .inl (jc_ii (fun x y => decide (¬ x = y)), 102, 90))
theorem jm_52_83 (G : jx_Gv) : jx_mo (jb_52_83 G).1 := ⟨mo_istore _, mo_iload _, mo_const _, trivial⟩
def jb_52_90 (G : jx_Gv) : jx_B := ([jo_aload 0, jo_getI 4 1], .inl (jc_i (fun x => decide (x = 0)), 102, 97))
theorem jm_52_90 (G : jx_Gv) : jx_mo (jb_52_90 G).1 := ⟨mo_aload _, mo_getI _ _, trivial⟩
def jb_52_97 (G : jx_Gv) : jx_B := ([jo_const (.int (65536 : Int32))], .inr (.inl 103))
theorem jm_52_97 (G : jx_Gv) : jx_mo (jb_52_97 G).1 := ⟨mo_const _, trivial⟩
def jb_52_102 (G : jx_Gv) : jx_B := ([jo_iload 2], .inr (.inl 103))
theorem jm_52_102 (G : jx_Gv) : jx_mo (jb_52_102 G).1 := ⟨mo_iload _, trivial⟩
def jb_52_103 (G : jx_Gv) : jx_B := ([jo_istore 3, jo_aload 1, jo_iload 3, jo_aload 0, jo_getI 4 1], .inr (.inr (.inr (.inl (44, 3, 113, some 7)))))
theorem jm_52_103 (G : jx_Gv) : jx_mo (jb_52_103 G).1 := ⟨mo_istore _, mo_aload _, mo_iload _, mo_aload _, mo_getI _ _, trivial⟩
def jb_52_113 (G : jx_Gv) : jx_B := ([jo_iload 3, jo_const (.int (8212 : Int32)), jo_ii (· &&& ·)], .inl (jc_i (fun x => decide (x = 0)), 129, 121))
theorem jm_52_113 (G : jx_Gv) : jx_mo (jb_52_113 G).1 := ⟨mo_iload _, mo_const _, mo_ii _, trivial⟩
def jb_52_121 (G : jx_Gv) : jx_B := ([jo_aload 0, jo_aload 1], .inr (.inr (.inr (.inl (42, 1, 126, some 7)))))
theorem jm_52_121 (G : jx_Gv) : jx_mo (jb_52_121 G).1 := ⟨mo_aload _, mo_aload _, trivial⟩
def jb_52_126 (G : jx_Gv) : jx_B := ([jo_putI 4 1], .inr (.inl 129))
theorem jm_52_126 (G : jx_Gv) : jx_mo (jb_52_126 G).1 := ⟨mo_putI _ _, trivial⟩
def jb_52_129 (G : jx_Gv) : jx_B := ([jo_aload 0, jo_const (.int (0 : Int32)), jo_putI 4 4, jo_aload 0, jo_iload 3], .inr (.inr (.inr (.inl (51, 1, 139, none)))))
theorem jm_52_129 (G : jx_Gv) : jx_mo (jb_52_129 G).1 := ⟨mo_aload _, mo_const _, mo_putI _ _, mo_aload _, mo_iload _, trivial⟩
def jb_52_139 (G : jx_Gv) : jx_B := ([], .inr (.inr (.inr (.inl (26, 2, 142, some 4)))))
theorem jm_52_139 (G : jx_Gv) : jx_mo (jb_52_139 G).1 := trivial
def jb_52_142 (G : jx_Gv) : jx_B := ([jo_aload 0, jo_aload 1, jo_iload 2], .inr (.inr (.inr (.inl (46, 3, 148, some 4)))))
theorem jm_52_142 (G : jx_Gv) : jx_mo (jb_52_142 G).1 := ⟨mo_aload _, mo_aload _, mo_iload _, trivial⟩
def jb_52_148 (G : jx_Gv) : jx_B := ([], .inr (.inr (.inr (.inr jr_z))))
theorem jm_52_148 (G : jx_Gv) : jx_mo (jb_52_148 G).1 := trivial
def jbs_52 (G : jx_Gv) : List (Nat × jx_B) := [(0, jb_52_0 G), (4, jb_52_4 G), (9, jb_52_9 G), (11, jb_52_11 G), (18, jb_52_18 G), (27, jb_52_27 G), (30, jb_52_30 G), (40, jb_52_40 G), (52, jb_52_52 G), (53, jb_52_53 G), (65, jb_52_65 G), (68, jb_52_68 G), (71, jb_52_71 G), (74, jb_52_74 G), (76, jb_52_76 G), (83, jb_52_83 G), (90, jb_52_90 G), (97, jb_52_97 G), (102, jb_52_102 G), (103, jb_52_103 G), (113, jb_52_113 G), (121, jb_52_121 G), (126, jb_52_126 G), (129, jb_52_129 G), (139, jb_52_139 G), (142, jb_52_142 G), (148, jb_52_148 G)]
theorem jms_52 (G : jx_Gv) : ∀ e ∈ jbs_52 G, jx_mo e.2.1 := List.forall_mem_cons.mpr ⟨jm_52_0 G, List.forall_mem_cons.mpr ⟨jm_52_4 G, List.forall_mem_cons.mpr ⟨jm_52_9 G, List.forall_mem_cons.mpr ⟨jm_52_11 G, List.forall_mem_cons.mpr ⟨jm_52_18 G, List.forall_mem_cons.mpr ⟨jm_52_27 G, List.forall_mem_cons.mpr ⟨jm_52_30 G, List.forall_mem_cons.mpr ⟨jm_52_40 G, List.forall_mem_cons.mpr ⟨jm_52_52 G, List.forall_mem_cons.mpr ⟨jm_52_53 G, List.forall_mem_cons.mpr ⟨jm_52_65 G, List.forall_mem_cons.mpr ⟨jm_52_68 G, List.forall_mem_cons.mpr ⟨jm_52_71 G, List.forall_mem_cons.mpr ⟨jm_52_74 G, List.forall_mem_cons.mpr ⟨jm_52_76 G, List.forall_mem_cons.mpr ⟨jm_52_83 G, List.forall_mem_cons.mpr ⟨jm_52_90 G, List.forall_mem_cons.mpr ⟨jm_52_97 G, List.forall_mem_cons.mpr ⟨jm_52_102 G, List.forall_mem_cons.mpr ⟨jm_52_103 G, List.forall_mem_cons.mpr ⟨jm_52_113 G, List.forall_mem_cons.mpr ⟨jm_52_121 G, List.forall_mem_cons.mpr ⟨jm_52_126 G, List.forall_mem_cons.mpr ⟨jm_52_129 G, List.forall_mem_cons.mpr ⟨jm_52_139 G, List.forall_mem_cons.mpr ⟨jm_52_142 G, List.forall_mem_cons.mpr ⟨jm_52_148 G, fun _ h => absurd h List.not_mem_nil⟩⟩⟩⟩⟩⟩⟩⟩⟩⟩⟩⟩⟩⟩⟩⟩⟩⟩⟩⟩⟩⟩⟩⟩⟩⟩⟩
def jb_53_0 (G : jx_Gv) : jx_B := ([jo_aload 0, jo_getJ 3 6], .inr (.inr (.inr (.inr jr_l))))
theorem jm_53_0 (G : jx_Gv) : jx_mo (jb_53_0 G).1 := ⟨mo_aload _, mo_getJ _ _, trivial⟩
def jbs_53 (G : jx_Gv) : List (Nat × jx_B) := [(0, jb_53_0 G)]
theorem jms_53 (G : jx_Gv) : ∀ e ∈ jbs_53 G, jx_mo e.2.1 := List.forall_mem_cons.mpr ⟨jm_53_0 G, fun _ h => absurd h List.not_mem_nil⟩
def jb_54_0 (G : jx_Gv) : jx_B := ([jo_const (.int (0 : Int32)), jo_drop 2, jo_istore 3], .inr (.inl 2))
theorem jm_54_0 (G : jx_Gv) : jx_mo (jb_54_0 G).1 := ⟨mo_const _, mo_drop _, mo_istore _, trivial⟩
def jb_54_2 (G : jx_Gv) : jx_B := ([jo_iload 3, jo_aload 0, jo_getI 7 4], .inl (jc_ii (fun x y => decide (y ≤ x)), 31, 10))
theorem jm_54_2 (G : jx_Gv) : jx_mo (jb_54_2 G).1 := ⟨mo_iload _, mo_aload _, mo_getI _ _, trivial⟩
def jb_54_10 (G : jx_Gv) : jx_B := ([jo_aload 0, jo_getA 7 3, jo_iload 3, jo_lald 1, jo_lload 1, jo_lc lg_cmp], .inl (jc_i (fun x => decide (¬ x = 0)), 25, 21))
theorem jm_54_10 (G : jx_Gv) : jx_mo (jb_54_10 G).1 := ⟨mo_aload _, mo_getA _ _, mo_iload _, mo_lald _, mo_lload _, mo_lc _, trivial⟩
def jb_54_21 (G : jx_Gv) : jx_B := ([jo_iload 3, jo_const (.int (1 : Int32)), jo_ii (· + ·)], .inr (.inr (.inr (.inr jr_i))))
theorem jm_54_21 (G : jx_Gv) : jx_mo (jb_54_21 G).1 := ⟨mo_iload _, mo_const _, mo_ii _, trivial⟩
def jb_54_25 (G : jx_Gv) : jx_B := ([jo_drop 2, jo_iinc 3 (1 : Int32)], .inr (.inl 2))
theorem jm_54_25 (G : jx_Gv) : jx_mo (jb_54_25 G).1 := ⟨mo_drop _, mo_iinc _ _, trivial⟩
def jb_54_31 (G : jx_Gv) : jx_B := ([jo_aload 0, jo_getI 7 4, jo_const (.int (1000 : Int32))], .inl (jc_ii (fun x y => decide (x < y)), 43, 41))
theorem jm_54_31 (G : jx_Gv) : jx_mo (jb_54_31 G).1 := ⟨mo_aload _, mo_getI _ _, mo_const _, trivial⟩
def jb_54_41 (G : jx_Gv) : jx_B := ([jo_const (.int (0 : Int32))], .inr (.inr (.inr (.inr jr_i))))
theorem jm_54_41 (G : jx_Gv) : jx_mo (jb_54_41 G).1 := ⟨mo_const _, trivial⟩
def jb_54_43 (G : jx_Gv) : jx_B := ([jo_aload 0, jo_getA 7 3, jo_aload 0, jo_getI 7 4, jo_lload 1, jo_last 1, jo_aload 0, jo_dup, jo_getI 7 4, jo_const (.int (1 : Int32)), jo_ii (· + ·), jo_putI 7 4, jo_aload 0, jo_getI 7 4], .inr (.inr (.inr (.inr jr_i))))
theorem jm_54_43 (G : jx_Gv) : jx_mo (jb_54_43 G).1 := ⟨mo_aload _, mo_getA _ _, mo_aload _, mo_getI _ _, mo_lload _, mo_last _, mo_aload _, mo_dup, mo_getI _ _, mo_const _, mo_ii _, mo_putI _ _, mo_aload _, mo_getI _ _, trivial⟩
def jbs_54 (G : jx_Gv) : List (Nat × jx_B) := [(0, jb_54_0 G), (2, jb_54_2 G), (10, jb_54_10 G), (21, jb_54_21 G), (25, jb_54_25 G), (31, jb_54_31 G), (41, jb_54_41 G), (43, jb_54_43 G)]
theorem jms_54 (G : jx_Gv) : ∀ e ∈ jbs_54 G, jx_mo e.2.1 := List.forall_mem_cons.mpr ⟨jm_54_0 G, List.forall_mem_cons.mpr ⟨jm_54_2 G, List.forall_mem_cons.mpr ⟨jm_54_10 G, List.forall_mem_cons.mpr ⟨jm_54_21 G, List.forall_mem_cons.mpr ⟨jm_54_25 G, List.forall_mem_cons.mpr ⟨jm_54_31 G, List.forall_mem_cons.mpr ⟨jm_54_41 G, List.forall_mem_cons.mpr ⟨jm_54_43 G, fun _ h => absurd h List.not_mem_nil⟩⟩⟩⟩⟩⟩⟩⟩
def jb_55_0 (G : jx_Gv) : jx_B := ([jo_aload 0, jo_getI 3 4, jo_const (.int (3 : Int32))], .inl (jc_ii (fun x y => decide (¬ x = y)), 28, 8))
theorem jm_55_0 (G : jx_Gv) : jx_mo (jb_55_0 G).1 := ⟨mo_aload _, mo_getI _ _, mo_const _, trivial⟩
def jb_55_8 (G : jx_Gv) : jx_B := ([jo_aload 0, jo_getI 3 5, jo_iload 1], .inl (jc_ii (fun x y => decide (x < y)), 28, 16))
theorem jm_55_8 (G : jx_Gv) : jx_mo (jb_55_8 G).1 := ⟨mo_aload _, mo_getI _ _, mo_iload _, trivial⟩
def jb_55_16 (G : jx_Gv) : jx_B := ([jo_aload 0, jo_getI 3 5, jo_iload 2], .inl (jc_ii (fun x y => decide (y < x)), 28, 24))
theorem jm_55_16 (G : jx_Gv) : jx_mo (jb_55_16 G).1 := ⟨mo_aload _, mo_getI _ _, mo_iload _, trivial⟩
def jb_55_24 (G : jx_Gv) : jx_B := ([jo_const (.int (1 : Int32))], .inr (.inl 29))
theorem jm_55_24 (G : jx_Gv) : jx_mo (jb_55_24 G).1 := ⟨mo_const _, trivial⟩
def jb_55_28 (G : jx_Gv) : jx_B := ([jo_const (.int (0 : Int32))], .inr (.inl 29))
theorem jm_55_28 (G : jx_Gv) : jx_mo (jb_55_28 G).1 := ⟨mo_const _, trivial⟩
def jb_55_29 (G : jx_Gv) : jx_B := ([], .inr (.inr (.inr (.inr jr_z))))
theorem jm_55_29 (G : jx_Gv) : jx_mo (jb_55_29 G).1 := trivial
def jbs_55 (G : jx_Gv) : List (Nat × jx_B) := [(0, jb_55_0 G), (8, jb_55_8 G), (16, jb_55_16 G), (24, jb_55_24 G), (28, jb_55_28 G), (29, jb_55_29 G)]
theorem jms_55 (G : jx_Gv) : ∀ e ∈ jbs_55 G, jx_mo e.2.1 := List.forall_mem_cons.mpr ⟨jm_55_0 G, List.forall_mem_cons.mpr ⟨jm_55_8 G, List.forall_mem_cons.mpr ⟨jm_55_16 G, List.forall_mem_cons.mpr ⟨jm_55_24 G, List.forall_mem_cons.mpr ⟨jm_55_28 G, List.forall_mem_cons.mpr ⟨jm_55_29 G, fun _ h => absurd h List.not_mem_nil⟩⟩⟩⟩⟩⟩
def jb_56_0 (G : jx_Gv) : jx_B := ([jo_aload 0, jo_getI 4 5], .inl (jc_i (fun x => decide (¬ x = 0)), 36, 7))
theorem jm_56_0 (G : jx_Gv) : jx_mo (jb_56_0 G).1 := ⟨mo_aload _, mo_getI _ _, trivial⟩
def jb_56_7 (G : jx_Gv) : jx_B := ([jo_aload 0, jo_getA 4 0, jo_const (.int (45 : Int32))], .inr (.inr (.inr (.inl (43, 2, 16, some 3)))))
theorem jm_56_7 (G : jx_Gv) : jx_mo (jb_56_7 G).1 := ⟨mo_aload _, mo_getA _ _, mo_const _, trivial⟩
def jb_56_16 (G : jx_Gv) : jx_B := ([], .inl (jc_i (fun x => decide (x = 0)), 36, 19))
theorem jm_56_16 (G : jx_Gv) : jx_mo (jb_56_16 G).1 := trivial
def jb_56_19 (G : jx_Gv) : jx_B := ([jo_aload 0, jo_const (.int (1 : Int32)), jo_putZ 4 5, jo_aload 0, jo_dup, jo_getI 4 3, jo_const (.int (1 : Int32)), jo_ii (· - ·), jo_putI 4 3, jo_const (.int (1 : Int32))], .inr (.inr (.inr (.inr jr_z))))
theorem jm_56_19 (G : jx_Gv) : jx_mo (jb_56_19 G).1 := ⟨mo_aload _, mo_const _, mo_putZ _ _, mo_aload _, mo_dup, mo_getI _ _, mo_const _, mo_ii _, mo_putI _ _, mo_const _, trivial⟩
def jb_56_36 (G : jx_Gv) : jx_B := ([jo_aload 0, jo_getI 4 5], .inl (jc_i (fun x => decide (x = 0)), 54, 43))
theorem jm_56_36 (G : jx_Gv) : jx_mo (jb_56_36 G).1 := ⟨mo_aload _, mo_getI _ _, trivial⟩
def jb_56_43 (G : jx_Gv) : jx_B := ([jo_aload 0, jo_getA 4 0], .inr (.inr (.inr (.inl (50, 1, 50, some 3)))))
theorem jm_56_43 (G : jx_Gv) : jx_mo (jb_56_43 G).1 := ⟨mo_aload _, mo_getA _ _, trivial⟩
def jb_56_50 (G : jx_Gv) : jx_B := ([jo_i1 (fun x => -x)], .inr (.inl 61))
theorem jm_56_50 (G : jx_Gv) : jx_mo (jb_56_50 G).1 := ⟨mo_i1 _, trivial⟩
def jb_56_54 (G : jx_Gv) : jx_B := ([jo_aload 0, jo_getA 4 0], .inr (.inr (.inr (.inl (50, 1, 61, some 3)))))
theorem jm_56_54 (G : jx_Gv) : jx_mo (jb_56_54 G).1 := ⟨mo_aload _, mo_getA _ _, trivial⟩
def jb_56_61 (G : jx_Gv) : jx_B := ([jo_istore 2, jo_aload 0, jo_const (.int (0 : Int32)), jo_putZ 4 5, jo_aload 0, jo_getA 4 0], .inr (.inr (.inr (.inl (40, 1, 74, some 3)))))
theorem jm_56_61 (G : jx_Gv) : jx_mo (jb_56_61 G).1 := ⟨mo_istore _, mo_aload _, mo_const _, mo_putZ _ _, mo_aload _, mo_getA _ _, trivial⟩
def jb_56_74 (G : jx_Gv) : jx_B := ([jo_const (.int (3 : Int32))], .inl (jc_ii (fun x y => decide (¬ x = y)), 91, 78))
theorem jm_56_74 (G : jx_Gv) : jx_mo (jb_56_74 G).1 := ⟨mo_const _, trivial⟩
def jb_56_78 (G : jx_Gv) : jx_B := ([jo_aload 0, jo_aload 1, jo_iload 2], .inr (.inr (.inr (.inl (46, 3, 84, some 4)))))
theorem jm_56_78 (G : jx_Gv) : jx_mo (jb_56_78 G).1 := ⟨mo_aload _, mo_aload _, mo_iload _, trivial⟩
def jb_56_84 (G : jx_Gv) : jx_B := ([], .inl (jc_i (fun x => decide (x = 0)), 91, 87))
theorem jm_56_84 (G : jx_Gv) : jx_mo (jb_56_84 G).1 := trivial
def jb_56_87 (G : jx_Gv) : jx_B := ([jo_const (.int (1 : Int32))], .inr (.inl 92))
theorem jm_56_87 (G : jx_Gv) : jx_mo (jb_56_87 G).1 := ⟨mo_const _, trivial⟩
def jb_56_91 (G : jx_Gv) : jx_B := ([jo_const (.int (0 : Int32))], .inr (.inl 92))
theorem jm_56_91 (G : jx_Gv) : jx_mo (jb_56_91 G).1 := ⟨mo_const _, trivial⟩
def jb_56_92 (G : jx_Gv) : jx_B := ([], .inr (.inr (.inr (.inr jr_z))))
theorem jm_56_92 (G : jx_Gv) : jx_mo (jb_56_92 G).1 := trivial
def jbs_56 (G : jx_Gv) : List (Nat × jx_B) := [(0, jb_56_0 G), (7, jb_56_7 G), (16, jb_56_16 G), (19, jb_56_19 G), (36, jb_56_36 G), (43, jb_56_43 G), (50, jb_56_50 G), (54, jb_56_54 G), (61, jb_56_61 G), (74, jb_56_74 G), (78, jb_56_78 G), (84, jb_56_84 G), (87, jb_56_87 G), (91, jb_56_91 G), (92, jb_56_92 G)]
theorem jms_56 (G : jx_Gv) : ∀ e ∈ jbs_56 G, jx_mo e.2.1 := List.forall_mem_cons.mpr ⟨jm_56_0 G, List.forall_mem_cons.mpr ⟨jm_56_7 G, List.forall_mem_cons.mpr ⟨jm_56_16 G, List.forall_mem_cons.mpr ⟨jm_56_19 G, List.forall_mem_cons.mpr ⟨jm_56_36 G, List.forall_mem_cons.mpr ⟨jm_56_43 G, List.forall_mem_cons.mpr ⟨jm_56_50 G, List.forall_mem_cons.mpr ⟨jm_56_54 G, List.forall_mem_cons.mpr ⟨jm_56_61 G, List.forall_mem_cons.mpr ⟨jm_56_74 G, List.forall_mem_cons.mpr ⟨jm_56_78 G, List.forall_mem_cons.mpr ⟨jm_56_84 G, List.forall_mem_cons.mpr ⟨jm_56_87 G, List.forall_mem_cons.mpr ⟨jm_56_91 G, List.forall_mem_cons.mpr ⟨jm_56_92 G, fun _ h => absurd h List.not_mem_nil⟩⟩⟩⟩⟩⟩⟩⟩⟩⟩⟩⟩⟩⟩⟩
def jb_57_0 (G : jx_Gv) : jx_B := ([jo_aload 0, jo_getI 4 4, jo_const (.int (8 : Int32))], .inl (jc_ii (fun x y => decide (y ≤ x)), 51, 9))
theorem jm_57_0 (G : jx_Gv) : jx_mo (jb_57_0 G).1 := ⟨mo_aload _, mo_getI _ _, mo_const _, trivial⟩
def jb_57_9 (G : jx_Gv) : jx_B := ([jo_aload 0, jo_getA 4 0, jo_const (.int (6144 : Int32))], .inr (.inr (.inr (.inl (49, 2, 19, some 3)))))
theorem jm_57_9 (G : jx_Gv) : jx_mo (jb_57_9 G).1 := ⟨mo_aload _, mo_getA _ _, mo_const _, trivial⟩
def jb_57_19 (G : jx_Gv) : jx_B := ([], .inl (jc_i (fun x => decide (x = 0)), 51, 22))
theorem jm_57_19 (G : jx_Gv) : jx_mo (jb_57_19 G).1 := trivial
def jb_57_22 (G : jx_Gv) : jx_B := ([jo_aload 0, jo_dup, jo_getI 4 4, jo_const (.int (1 : Int32)), jo_ii (· + ·), jo_putI 4 4, jo_aload 0, jo_const (.ref (G.1 10))], .inr (.inr (.inr (.inl (26, 2, 38, some 4)))))
theorem jm_57_22 (G : jx_Gv) : jx_mo (jb_57_22 G).1 := ⟨mo_aload _, mo_dup, mo_getI _ _, mo_const _, mo_ii _, mo_putI _ _, mo_aload _, mo_const _, trivial⟩
def jb_57_38 (G : jx_Gv) : jx_B := ([jo_aload 0, jo_aload 1, jo_aload 0, jo_getA 4 0], .inr (.inr (.inr (.inl (50, 1, 47, some 3)))))
theorem jm_57_38 (G : jx_Gv) : jx_mo (jb_57_38 G).1 := ⟨mo_aload _, mo_aload _, mo_aload _, mo_getA _ _, trivial⟩
def jb_57_47 (G : jx_Gv) : jx_B := ([], .inr (.inr (.inr (.inl (46, 3, 50, some 4)))))
theorem jm_57_47 (G : jx_Gv) : jx_mo (jb_57_47 G).1 := trivial
def jb_57_50 (G : jx_Gv) : jx_B := ([], .inr (.inr (.inr (.inr jr_z))))
theorem jm_57_50 (G : jx_Gv) : jx_mo (jb_57_50 G).1 := trivial
def jb_57_51 (G : jx_Gv) : jx_B := ([jo_aload 0, jo_getA 4 0, jo_const (.int (59 : Int32))], .inr (.inr (.inr (.inl (43, 2, 60, some 3)))))
theorem jm_57_51 (G : jx_Gv) : jx_mo (jb_57_51 G).1 := ⟨mo_aload _, mo_getA _ _, mo_const _, trivial⟩
def jb_57_60 (G : jx_Gv) : jx_B := ([], .inl (jc_i (fun x => decide (x = 0)), 77, 63))
theorem jm_57_60 (G : jx_Gv) : jx_mo (jb_57_60 G).1 := trivial
def jb_57_63 (G : jx_Gv) : jx_B := ([jo_aload 0, jo_aload 1, jo_const (.int (59 : Int32))], .inr (.inr (.inr (.inl (46, 3, 70, some 4)))))
theorem jm_57_63 (G : jx_Gv) : jx_mo (jb_57_63 G).1 := ⟨mo_aload _, mo_aload _, mo_const _, trivial⟩
def jb_57_70 (G : jx_Gv) : jx_B := ([], .inl (jc_i (fun x => decide (x = 0)), 77, 73))
theorem jm_57_70 (G : jx_Gv) : jx_mo (jb_57_70 G).1 := trivial
def jb_57_73 (G : jx_Gv) : jx_B := ([jo_const (.int (1 : Int32))], .inr (.inl 78))
theorem jm_57_73 (G : jx_Gv) : jx_mo (jb_57_73 G).1 := ⟨mo_const _, trivial⟩
def jb_57_77 (G : jx_Gv) : jx_B := ([jo_const (.int (0 : Int32))], .inr (.inl 78))
theorem jm_57_77 (G : jx_Gv) : jx_mo (jb_57_77 G).1 := ⟨mo_const _, trivial⟩
def jb_57_78 (G : jx_Gv) : jx_B := ([], .inr (.inr (.inr (.inr jr_z))))
theorem jm_57_78 (G : jx_Gv) : jx_mo (jb_57_78 G).1 := trivial
def jbs_57 (G : jx_Gv) : List (Nat × jx_B) := [(0, jb_57_0 G), (9, jb_57_9 G), (19, jb_57_19 G), (22, jb_57_22 G), (38, jb_57_38 G), (47, jb_57_47 G), (50, jb_57_50 G), (51, jb_57_51 G), (60, jb_57_60 G), (63, jb_57_63 G), (70, jb_57_70 G), (73, jb_57_73 G), (77, jb_57_77 G), (78, jb_57_78 G)]
theorem jms_57 (G : jx_Gv) : ∀ e ∈ jbs_57 G, jx_mo e.2.1 := List.forall_mem_cons.mpr ⟨jm_57_0 G, List.forall_mem_cons.mpr ⟨jm_57_9 G, List.forall_mem_cons.mpr ⟨jm_57_19 G, List.forall_mem_cons.mpr ⟨jm_57_22 G, List.forall_mem_cons.mpr ⟨jm_57_38 G, List.forall_mem_cons.mpr ⟨jm_57_47 G, List.forall_mem_cons.mpr ⟨jm_57_50 G, List.forall_mem_cons.mpr ⟨jm_57_51 G, List.forall_mem_cons.mpr ⟨jm_57_60 G, List.forall_mem_cons.mpr ⟨jm_57_63 G, List.forall_mem_cons.mpr ⟨jm_57_70 G, List.forall_mem_cons.mpr ⟨jm_57_73 G, List.forall_mem_cons.mpr ⟨jm_57_77 G, List.forall_mem_cons.mpr ⟨jm_57_78 G, fun _ h => absurd h List.not_mem_nil⟩⟩⟩⟩⟩⟩⟩⟩⟩⟩⟩⟩⟩⟩
def jb_58_0 (G : jx_Gv) : jx_B := ([jo_aload 0, jo_getA 4 0, jo_const (.int (512 : Int32))], .inr (.inr (.inr (.inl (49, 2, 10, some 3)))))
theorem jm_58_0 (G : jx_Gv) : jx_mo (jb_58_0 G).1 := ⟨mo_aload _, mo_getA _ _, mo_const _, trivial⟩
def jb_58_10 (G : jx_Gv) : jx_B := ([], .inl (jc_i (fun x => decide (x = 0)), 28, 13))
theorem jm_58_10 (G : jx_Gv) : jx_mo (jb_58_10 G).1 := trivial
def jb_58_13 (G : jx_Gv) : jx_B := ([jo_aload 0, jo_const (.ref (G.1 9))], .inr (.inr (.inr (.inl (26, 2, 19, some 4)))))
theorem jm_58_13 (G : jx_Gv) : jx_mo (jb_58_13 G).1 := ⟨mo_aload _, mo_const _, trivial⟩
def jb_58_19 (G : jx_Gv) : jx_B := ([jo_aload 0, jo_aload 1, jo_const (.int (512 : Int32))], .inr (.inr (.inr (.inl (46, 3, 27, some 4)))))
theorem jm_58_19 (G : jx_Gv) : jx_mo (jb_58_19 G).1 := ⟨mo_aload _, mo_aload _, mo_const _, trivial⟩
def jb_58_27 (G : jx_Gv) : jx_B := ([], .inr (.inr (.inr (.inr jr_z))))
theorem jm_58_27 (G : jx_Gv) : jx_mo (jb_58_27 G).1 := trivial
def jb_58_28 (G : jx_Gv) : jx_B := ([jo_aload 0, jo_getA 4 0, jo_const (.int (1024 : Int32))], .inr (.inr (.inr (.inl (49, 2, 38, some 3)))))
theorem jm_58_28 (G : jx_Gv) : jx_mo (jb_58_28 G).1 := ⟨mo_aload _, mo_getA _ _, mo_const _, trivial⟩
def jb_58_38 (G : jx_Gv) : jx_B := ([], .inl (jc_i (fun x => decide (x = 0)), 56, 41))
theorem jm_58_38 (G : jx_Gv) : jx_mo (jb_58_38 G).1 := trivial
def jb_58_41 (G : jx_Gv) : jx_B := ([jo_aload 0, jo_const (.ref (G.1 10))], .inr (.inr (.inr (.inl (26, 2, 47, some 4)))))
theorem jm_58_41 (G : jx_Gv) : jx_mo (jb_58_41 G).1 := ⟨mo_aload _, mo_const _, trivial⟩
def jb_58_47 (G : jx_Gv) : jx_B := ([jo_aload 0, jo_aload 1, jo_const (.int (1024 : Int32))], .inr (.inr (.inr (.inl (46, 3, 55, some 4)))))
theorem jm_58_47 (G : jx_Gv) : jx_mo (jb_58_47 G).1 := ⟨mo_aload _, mo_aload _, mo_const _, trivial⟩
def jb_58_55 (G : jx_Gv) : jx_B := ([], .inr (.inr (.inr (.inr jr_z))))
theorem jm_58_55 (G : jx_Gv) : jx_mo (jb_58_55 G).1 := trivial
def jb_58_56 (G : jx_Gv) : jx_B := ([jo_aload 0, jo_aload 1], .inr (.inr (.inr (.inl (57, 2, 61, some 4)))))
theorem jm_58_56 (G : jx_Gv) : jx_mo (jb_58_56 G).1 := ⟨mo_aload _, mo_aload _, trivial⟩
def jb_58_61 (G : jx_Gv) : jx_B := ([], .inr (.inr (.inr (.inr jr_z))))
theorem jm_58_61 (G : jx_Gv) : jx_mo (jb_58_61 G).1 := trivial
def jbs_58 (G : jx_Gv) : List (Nat × jx_B) := [(0, jb_58_0 G), (10, jb_58_10 G), (13, jb_58_13 G), (19, jb_58_19 G), (27, jb_58_27 G), (28, jb_58_28 G), (38, jb_58_38 G), (41, jb_58_41 G), (47, jb_58_47 G), (55, jb_58_55 G), (56, jb_58_56 G), (61, jb_58_61 G)]
theorem jms_58 (G : jx_Gv) : ∀ e ∈ jbs_58 G, jx_mo e.2.1 := List.forall_mem_cons.mpr ⟨jm_58_0 G, List.forall_mem_cons.mpr ⟨jm_58_10 G, List.forall_mem_cons.mpr ⟨jm_58_13 G, List.forall_mem_cons.mpr ⟨jm_58_19 G, List.forall_mem_cons.mpr ⟨jm_58_27 G, List.forall_mem_cons.mpr ⟨jm_58_28 G, List.forall_mem_cons.mpr ⟨jm_58_38 G, List.forall_mem_cons.mpr ⟨jm_58_41 G, List.forall_mem_cons.mpr ⟨jm_58_47 G, List.forall_mem_cons.mpr ⟨jm_58_55 G, List.forall_mem_cons.mpr ⟨jm_58_56 G, List.forall_mem_cons.mpr ⟨jm_58_61 G, fun _ h => absurd h List.not_mem_nil⟩⟩⟩⟩⟩⟩⟩⟩⟩⟩⟩⟩
def jb_59_0 (G : jx_Gv) : jx_B := ([jo_aload 0, jo_getI 4 3, jo_aload 0, jo_getA 4 2, jo_chk G.1 11 0], .inr (.inr (.inr (.inl (1, 1, 11, none)))))
theorem jm_59_0 (G : jx_Gv) : jx_mo (jb_59_0 G).1 := ⟨mo_aload _, mo_getI _ _, mo_aload _, mo_getA _ _, mo_chk _ _ _, trivial⟩
def jb_59_11 (G : jx_Gv) : jx_B := ([], .inl (jc_ii (fun x y => decide (y ≤ x)), 28, 14))
theorem jm_59_11 (G : jx_Gv) : jx_mo (jb_59_11 G).1 := trivial
def jb_59_14 (G : jx_Gv) : jx_B := ([jo_aload 0, jo_getA 4 2, jo_aload 0, jo_getI 4 3, jo_chk G.1 11 1], .inr (.inr (.inr (.inl (6, 2, 25, none)))))
theorem jm_59_14 (G : jx_Gv) : jx_mo (jb_59_14 G).1 := ⟨mo_aload _, mo_getA _ _, mo_aload _, mo_getI _ _, mo_chk _ _ _, trivial⟩
def jb_59_25 (G : jx_Gv) : jx_B := ([], .inr (.inl 30))
theorem jm_59_25 (G : jx_Gv) : jx_mo (jb_59_25 G).1 := trivial
def jb_59_28 (G : jx_Gv) : jx_B := ([jo_const (.int (59 : Int32))], .inr (.inl 30))
theorem jm_59_28 (G : jx_Gv) : jx_mo (jb_59_28 G).1 := ⟨mo_const _, trivial⟩
def jb_59_30 (G : jx_Gv) : jx_B := ([jo_istore 2, jo_aload 0, jo_dup, jo_getI 4 3, jo_const (.int (1 : Int32)), jo_ii (· + ·), jo_putI 4 3, jo_iload 2], .inr (.inr (.inl (jx_sw [((65 : Int32), 253), ((78 : Int32), 108), ((81 : Int32), 144), ((82 : Int32), 247), ((84 : Int32), 219), ((86 : Int32), 213), ((90 : Int32), 179)] 259))))
theorem jm_59_30 (G : jx_Gv) : jx_mo (jb_59_30 G).1 := ⟨mo_istore _, mo_aload _, mo_dup, mo_getI _ _, mo_const _, mo_ii _, mo_putI _ _, mo_iload _, trivial⟩
def jb_59_108 (G : jx_Gv) : jx_B := ([jo_aload 0, jo_getA 4 0], .inr (.inr (.inr (.inl (40, 1, 115, some 3)))))
theorem jm_59_108 (G : jx_Gv) : jx_mo (jb_59_108 G).1 := ⟨mo_aload _, mo_getA _ _, trivial⟩
def jb_59_115 (G : jx_Gv) : jx_B := ([jo_const (.int (2 : Int32))], .inl (jc_ii (fun x y => decide (¬ x = y)), 142, 119))
theorem jm_59_115 (G : jx_Gv) : jx_mo (jb_59_115 G).1 := ⟨mo_const _, trivial⟩
def jb_59_119 (G : jx_Gv) : jx_B := ([jo_aload 0, jo_aload 1, jo_aload 1, jo_aload 0, jo_getA 4 0], .inr (.inr (.inr (.inl (53, 1, 129, some 3)))))
theorem jm_59_119 (G : jx_Gv) : jx_mo (jb_59_119 G).1 := ⟨mo_aload _, mo_aload _, mo_aload _, mo_aload _, mo_getA _ _, trivial⟩
def jb_59_129 (G : jx_Gv) : jx_B := ([], .inr (.inr (.inr (.inl (54, 2, 132, some 7)))))
theorem jm_59_129 (G : jx_Gv) : jx_mo (jb_59_129 G).1 := trivial
def jb_59_132 (G : jx_Gv) : jx_B := ([], .inr (.inr (.inr (.inl (46, 3, 135, some 4)))))
theorem jm_59_132 (G : jx_Gv) : jx_mo (jb_59_132 G).1 := trivial
def jb_59_135 (G : jx_Gv) : jx_B := ([], .inl (jc_i (fun x => decide (x = 0)), 142, 138))
theorem jm_59_135 (G : jx_Gv) : jx_mo (jb_59_135 G).1 := trivial
def jb_59_138 (G : jx_Gv) : jx_B := ([jo_const (.int (1 : Int32))], .inr (.inl 143))
theorem jm_59_138 (G : jx_Gv) : jx_mo (jb_59_138 G).1 := ⟨mo_const _, trivial⟩
def jb_59_142 (G : jx_Gv) : jx_B := ([jo_const (.int (0 : Int32))], .inr (.inl 143))
theorem jm_59_142 (G : jx_Gv) : jx_mo (jb_59_142 G).1 := ⟨mo_const _, trivial⟩
def jb_59_143 (G : jx_Gv) : jx_B := ([], .inr (.inr (.inr (.inr jr_z))))
theorem jm_59_143 (G : jx_Gv) : jx_mo (jb_59_143 G).1 := trivial
def jb_59_144 (G : jx_Gv) : jx_B := ([jo_aload 0, jo_getA 4 0, jo_const (.int (1 : Int32)), jo_const (.int (9999 : Int32))], .inr (.inr (.inr (.inl (55, 3, 155, some 3)))))
theorem jm_59_144 (G : jx_Gv) : jx_mo (jb_59_144 G).1 := ⟨mo_aload _, mo_getA _ _, mo_const _, mo_const _, trivial⟩
def jb_59_155 (G : jx_Gv) : jx_B := ([], .inl (jc_i (fun x => decide (x = 0)), 177, 158))
theorem jm_59_155 (G : jx_Gv) : jx_mo (jb_59_155 G).1 := trivial
def jb_59_158 (G : jx_Gv) : jx_B := ([jo_aload 0, jo_aload 1, jo_aload 0, jo_getA 4 0], .inr (.inr (.inr (.inl (50, 1, 167, some 3)))))
theorem jm_59_158 (G : jx_Gv) : jx_mo (jb_59_158 G).1 := ⟨mo_aload _, mo_aload _, mo_aload _, mo_getA _ _, trivial⟩
def jb_59_167 (G : jx_Gv) : jx_B := ([], .inr (.inr (.inr (.inl (46, 3, 170, some 4)))))
theorem jm_59_167 (G : jx_Gv) : jx_mo (jb_59_167 G).1 := trivial
def jb_59_170 (G : jx_Gv) : jx_B := ([], .inl (jc_i (fun x => decide (x = 0)), 177, 173))
theorem jm_59_170 (G : jx_Gv) : jx_mo (jb_59_170 G).1 := trivial
def jb_59_173 (G : jx_Gv) : jx_B := ([jo_const (.int (1 : Int32))], .inr (.inl 178))
theorem jm_59_173 (G : jx_Gv) : jx_mo (jb_59_173 G).1 := ⟨mo_const _, trivial⟩
def jb_59_177 (G : jx_Gv) : jx_B := ([jo_const (.int (0 : Int32))], .inr (.inl 178))
theorem jm_59_177 (G : jx_Gv) : jx_mo (jb_59_177 G).1 := ⟨mo_const _, trivial⟩
def jb_59_178 (G : jx_Gv) : jx_B := ([], .inr (.inr (.inr (.inr jr_z))))
theorem jm_59_178 (G : jx_Gv) : jx_mo (jb_59_178 G).1 := trivial
def jb_59_179 (G : jx_Gv) : jx_B := ([jo_aload 0, jo_getA 4 0, jo_const (.int (1 : Int32)), jo_const (.int (999999 : Int32))], .inr (.inr (.inr (.inl (55, 3, 189, some 3)))))
theorem jm_59_179 (G : jx_Gv) : jx_mo (jb_59_179 G).1 := ⟨mo_aload _, mo_getA _ _, mo_const _, mo_const _, trivial⟩
def jb_59_189 (G : jx_Gv) : jx_B := ([], .inl (jc_i (fun x => decide (x = 0)), 211, 192))
theorem jm_59_189 (G : jx_Gv) : jx_mo (jb_59_189 G).1 := trivial
def jb_59_192 (G : jx_Gv) : jx_B := ([jo_aload 0, jo_aload 1, jo_aload 0, jo_getA 4 0], .inr (.inr (.inr (.inl (50, 1, 201, some 3)))))
theorem jm_59_192 (G : jx_Gv) : jx_mo (jb_59_192 G).1 := ⟨mo_aload _, mo_aload _, mo_aload _, mo_getA _ _, trivial⟩
def jb_59_201 (G : jx_Gv) : jx_B := ([], .inr (.inr (.inr (.inl (46, 3, 204, some 4)))))
theorem jm_59_201 (G : jx_Gv) : jx_mo (jb_59_201 G).1 := trivial
def jb_59_204 (G : jx_Gv) : jx_B := ([], .inl (jc_i (fun x => decide (x = 0)), 211, 207))
theorem jm_59_204 (G : jx_Gv) : jx_mo (jb_59_204 G).1 := trivial
def jb_59_207 (G : jx_Gv) : jx_B := ([jo_const (.int (1 : Int32))], .inr (.inl 212))
theorem jm_59_207 (G : jx_Gv) : jx_mo (jb_59_207 G).1 := ⟨mo_const _, trivial⟩
def jb_59_211 (G : jx_Gv) : jx_B := ([jo_const (.int (0 : Int32))], .inr (.inl 212))
theorem jm_59_211 (G : jx_Gv) : jx_mo (jb_59_211 G).1 := ⟨mo_const _, trivial⟩
def jb_59_212 (G : jx_Gv) : jx_B := ([], .inr (.inr (.inr (.inr jr_z))))
theorem jm_59_212 (G : jx_Gv) : jx_mo (jb_59_212 G).1 := trivial
def jb_59_213 (G : jx_Gv) : jx_B := ([jo_aload 0, jo_aload 1], .inr (.inr (.inr (.inl (56, 2, 218, some 4)))))
theorem jm_59_213 (G : jx_Gv) : jx_mo (jb_59_213 G).1 := ⟨mo_aload _, mo_aload _, trivial⟩
def jb_59_218 (G : jx_Gv) : jx_B := ([], .inr (.inr (.inr (.inr jr_z))))
theorem jm_59_218 (G : jx_Gv) : jx_mo (jb_59_218 G).1 := trivial
def jb_59_219 (G : jx_Gv) : jx_B := ([jo_aload 0, jo_getA 4 0, jo_const (.int (32768 : Int32))], .inr (.inr (.inr (.inl (49, 2, 228, some 3)))))
theorem jm_59_219 (G : jx_Gv) : jx_mo (jb_59_219 G).1 := ⟨mo_aload _, mo_getA _ _, mo_const _, trivial⟩
def jb_59_228 (G : jx_Gv) : jx_B := ([], .inl (jc_i (fun x => decide (x = 0)), 245, 231))
theorem jm_59_228 (G : jx_Gv) : jx_mo (jb_59_228 G).1 := trivial
def jb_59_231 (G : jx_Gv) : jx_B := ([jo_aload 0, jo_aload 1, jo_const (.int (32768 : Int32))], .inr (.inr (.inr (.inl (46, 3, 238, some 4)))))
theorem jm_59_231 (G : jx_Gv) : jx_mo (jb_59_231 G).1 := ⟨mo_aload _, mo_aload _, mo_const _, trivial⟩
def jb_59_238 (G : jx_Gv) : jx_B := ([], .inl (jc_i (fun x => decide (x = 0)), 245, 241))
theorem jm_59_238 (G : jx_Gv) : jx_mo (jb_59_238 G).1 := trivial
def jb_59_241 (G : jx_Gv) : jx_B := ([jo_const (.int (1 : Int32))], .inr (.inl 246))
theorem jm_59_241 (G : jx_Gv) : jx_mo (jb_59_241 G).1 := ⟨mo_const _, trivial⟩
def jb_59_245 (G : jx_Gv) : jx_B := ([jo_const (.int (0 : Int32))], .inr (.inl 246))
theorem jm_59_245 (G : jx_Gv) : jx_mo (jb_59_245 G).1 := ⟨mo_const _, trivial⟩
def jb_59_246 (G : jx_Gv) : jx_B := ([], .inr (.inr (.inr (.inr jr_z))))
theorem jm_59_246 (G : jx_Gv) : jx_mo (jb_59_246 G).1 := trivial
def jb_59_247 (G : jx_Gv) : jx_B := ([jo_aload 0, jo_aload 1], .inr (.inr (.inr (.inl (58, 2, 252, some 4)))))
theorem jm_59_247 (G : jx_Gv) : jx_mo (jb_59_247 G).1 := ⟨mo_aload _, mo_aload _, trivial⟩
def jb_59_252 (G : jx_Gv) : jx_B := ([], .inr (.inr (.inr (.inr jr_z))))
theorem jm_59_252 (G : jx_Gv) : jx_mo (jb_59_252 G).1 := trivial
def jb_59_253 (G : jx_Gv) : jx_B := ([jo_aload 0, jo_aload 1], .inr (.inr (.inr (.inl (57, 2, 258, some 4)))))
theorem jm_59_253 (G : jx_Gv) : jx_mo (jb_59_253 G).1 := ⟨mo_aload _, mo_aload _, trivial⟩
def jb_59_258 (G : jx_Gv) : jx_B := ([], .inr (.inr (.inr (.inr jr_z))))
theorem jm_59_258 (G : jx_Gv) : jx_mo (jb_59_258 G).1 := trivial
def jb_59_259 (G : jx_Gv) : jx_B := ([jo_aload 0, jo_getA 4 0, jo_iload 2], .inr (.inr (.inr (.inl (43, 2, 267, some 3)))))
theorem jm_59_259 (G : jx_Gv) : jx_mo (jb_59_259 G).1 := ⟨mo_aload _, mo_getA _ _, mo_iload _, trivial⟩
def jb_59_267 (G : jx_Gv) : jx_B := ([], .inl (jc_i (fun x => decide (x = 0)), 283, 270))
theorem jm_59_267 (G : jx_Gv) : jx_mo (jb_59_267 G).1 := trivial
def jb_59_270 (G : jx_Gv) : jx_B := ([jo_aload 0, jo_aload 1, jo_iload 2], .inr (.inr (.inr (.inl (46, 3, 276, some 4)))))
theorem jm_59_270 (G : jx_Gv) : jx_mo (jb_59_270 G).1 := ⟨mo_aload _, mo_aload _, mo_iload _, trivial⟩
def jb_59_276 (G : jx_Gv) : jx_B := ([], .inl (jc_i (fun x => decide (x = 0)), 283, 279))
theorem jm_59_276 (G : jx_Gv) : jx_mo (jb_59_276 G).1 := trivial
def jb_59_279 (G : jx_Gv) : jx_B := ([jo_const (.int (1 : Int32))], .inr (.inl 284))
theorem jm_59_279 (G : jx_Gv) : jx_mo (jb_59_279 G).1 := ⟨mo_const _, trivial⟩
def jb_59_283 (G : jx_Gv) : jx_B := ([jo_const (.int (0 : Int32))], .inr (.inl 284))
theorem jm_59_283 (G : jx_Gv) : jx_mo (jb_59_283 G).1 := ⟨mo_const _, trivial⟩
def jb_59_284 (G : jx_Gv) : jx_B := ([], .inr (.inr (.inr (.inr jr_z))))
theorem jm_59_284 (G : jx_Gv) : jx_mo (jb_59_284 G).1 := trivial
def jbs_59 (G : jx_Gv) : List (Nat × jx_B) := [(0, jb_59_0 G), (11, jb_59_11 G), (14, jb_59_14 G), (25, jb_59_25 G), (28, jb_59_28 G), (30, jb_59_30 G), (108, jb_59_108 G), (115, jb_59_115 G), (119, jb_59_119 G), (129, jb_59_129 G), (132, jb_59_132 G), (135, jb_59_135 G), (138, jb_59_138 G), (142, jb_59_142 G), (143, jb_59_143 G), (144, jb_59_144 G), (155, jb_59_155 G), (158, jb_59_158 G), (167, jb_59_167 G), (170, jb_59_170 G), (173, jb_59_173 G), (177, jb_59_177 G), (178, jb_59_178 G), (179, jb_59_179 G), (189, jb_59_189 G), (192, jb_59_192 G), (201, jb_59_201 G), (204, jb_59_204 G), (207, jb_59_207 G), (211, jb_59_211 G), (212, jb_59_212 G), (213, jb_59_213 G), (218, jb_59_218 G), (219, jb_59_219 G), (228, jb_59_228 G), (231, jb_59_231 G), (238, jb_59_238 G), (241, jb_59_241 G), (245, jb_59_245 G), (246, jb_59_246 G), (247, jb_59_247 G), (252, jb_59_252 G), (253, jb_59_253 G), (258, jb_59_258 G), (259, jb_59_259 G), (267, jb_59_267 G), (270, jb_59_270 G), (276, jb_59_276 G), (279, jb_59_279 G), (283, jb_59_283 G), (284, jb_59_284 G)]
theorem jms_59 (G : jx_Gv) : ∀ e ∈ jbs_59 G, jx_mo e.2.1 := List.forall_mem_cons.mpr ⟨jm_59_0 G, List.forall_mem_cons.mpr ⟨jm_59_11 G, List.forall_mem_cons.mpr ⟨jm_59_14 G, List.forall_mem_cons.mpr ⟨jm_59_25 G, List.forall_mem_cons.mpr ⟨jm_59_28 G, List.forall_mem_cons.mpr ⟨jm_59_30 G, List.forall_mem_cons.mpr ⟨jm_59_108 G, List.forall_mem_cons.mpr ⟨jm_59_115 G, List.forall_mem_cons.mpr ⟨jm_59_119 G, List.forall_mem_cons.mpr ⟨jm_59_129 G, List.forall_mem_cons.mpr ⟨jm_59_132 G, List.forall_mem_cons.mpr ⟨jm_59_135 G, List.forall_mem_cons.mpr ⟨jm_59_138 G, List.forall_mem_cons.mpr ⟨jm_59_142 G, List.forall_mem_cons.mpr ⟨jm_59_143 G, List.forall_mem_cons.mpr ⟨jm_59_144 G, List.forall_mem_cons.mpr ⟨jm_59_155 G, List.forall_mem_cons.mpr ⟨jm_59_158 G, List.forall_mem_cons.mpr ⟨jm_59_167 G, List.forall_mem_cons.mpr ⟨jm_59_170 G, List.forall_mem_cons.mpr ⟨jm_59_173 G, List.forall_mem_cons.mpr ⟨jm_59_177 G, List.forall_mem_cons.mpr ⟨jm_59_178 G, List.forall_mem_cons.mpr ⟨jm_59_179 G, List.forall_mem_cons.mpr ⟨jm_59_189 G, List.forall_mem_cons.mpr ⟨jm_59_192 G, List.forall_mem_cons.mpr ⟨jm_59_201 G, List.forall_mem_cons.mpr ⟨jm_59_204 G, List.forall_mem_cons.mpr ⟨jm_59_207 G, List.forall_mem_cons.mpr ⟨jm_59_211 G, List.forall_mem_cons.mpr ⟨jm_59_212 G, List.forall_mem_cons.mpr ⟨jm_59_213 G, List.forall_mem_cons.mpr ⟨jm_59_218 G, List.forall_mem_cons.mpr ⟨jm_59_219 G, List.forall_mem_cons.mpr ⟨jm_59_228 G, List.forall_mem_cons.mpr ⟨jm_59_231 G, List.forall_mem_cons.mpr ⟨jm_59_238 G, List.forall_mem_cons.mpr ⟨jm_59_241 G, List.forall_mem_cons.mpr ⟨jm_59_245 G, List.forall_mem_cons.mpr ⟨jm_59_246 G, List.forall_mem_cons.mpr ⟨jm_59_247 G, List.forall_mem_cons.mpr ⟨jm_59_252 G, List.forall_mem_cons.mpr ⟨jm_59_253 G, List.forall_mem_cons.mpr ⟨jm_59_258 G, List.forall_mem_cons.mpr ⟨jm_59_259 G, List.forall_mem_cons.mpr ⟨jm_59_267 G, List.forall_mem_cons.mpr ⟨jm_59_270 G, List.forall_mem_cons.mpr ⟨jm_59_276 G, List.forall_mem_cons.mpr ⟨jm_59_279 G, List.forall_mem_cons.mpr ⟨jm_59_283 G, List.forall_mem_cons.mpr ⟨jm_59_284 G, fun _ h => absurd h List.not_mem_nil⟩⟩⟩⟩⟩⟩⟩⟩⟩⟩⟩⟩⟩⟩⟩⟩⟩⟩⟩⟩⟩⟩⟩⟩⟩⟩⟩⟩⟩⟩⟩⟩⟩⟩⟩⟩⟩⟩⟩⟩⟩⟩⟩⟩⟩⟩⟩⟩⟩⟩⟩
def jb_60_0 (G : jx_Gv) : jx_B := ([jo_aload 1], .inr (.inr (.inr (.inl (24, 1, 4, some 7)))))
theorem jm_60_0 (G : jx_Gv) : jx_mo (jb_60_0 G).1 := ⟨mo_aload _, trivial⟩
def jb_60_4 (G : jx_Gv) : jx_B := ([jo_aload 0, jo_getA 4 0], .inr (.inr (.inr (.inl (25, 1, 11, some 3)))))
theorem jm_60_4 (G : jx_Gv) : jx_mo (jb_60_4 G).1 := ⟨mo_aload _, mo_getA _ _, trivial⟩
def jb_60_11 (G : jx_Gv) : jx_B := ([jo_aload 0, jo_const (.int (0 : Int32)), jo_putI 4 1, jo_aload 0, jo_const (.int (0 : Int32)), jo_putZ 4 5, jo_aload 0, jo_const (.ref (G.1 1))], .inr (.inr (.inr (.inl (26, 2, 27, some 4)))))
theorem jm_60_11 (G : jx_Gv) : jx_mo (jb_60_11 G).1 := ⟨mo_aload _, mo_const _, mo_putI _ _, mo_aload _, mo_const _, mo_putZ _ _, mo_aload _, mo_const _, trivial⟩
def jb_60_27 (G : jx_Gv) : jx_B := ([jo_const (.int (0 : Int32)), jo_istore 2], .inr (.inl 29))
theorem jm_60_27 (G : jx_Gv) : jx_mo (jb_60_27 G).1 := ⟨mo_const _, mo_istore _, trivial⟩
def jb_60_29 (G : jx_Gv) : jx_B := ([jo_iload 2, jo_const (.int (2000 : Int32))], .inl (jc_ii (fun x y => decide (y < x)), 108, 36))
theorem jm_60_29 (G : jx_Gv) : jx_mo (jb_60_29 G).1 := ⟨mo_iload _, mo_const _, trivial⟩
def jb_60_36 (G : jx_Gv) : jx_B := ([jo_aload 0, jo_getA 4 0], .inr (.inr (.inr (.inl (39, 1, 43, some 3)))))
theorem jm_60_36 (G : jx_Gv) : jx_mo (jb_60_36 G).1 := ⟨mo_aload _, mo_getA _ _, trivial⟩
def jb_60_43 (G : jx_Gv) : jx_B := ([jo_aload 0, jo_getA 4 0], .inr (.inr (.inr (.inl (40, 1, 50, some 3)))))
theorem jm_60_43 (G : jx_Gv) : jx_mo (jb_60_43 G).1 := ⟨mo_aload _, mo_getA _ _, trivial⟩
def jb_60_50 (G : jx_Gv) : jx_B := ([jo_const (.int (6 : Int32))], .inl (jc_ii (fun x y => decide (¬ x = y)), 75, 55))
theorem jm_60_50 (G : jx_Gv) : jx_mo (jb_60_50 G).1 := ⟨mo_const _, trivial⟩
def jb_60_55 (G : jx_Gv) : jx_B := ([jo_aload 0, jo_getI 4 1], .inl (jc_i (fun x => decide (¬ x = 0)), 73, 62))
theorem jm_60_55 (G : jx_Gv) : jx_mo (jb_60_55 G).1 := ⟨mo_aload _, mo_getI _ _, trivial⟩
def jb_60_62 (G : jx_Gv) : jx_B := ([jo_aload 0], .inr (.inr (.inr (.inl (41, 1, 66, some 4)))))
theorem jm_60_62 (G : jx_Gv) : jx_mo (jb_60_62 G).1 := ⟨mo_aload _, trivial⟩
def jb_60_66 (G : jx_Gv) : jx_B := ([], .inl (jc_i (fun x => decide (x = 0)), 73, 69))
theorem jm_60_66 (G : jx_Gv) : jx_mo (jb_60_66 G).1 := trivial
def jb_60_69 (G : jx_Gv) : jx_B := ([jo_const (.int (1 : Int32))], .inr (.inl 74))
theorem jm_60_69 (G : jx_Gv) : jx_mo (jb_60_69 G).1 := ⟨mo_const _, trivial⟩
def jb_60_73 (G : jx_Gv) : jx_B := ([jo_const (.int (0 : Int32))], .inr (.inl 74))
theorem jm_60_73 (G : jx_Gv) : jx_mo (jb_60_73 G).1 := ⟨mo_const _, trivial⟩
def jb_60_74 (G : jx_Gv) : jx_B := ([], .inr (.inr (.inr (.inr jr_z))))
theorem jm_60_74 (G : jx_Gv) : jx_mo (jb_60_74 G).1 := trivial
def jb_60_75 (G : jx_Gv) : jx_B := ([jo_aload 0], .inr (.inr (.inr (.inl (41, 1, 79, some 4)))))
theorem jm_60_75 (G : jx_Gv) : jx_mo (jb_60_75 G).1 := ⟨mo_aload _, trivial⟩
def jb_60_79 (G : jx_Gv) : jx_B := ([], .inl (jc_i (fun x => decide (x = 0)), 90, 82))
theorem jm_60_79 (G : jx_Gv) : jx_mo (jb_60_79 G).1 := trivial
def jb_60_82 (G : jx_Gv) : jx_B := ([jo_aload 0, jo_aload 1], .inr (.inr (.inr (.inl (52, 2, 87, some 4)))))
theorem jm_60_82 (G : jx_Gv) : jx_mo (jb_60_82 G).1 := ⟨mo_aload _, mo_aload _, trivial⟩
def jb_60_87 (G : jx_Gv) : jx_B := ([], .inr (.inl 95))
theorem jm_60_87 (G : jx_Gv) : jx_mo (jb_60_87 G).1 := trivial
def jb_60_90 (G : jx_Gv) : jx_B := ([jo_aload 0, jo_aload 1], .inr (.inr (.inr (.inl (59, 2, 95, some 4)))))
theorem jm_60_90 (G : jx_Gv) : jx_mo (jb_60_90 G).1 := ⟨mo_aload _, mo_aload _, trivial⟩
def jb_60_95 (G : jx_Gv) : jx_B := ([jo_istore 3, jo_iload 3], .inl (jc_i (fun x => decide (¬ x = 0)), 102, 100))
theorem jm_60_95 (G : jx_Gv) : jx_mo (jb_60_95 G).1 := ⟨mo_istore _, mo_iload _, trivial⟩
def jb_60_100 (G : jx_Gv) : jx_B := ([jo_const (.int (0 : Int32))], .inr (.inr (.inr (.inr jr_z))))
theorem jm_60_100 (G : jx_Gv) : jx_mo (jb_60_100 G).1 := ⟨mo_const _, trivial⟩
def jb_60_102 (G : jx_Gv) : jx_B := ([jo_iinc 2 (1 : Int32)], .inr (.inl 29))
theorem jm_60_102 (G : jx_Gv) : jx_mo (jb_60_102 G).1 := ⟨mo_iinc _ _, trivial⟩
def jb_60_108 (G : jx_Gv) : jx_B := ([jo_const (.int (0 : Int32))], .inr (.inr (.inr (.inr jr_z))))
theorem jm_60_108 (G : jx_Gv) : jx_mo (jb_60_108 G).1 := ⟨mo_const _, trivial⟩
def jbs_60 (G : jx_Gv) : List (Nat × jx_B) := [(0, jb_60_0 G), (4, jb_60_4 G), (11, jb_60_11 G), (27, jb_60_27 G), (29, jb_60_29 G), (36, jb_60_36 G), (43, jb_60_43 G), (50, jb_60_50 G), (55, jb_60_55 G), (62, jb_60_62 G), (66, jb_60_66 G), (69, jb_60_69 G), (73, jb_60_73 G), (74, jb_60_74 G), (75, jb_60_75 G), (79, jb_60_79 G), (82, jb_60_82 G), (87, jb_60_87 G), (90, jb_60_90 G), (95, jb_60_95 G), (100, jb_60_100 G), (102, jb_60_102 G), (108, jb_60_108 G)]
theorem jms_60 (G : jx_Gv) : ∀ e ∈ jbs_60 G, jx_mo e.2.1 := List.forall_mem_cons.mpr ⟨jm_60_0 G, List.forall_mem_cons.mpr ⟨jm_60_4 G, List.forall_mem_cons.mpr ⟨jm_60_11 G, List.forall_mem_cons.mpr ⟨jm_60_27 G, List.forall_mem_cons.mpr ⟨jm_60_29 G, List.forall_mem_cons.mpr ⟨jm_60_36 G, List.forall_mem_cons.mpr ⟨jm_60_43 G, List.forall_mem_cons.mpr ⟨jm_60_50 G, List.forall_mem_cons.mpr ⟨jm_60_55 G, List.forall_mem_cons.mpr ⟨jm_60_62 G, List.forall_mem_cons.mpr ⟨jm_60_66 G, List.forall_mem_cons.mpr ⟨jm_60_69 G, List.forall_mem_cons.mpr ⟨jm_60_73 G, List.forall_mem_cons.mpr ⟨jm_60_74 G, List.forall_mem_cons.mpr ⟨jm_60_75 G, List.forall_mem_cons.mpr ⟨jm_60_79 G, List.forall_mem_cons.mpr ⟨jm_60_82 G, List.forall_mem_cons.mpr ⟨jm_60_87 G, List.forall_mem_cons.mpr ⟨jm_60_90 G, List.forall_mem_cons.mpr ⟨jm_60_95 G, List.forall_mem_cons.mpr ⟨jm_60_100 G, List.forall_mem_cons.mpr ⟨jm_60_102 G, List.forall_mem_cons.mpr ⟨jm_60_108 G, fun _ h => absurd h List.not_mem_nil⟩⟩⟩⟩⟩⟩⟩⟩⟩⟩⟩⟩⟩⟩⟩⟩⟩⟩⟩⟩⟩⟩⟩
def jb_61_0 (G : jx_Gv) : jx_B := ([jo_aload 0, jo_const (.int (0 : Int32)), jo_putI 1 1, jo_aload 0, jo_const (.int (0 : Int32)), jo_putZ 1 2], .inr (.inr (.inr (.inr jr_v))))
theorem jm_61_0 (G : jx_Gv) : jx_mo (jb_61_0 G).1 := ⟨mo_aload _, mo_const _, mo_putI _ _, mo_aload _, mo_const _, mo_putZ _ _, trivial⟩
def jbs_61 (G : jx_Gv) : List (Nat × jx_B) := [(0, jb_61_0 G)]
theorem jms_61 (G : jx_Gv) : ∀ e ∈ jbs_61 G, jx_mo e.2.1 := List.forall_mem_cons.mpr ⟨jm_61_0 G, fun _ h => absurd h List.not_mem_nil⟩
def jb_62_0 (G : jx_Gv) : jx_B := ([jo_aload 0, jo_getI 3 3], .inr (.inr (.inr (.inr jr_i))))
theorem jm_62_0 (G : jx_Gv) : jx_mo (jb_62_0 G).1 := ⟨mo_aload _, mo_getI _ _, trivial⟩
def jbs_62 (G : jx_Gv) : List (Nat × jx_B) := [(0, jb_62_0 G)]
theorem jms_62 (G : jx_Gv) : ∀ e ∈ jbs_62 G, jx_mo e.2.1 := List.forall_mem_cons.mpr ⟨jm_62_0 G, fun _ h => absurd h List.not_mem_nil⟩
def jb_63_0 (G : jx_Gv) : jx_B := ([jo_aload 0, jo_getA 4 0], .inr (.inr (.inr (.inl (62, 1, 7, some 3)))))
theorem jm_63_0 (G : jx_Gv) : jx_mo (jb_63_0 G).1 := ⟨mo_aload _, mo_getA _ _, trivial⟩
def jb_63_7 (G : jx_Gv) : jx_B := ([], .inr (.inr (.inr (.inr jr_i))))
theorem jm_63_7 (G : jx_Gv) : jx_mo (jb_63_7 G).1 := trivial
def jbs_63 (G : jx_Gv) : List (Nat × jx_B) := [(0, jb_63_0 G), (7, jb_63_7 G)]
theorem jms_63 (G : jx_Gv) : ∀ e ∈ jbs_63 G, jx_mo e.2.1 := List.forall_mem_cons.mpr ⟨jm_63_0 G, List.forall_mem_cons.mpr ⟨jm_63_7 G, fun _ h => absurd h List.not_mem_nil⟩⟩
def jb_64_0 (G : jx_Gv) : jx_B := ([jo_iload 1, jo_const (.int (1 : Int32))], .inl (jc_ii (fun x y => decide (x < y)), 27, 5))
theorem jm_64_0 (G : jx_Gv) : jx_mo (jb_64_0 G).1 := ⟨mo_iload _, mo_const _, trivial⟩
def jb_64_5 (G : jx_Gv) : jx_B := ([jo_iload 1, jo_aload 0, jo_getI 7 10], .inl (jc_ii (fun x y => decide (y < x)), 27, 13))
theorem jm_64_5 (G : jx_Gv) : jx_mo (jb_64_5 G).1 := ⟨mo_iload _, mo_aload _, mo_getI _ _, trivial⟩
def jb_64_13 (G : jx_Gv) : jx_B := ([jo_iload 2], .inl (jc_i (fun x => decide (x < 0)), 27, 17))
theorem jm_64_13 (G : jx_Gv) : jx_mo (jb_64_13 G).1 := ⟨mo_iload _, trivial⟩
def jb_64_17 (G : jx_Gv) : jx_B := ([jo_iload 2, jo_aload 0, jo_getA 7 8, jo_iload 1, jo_iald 0], .inl (jc_ii (fun x y => decide (x < y)), 29, 27))
theorem jm_64_17 (G : jx_Gv) : jx_mo (jb_64_17 G).1 := ⟨mo_iload _, mo_aload _, mo_getA _ _, mo_iload _, mo_iald _, trivial⟩
def jb_64_27 (G : jx_Gv) : jx_B := ([jo_const (.int (0 : Int32))], .inr (.inr (.inr (.inr jr_i))))
theorem jm_64_27 (G : jx_Gv) : jx_mo (jb_64_27 G).1 := ⟨mo_const _, trivial⟩
def jb_64_29 (G : jx_Gv) : jx_B := ([jo_aload 0, jo_getA 7 1, jo_aload 0, jo_getA 7 7, jo_iload 1, jo_iald 0, jo_iload 2, jo_ii (· + ·), jo_iald 0], .inr (.inr (.inr (.inr jr_i))))
theorem jm_64_29 (G : jx_Gv) : jx_mo (jb_64_29 G).1 := ⟨mo_aload _, mo_getA _ _, mo_aload _, mo_getA _ _, mo_iload _, mo_iald _, mo_iload _, mo_ii _, mo_iald _, trivial⟩
def jbs_64 (G : jx_Gv) : List (Nat × jx_B) := [(0, jb_64_0 G), (5, jb_64_5 G), (13, jb_64_13 G), (17, jb_64_17 G), (27, jb_64_27 G), (29, jb_64_29 G)]
theorem jms_64 (G : jx_Gv) : ∀ e ∈ jbs_64 G, jx_mo e.2.1 := List.forall_mem_cons.mpr ⟨jm_64_0 G, List.forall_mem_cons.mpr ⟨jm_64_5 G, List.forall_mem_cons.mpr ⟨jm_64_13 G, List.forall_mem_cons.mpr ⟨jm_64_17 G, List.forall_mem_cons.mpr ⟨jm_64_27 G, List.forall_mem_cons.mpr ⟨jm_64_29 G, fun _ h => absurd h List.not_mem_nil⟩⟩⟩⟩⟩⟩
def jb_65_0 (G : jx_Gv) : jx_B := ([jo_aload 0, jo_getA 7 5, jo_iload 1, jo_iald 0, jo_iload 2, jo_ii (· &&& ·)], .inl (jc_i (fun x => decide (x = 0)), 30, 11))
theorem jm_65_0 (G : jx_Gv) : jx_mo (jb_65_0 G).1 := ⟨mo_aload _, mo_getA _ _, mo_iload _, mo_iald _, mo_iload _, mo_ii _, trivial⟩
def jb_65_11 (G : jx_Gv) : jx_B := ([jo_iload 3, jo_const (.int (-1 : Int32))], .inl (jc_ii (fun x y => decide (x = y)), 26, 16))
theorem jm_65_11 (G : jx_Gv) : jx_mo (jb_65_11 G).1 := ⟨mo_iload _, mo_const _, trivial⟩
def jb_65_16 (G : jx_Gv) : jx_B := ([jo_aload 0, jo_getA 7 6, jo_iload 1, jo_iald 0, jo_iload 3], .inl (jc_ii (fun x y => decide (¬ x = y)), 30, 26))
theorem jm_65_16 (G : jx_Gv) : jx_mo (jb_65_16 G).1 := ⟨mo_aload _, mo_getA _ _, mo_iload _, mo_iald _, mo_iload _, trivial⟩
def jb_65_26 (G : jx_Gv) : jx_B := ([jo_const (.int (1 : Int32))], .inr (.inl 31))
theorem jm_65_26 (G : jx_Gv) : jx_mo (jb_65_26 G).1 := ⟨mo_const _, trivial⟩
def jb_65_30 (G : jx_Gv) : jx_B := ([jo_const (.int (0 : Int32))], .inr (.inl 31))
theorem jm_65_30 (G : jx_Gv) : jx_mo (jb_65_30 G).1 := ⟨mo_const _, trivial⟩
def jb_65_31 (G : jx_Gv) : jx_B := ([], .inr (.inr (.inr (.inr jr_z))))
theorem jm_65_31 (G : jx_Gv) : jx_mo (jb_65_31 G).1 := trivial
def jbs_65 (G : jx_Gv) : List (Nat × jx_B) := [(0, jb_65_0 G), (11, jb_65_11 G), (16, jb_65_16 G), (26, jb_65_26 G), (30, jb_65_30 G), (31, jb_65_31 G)]
theorem jms_65 (G : jx_Gv) : ∀ e ∈ jbs_65 G, jx_mo e.2.1 := List.forall_mem_cons.mpr ⟨jm_65_0 G, List.forall_mem_cons.mpr ⟨jm_65_11 G, List.forall_mem_cons.mpr ⟨jm_65_16 G, List.forall_mem_cons.mpr ⟨jm_65_26 G, List.forall_mem_cons.mpr ⟨jm_65_30 G, List.forall_mem_cons.mpr ⟨jm_65_31 G, fun _ h => absurd h List.not_mem_nil⟩⟩⟩⟩⟩⟩
def jb_66_0 (G : jx_Gv) : jx_B := ([jo_const (.int (1 : Int32)), jo_istore 4], .inr (.inl 3))
theorem jm_66_0 (G : jx_Gv) : jx_mo (jb_66_0 G).1 := ⟨mo_const _, mo_istore _, trivial⟩
def jb_66_3 (G : jx_Gv) : jx_B := ([jo_iload 4, jo_aload 0, jo_getI 7 10], .inl (jc_ii (fun x y => decide (y < x)), 43, 12))
theorem jm_66_3 (G : jx_Gv) : jx_mo (jb_66_3 G).1 := ⟨mo_iload _, mo_aload _, mo_getI _ _, trivial⟩
def jb_66_12 (G : jx_Gv) : jx_B := ([jo_aload 0, jo_iload 4, jo_iload 1, jo_iload 2], .inr (.inr (.inr (.inl (65, 4, 20, some 7)))))
theorem jm_66_12 (G : jx_Gv) : jx_mo (jb_66_12 G).1 := ⟨mo_aload _, mo_iload _, mo_iload _, mo_iload _, trivial⟩
def jb_66_20 (G : jx_Gv) : jx_B := ([], .inl (jc_i (fun x => decide (x = 0)), 37, 23))
theorem jm_66_20 (G : jx_Gv) : jx_mo (jb_66_20 G).1 := trivial
def jb_66_23 (G : jx_Gv) : jx_B := ([jo_aload 0, jo_iload 4, jo_const (.int (1 : Int32))], .inr (.inr (.inr (.inl (64, 3, 30, some 7)))))
theorem jm_66_23 (G : jx_Gv) : jx_mo (jb_66_23 G).1 := ⟨mo_aload _, mo_iload _, mo_const _, trivial⟩
def jb_66_30 (G : jx_Gv) : jx_B := ([jo_iload 3], .inl (jc_ii (fun x y => decide (¬ x = y)), 37, 34))
theorem jm_66_30 (G : jx_Gv) : jx_mo (jb_66_30 G).1 := ⟨mo_iload _, trivial⟩
def jb_66_34 (G : jx_Gv) : jx_B := ([jo_iload 4], .inr (.inr (.inr (.inr jr_i))))
theorem jm_66_34 (G : jx_Gv) : jx_mo (jb_66_34 G).1 := ⟨mo_iload _, trivial⟩
def jb_66_37 (G : jx_Gv) : jx_B := ([jo_iinc 4 (1 : Int32)], .inr (.inl 3))
theorem jm_66_37 (G : jx_Gv) : jx_mo (jb_66_37 G).1 := ⟨mo_iinc _ _, trivial⟩
def jb_66_43 (G : jx_Gv) : jx_B := ([jo_const (.int (0 : Int32))], .inr (.inr (.inr (.inr jr_i))))
theorem jm_66_43 (G : jx_Gv) : jx_mo (jb_66_43 G).1 := ⟨mo_const _, trivial⟩
def jbs_66 (G : jx_Gv) : List (Nat × jx_B) := [(0, jb_66_0 G), (3, jb_66_3 G), (12, jb_66_12 G), (20, jb_66_20 G), (23, jb_66_23 G), (30, jb_66_30 G), (34, jb_66_34 G), (37, jb_66_37 G), (43, jb_66_43 G)]
theorem jms_66 (G : jx_Gv) : ∀ e ∈ jbs_66 G, jx_mo e.2.1 := List.forall_mem_cons.mpr ⟨jm_66_0 G, List.forall_mem_cons.mpr ⟨jm_66_3 G, List.forall_mem_cons.mpr ⟨jm_66_12 G, List.forall_mem_cons.mpr ⟨jm_66_20 G, List.forall_mem_cons.mpr ⟨jm_66_23 G, List.forall_mem_cons.mpr ⟨jm_66_30 G, List.forall_mem_cons.mpr ⟨jm_66_34 G, List.forall_mem_cons.mpr ⟨jm_66_37 G, List.forall_mem_cons.mpr ⟨jm_66_43 G, fun _ h => absurd h List.not_mem_nil⟩⟩⟩⟩⟩⟩⟩⟩⟩
def jb_67_0 (G : jx_Gv) : jx_B := ([jo_const (.int (1 : Int32)), jo_istore 1], .inr (.inl 2))
theorem jm_67_0 (G : jx_Gv) : jx_mo (jb_67_0 G).1 := ⟨mo_const _, mo_istore _, trivial⟩
def jb_67_2 (G : jx_Gv) : jx_B := ([jo_iload 1, jo_aload 0, jo_getI 7 10], .inl (jc_ii (fun x y => decide (y < x)), 138, 10))
theorem jm_67_2 (G : jx_Gv) : jx_mo (jb_67_2 G).1 := ⟨mo_iload _, mo_aload _, mo_getI _ _, trivial⟩
def jb_67_10 (G : jx_Gv) : jx_B := ([jo_aload 0, jo_getA 7 5, jo_iload 1, jo_iald 0, jo_istore 2, jo_iload 2, jo_const (.int (2 : Int32))], .inl (jc_ii (fun x y => decide (¬ x = y)), 44, 22))
theorem jm_67_10 (G : jx_Gv) : jx_mo (jb_67_10 G).1 := ⟨mo_aload _, mo_getA _ _, mo_iload _, mo_iald _, mo_istore _, mo_iload _, mo_const _, trivial⟩
def jb_67_22 (G : jx_Gv) : jx_B := ([jo_aload 0, jo_getA 7 9, jo_iload 1, jo_aload 0, jo_const (.int (1 : Int32)), jo_const (.int (0 : Int32)), jo_aload 0, jo_iload 1, jo_const (.int (6 : Int32))], .inr (.inr (.inr (.inl (64, 3, 37, some 7)))))
theorem jm_67_22 (G : jx_Gv) : jx_mo (jb_67_22 G).1 := ⟨mo_aload _, mo_getA _ _, mo_iload _, mo_aload _, mo_const _, mo_const _, mo_aload _, mo_iload _, mo_const _, trivial⟩
def jb_67_37 (G : jx_Gv) : jx_B := ([], .inr (.inr (.inr (.inl (66, 4, 40, some 7)))))
theorem jm_67_37 (G : jx_Gv) : jx_mo (jb_67_37 G).1 := trivial
def jb_67_40 (G : jx_Gv) : jx_B := ([jo_iast 0], .inr (.inl 132))
theorem jm_67_40 (G : jx_Gv) : jx_mo (jb_67_40 G).1 := ⟨mo_iast _, trivial⟩
def jb_67_44 (G : jx_Gv) : jx_B := ([jo_iload 2, jo_const (.int (8 : Int32))], .inl (jc_ii (fun x y => decide (x = y)), 57, 50))
theorem jm_67_44 (G : jx_Gv) : jx_mo (jb_67_44 G).1 := ⟨mo_iload _, mo_const _, trivial⟩
def jb_67_50 (G : jx_Gv) : jx_B := ([jo_iload 2, jo_const (.int (128 : Int32))], .inl (jc_ii (fun x y => decide (¬ x = y)), 78, 57))
theorem jm_67_50 (G : jx_Gv) : jx_mo (jb_67_50 G).1 := ⟨mo_iload _, mo_const _, trivial⟩
def jb_67_57 (G : jx_Gv) : jx_B := ([jo_aload 0, jo_getA 7 9, jo_iload 1, jo_aload 0, jo_const (.int (2 : Int32)), jo_const (.int (0 : Int32)), jo_aload 0, jo_iload 1, jo_const (.int (3 : Int32))], .inr (.inr (.inr (.inl (64, 3, 71, some 7)))))
theorem jm_67_57 (G : jx_Gv) : jx_mo (jb_67_57 G).1 := ⟨mo_aload _, mo_getA _ _, mo_iload _, mo_aload _, mo_const _, mo_const _, mo_aload _, mo_iload _, mo_const _, trivial⟩
def jb_67_71 (G : jx_Gv) : jx_B := ([], .inr (.inr (.inr (.inl (66, 4, 74, some 7)))))
theorem jm_67_71 (G : jx_Gv) : jx_mo (jb_67_71 G).1 := trivial
def jb_67_74 (G : jx_Gv) : jx_B := ([jo_iast 0], .inr (.inl 132))
theorem jm_67_74 (G : jx_Gv) : jx_mo (jb_67_74 G).1 := ⟨mo_iast _, trivial⟩
def jb_67_78 (G : jx_Gv) : jx_B := ([jo_iload 2, jo_const (.int (96 : Int32)), jo_ii (· &&& ·)], .inl (jc_i (fun x => decide (x = 0)), 106, 85))
theorem jm_67_78 (G : jx_Gv) : jx_mo (jb_67_78 G).1 := ⟨mo_iload _, mo_const _, mo_ii _, trivial⟩
def jb_67_85 (G : jx_Gv) : jx_B := ([jo_aload 0, jo_getA 7 9, jo_iload 1, jo_aload 0, jo_const (.int (4 : Int32)), jo_const (.int (0 : Int32)), jo_aload 0, jo_iload 1, jo_const (.int (3 : Int32))], .inr (.inr (.inr (.inl (64, 3, 99, some 7)))))
theorem jm_67_85 (G : jx_Gv) : jx_mo (jb_67_85 G).1 := ⟨mo_aload _, mo_getA _ _, mo_iload _, mo_aload _, mo_const _, mo_const _, mo_aload _, mo_iload _, mo_const _, trivial⟩
def jb_67_99 (G : jx_Gv) : jx_B := ([], .inr (.inr (.inr (.inl (66, 4, 102, some 7)))))
theorem jm_67_99 (G : jx_Gv) : jx_mo (jb_67_99 G).1 := trivial
def jb_67_102 (G : jx_Gv) : jx_B := ([jo_iast 0], .inr (.inl 132))
theorem jm_67_102 (G : jx_Gv) : jx_mo (jb_67_102 G).1 := ⟨mo_iast _, trivial⟩
def jb_67_106 (G : jx_Gv) : jx_B := ([jo_iload 2, jo_const (.int (65536 : Int32))], .inl (jc_ii (fun x y => decide (¬ x = y)), 132, 112))
theorem jm_67_106 (G : jx_Gv) : jx_mo (jb_67_106 G).1 := ⟨mo_iload _, mo_const _, trivial⟩
def jb_67_112 (G : jx_Gv) : jx_B := ([jo_aload 0, jo_getA 7 9, jo_iload 1, jo_aload 0, jo_const (.int (8208 : Int32)), jo_const (.int (0 : Int32)), jo_aload 0, jo_iload 1, jo_const (.int (3 : Int32))], .inr (.inr (.inr (.inl (64, 3, 128, some 7)))))
theorem jm_67_112 (G : jx_Gv) : jx_mo (jb_67_112 G).1 := ⟨mo_aload _, mo_getA _ _, mo_iload _, mo_aload _, mo_const _, mo_const _, mo_aload _, mo_iload _, mo_const _, trivial⟩
def jb_67_128 (G : jx_Gv) : jx_B := ([], .inr (.inr (.inr (.inl (66, 4, 131, some 7)))))
theorem jm_67_128 (G : jx_Gv) : jx_mo (jb_67_128 G).1 := trivial
def jb_67_131 (G : jx_Gv) : jx_B := ([jo_iast 0], .inr (.inl 132))
theorem jm_67_131 (G : jx_Gv) : jx_mo (jb_67_131 G).1 := ⟨mo_iast _, trivial⟩
def jb_67_132 (G : jx_Gv) : jx_B := ([jo_iinc 1 (1 : Int32)], .inr (.inl 2))
theorem jm_67_132 (G : jx_Gv) : jx_mo (jb_67_132 G).1 := ⟨mo_iinc _ _, trivial⟩
def jb_67_138 (G : jx_Gv) : jx_B := ([], .inr (.inr (.inr (.inr jr_v))))
theorem jm_67_138 (G : jx_Gv) : jx_mo (jb_67_138 G).1 := trivial
def jbs_67 (G : jx_Gv) : List (Nat × jx_B) := [(0, jb_67_0 G), (2, jb_67_2 G), (10, jb_67_10 G), (22, jb_67_22 G), (37, jb_67_37 G), (40, jb_67_40 G), (44, jb_67_44 G), (50, jb_67_50 G), (57, jb_67_57 G), (71, jb_67_71 G), (74, jb_67_74 G), (78, jb_67_78 G), (85, jb_67_85 G), (99, jb_67_99 G), (102, jb_67_102 G), (106, jb_67_106 G), (112, jb_67_112 G), (128, jb_67_128 G), (131, jb_67_131 G), (132, jb_67_132 G), (138, jb_67_138 G)]
theorem jms_67 (G : jx_Gv) : ∀ e ∈ jbs_67 G, jx_mo e.2.1 := List.forall_mem_cons.mpr ⟨jm_67_0 G, List.forall_mem_cons.mpr ⟨jm_67_2 G, List.forall_mem_cons.mpr ⟨jm_67_10 G, List.forall_mem_cons.mpr ⟨jm_67_22 G, List.forall_mem_cons.mpr ⟨jm_67_37 G, List.forall_mem_cons.mpr ⟨jm_67_40 G, List.forall_mem_cons.mpr ⟨jm_67_44 G, List.forall_mem_cons.mpr ⟨jm_67_50 G, List.forall_mem_cons.mpr ⟨jm_67_57 G, List.forall_mem_cons.mpr ⟨jm_67_71 G, List.forall_mem_cons.mpr ⟨jm_67_74 G, List.forall_mem_cons.mpr ⟨jm_67_78 G, List.forall_mem_cons.mpr ⟨jm_67_85 G, List.forall_mem_cons.mpr ⟨jm_67_99 G, List.forall_mem_cons.mpr ⟨jm_67_102 G, List.forall_mem_cons.mpr ⟨jm_67_106 G, List.forall_mem_cons.mpr ⟨jm_67_112 G, List.forall_mem_cons.mpr ⟨jm_67_128 G, List.forall_mem_cons.mpr ⟨jm_67_131 G, List.forall_mem_cons.mpr ⟨jm_67_132 G, List.forall_mem_cons.mpr ⟨jm_67_138 G, fun _ h => absurd h List.not_mem_nil⟩⟩⟩⟩⟩⟩⟩⟩⟩⟩⟩⟩⟩⟩⟩⟩⟩⟩⟩⟩⟩
def jb_68_0 (G : jx_Gv) : jx_B := ([jo_const (.int (0 : Int32)), jo_istore 4, jo_const (.int (1 : Int32)), jo_istore 5], .inr (.inl 6))
theorem jm_68_0 (G : jx_Gv) : jx_mo (jb_68_0 G).1 := ⟨mo_const _, mo_istore _, mo_const _, mo_istore _, trivial⟩
def jb_68_6 (G : jx_Gv) : jx_B := ([jo_iload 5, jo_iload 1], .inl (jc_ii (fun x y => decide (y < x)), 41, 12))
theorem jm_68_6 (G : jx_Gv) : jx_mo (jb_68_6 G).1 := ⟨mo_iload _, mo_iload _, trivial⟩
def jb_68_12 (G : jx_Gv) : jx_B := ([jo_iload 5, jo_aload 0, jo_getI 7 10], .inl (jc_ii (fun x y => decide (y < x)), 41, 21))
theorem jm_68_12 (G : jx_Gv) : jx_mo (jb_68_12 G).1 := ⟨mo_iload _, mo_aload _, mo_getI _ _, trivial⟩
def jb_68_21 (G : jx_Gv) : jx_B := ([jo_aload 0, jo_iload 5, jo_iload 2, jo_iload 3], .inr (.inr (.inr (.inl (65, 4, 29, some 7)))))
theorem jm_68_21 (G : jx_Gv) : jx_mo (jb_68_21 G).1 := ⟨mo_aload _, mo_iload _, mo_iload _, mo_iload _, trivial⟩
def jb_68_29 (G : jx_Gv) : jx_B := ([], .inl (jc_i (fun x => decide (x = 0)), 35, 32))
theorem jm_68_29 (G : jx_Gv) : jx_mo (jb_68_29 G).1 := trivial
def jb_68_32 (G : jx_Gv) : jx_B := ([jo_iinc 4 (1 : Int32)], .inr (.inl 35))
theorem jm_68_32 (G : jx_Gv) : jx_mo (jb_68_32 G).1 := ⟨mo_iinc _ _, trivial⟩
def jb_68_35 (G : jx_Gv) : jx_B := ([jo_iinc 5 (1 : Int32)], .inr (.inl 6))
theorem jm_68_35 (G : jx_Gv) : jx_mo (jb_68_35 G).1 := ⟨mo_iinc _ _, trivial⟩
def jb_68_41 (G : jx_Gv) : jx_B := ([jo_iload 4], .inr (.inr (.inr (.inr jr_i))))
theorem jm_68_41 (G : jx_Gv) : jx_mo (jb_68_41 G).1 := ⟨mo_iload _, trivial⟩
def jbs_68 (G : jx_Gv) : List (Nat × jx_B) := [(0, jb_68_0 G), (6, jb_68_6 G), (12, jb_68_12 G), (21, jb_68_21 G), (29, jb_68_29 G), (32, jb_68_32 G), (35, jb_68_35 G), (41, jb_68_41 G)]
theorem jms_68 (G : jx_Gv) : ∀ e ∈ jbs_68 G, jx_mo e.2.1 := List.forall_mem_cons.mpr ⟨jm_68_0 G, List.forall_mem_cons.mpr ⟨jm_68_6 G, List.forall_mem_cons.mpr ⟨jm_68_12 G, List.forall_mem_cons.mpr ⟨jm_68_21 G, List.forall_mem_cons.mpr ⟨jm_68_29 G, List.forall_mem_cons.mpr ⟨jm_68_32 G, List.forall_mem_cons.mpr ⟨jm_68_35 G, List.forall_mem_cons.mpr ⟨jm_68_41 G, fun _ h => absurd h List.not_mem_nil⟩⟩⟩⟩⟩⟩⟩⟩
def jb_69_0 (G : jx_Gv) : jx_B := ([jo_aload 0, jo_aload 0, jo_getI 7 10, jo_iload 1, jo_iload 2], .inr (.inr (.inr (.inl (68, 4, 10, some 7)))))
theorem jm_69_0 (G : jx_Gv) : jx_mo (jb_69_0 G).1 := ⟨mo_aload _, mo_aload _, mo_getI _ _, mo_iload _, mo_iload _, trivial⟩
def jb_69_10 (G : jx_Gv) : jx_B := ([], .inr (.inr (.inr (.inr jr_i))))
theorem jm_69_10 (G : jx_Gv) : jx_mo (jb_69_10 G).1 := trivial
def jbs_69 (G : jx_Gv) : List (Nat × jx_B) := [(0, jb_69_0 G), (10, jb_69_10 G)]
theorem jms_69 (G : jx_Gv) : ∀ e ∈ jbs_69 G, jx_mo e.2.1 := List.forall_mem_cons.mpr ⟨jm_69_0 G, List.forall_mem_cons.mpr ⟨jm_69_10 G, fun _ h => absurd h List.not_mem_nil⟩⟩
def jb_70_0 (G : jx_Gv) : jx_B := ([jo_aload 0], .inr (.inr (.inr (.inl (21, 1, 4, some 0)))))
theorem jm_70_0 (G : jx_Gv) : jx_mo (jb_70_0 G).1 := ⟨mo_aload _, trivial⟩
def jb_70_4 (G : jx_Gv) : jx_B := ([jo_istore 1, jo_aload 0, jo_iload 1], .inr (.inr (.inr (.inl (23, 2, 10, some 0)))))
theorem jm_70_4 (G : jx_Gv) : jx_mo (jb_70_4 G).1 := ⟨mo_istore _, mo_aload _, mo_iload _, trivial⟩
def jb_70_10 (G : jx_Gv) : jx_B := ([jo_astore 2, jo_aload 2], .inl (jc_nonn, 18, 15))
theorem jm_70_10 (G : jx_Gv) : jx_mo (jb_70_10 G).1 := ⟨mo_astore _, mo_aload _, trivial⟩
def jb_70_15 (G : jx_Gv) : jx_B := ([jo_const (.int (-4 : Int32))], .inr (.inr (.inr (.inr jr_i))))
theorem jm_70_15 (G : jx_Gv) : jx_mo (jb_70_15 G).1 := ⟨mo_const _, trivial⟩
def jb_70_18 (G : jx_Gv) : jx_B := ([jo_aload 0, jo_getA 0 1, jo_aload 2], .inr (.inr (.inr (.inl (60, 2, 26, some 4)))))
theorem jm_70_18 (G : jx_Gv) : jx_mo (jb_70_18 G).1 := ⟨mo_aload _, mo_getA _ _, mo_aload _, trivial⟩
def jb_70_26 (G : jx_Gv) : jx_B := ([jo_istore 3, jo_aload 0, jo_getA 0 0], .inr (.inr (.inr (.inl (61, 1, 34, some 1)))))
theorem jm_70_26 (G : jx_Gv) : jx_mo (jb_70_26 G).1 := ⟨mo_istore _, mo_aload _, mo_getA _ _, trivial⟩
def jb_70_34 (G : jx_Gv) : jx_B := ([jo_iload 3], .inl (jc_i (fun x => decide (¬ x = 0)), 47, 38))
theorem jm_70_34 (G : jx_Gv) : jx_mo (jb_70_34 G).1 := ⟨mo_iload _, trivial⟩
def jb_70_38 (G : jx_Gv) : jx_B := ([jo_aload 0, jo_getA 0 1], .inr (.inr (.inr (.inl (63, 1, 45, some 4)))))
theorem jm_70_38 (G : jx_Gv) : jx_mo (jb_70_38 G).1 := ⟨mo_aload _, mo_getA _ _, trivial⟩
def jb_70_45 (G : jx_Gv) : jx_B := ([jo_i1 (fun x => -x)], .inr (.inr (.inr (.inr jr_i))))
theorem jm_70_45 (G : jx_Gv) : jx_mo (jb_70_45 G).1 := ⟨mo_i1 _, trivial⟩
def jb_70_47 (G : jx_Gv) : jx_B := ([jo_aload 2], .inr (.inr (.inr (.inl (67, 1, 51, some 7)))))
theorem jm_70_47 (G : jx_Gv) : jx_mo (jb_70_47 G).1 := ⟨mo_aload _, trivial⟩
def jb_70_51 (G : jx_Gv) : jx_B := ([jo_aload 0, jo_iload 1, jo_putI 0 6, jo_aload 0, jo_getI 0 5, jo_const (.int (8 : Int32))], .inl (jc_ii (fun x y => decide (y ≤ x)), 75, 65))
theorem jm_70_51 (G : jx_Gv) : jx_mo (jb_70_51 G).1 := ⟨mo_aload _, mo_iload _, mo_putI _ _, mo_aload _, mo_getI _ _, mo_const _, trivial⟩
def jb_70_65 (G : jx_Gv) : jx_B := ([jo_aload 0, jo_dup, jo_getI 0 5, jo_const (.int (1 : Int32)), jo_ii (· + ·), jo_putI 0 5], .inr (.inl 75))
theorem jm_70_65 (G : jx_Gv) : jx_mo (jb_70_65 G).1 := ⟨mo_aload _, mo_dup, mo_getI _ _, mo_const _, mo_ii _, mo_putI _ _, trivial⟩
def jb_70_75 (G : jx_Gv) : jx_B := ([jo_aload 2, jo_const (.int (8208 : Int32)), jo_const (.int (0 : Int32))], .inr (.inr (.inr (.inl (69, 3, 83, some 7)))))
theorem jm_70_75 (G : jx_Gv) : jx_mo (jb_70_75 G).1 := ⟨mo_aload _, mo_const _, mo_const _, trivial⟩
def jb_70_83 (G : jx_Gv) : jx_B := ([], .inr (.inr (.inr (.inr jr_i))))
theorem jm_70_83 (G : jx_Gv) : jx_mo (jb_70_83 G).1 := trivial
def jbs_70 (G : jx_Gv) : List (Nat × jx_B) := [(0, jb_70_0 G), (4, jb_70_4 G), (10, jb_70_10 G), (15, jb_70_15 G), (18, jb_70_18 G), (26, jb_70_26 G), (34, jb_70_34 G), (38, jb_70_38 G), (45, jb_70_45 G), (47, jb_70_47 G), (51, jb_70_51 G), (65, jb_70_65 G), (75, jb_70_75 G), (83, jb_70_83 G)]
theorem jms_70 (G : jx_Gv) : ∀ e ∈ jbs_70 G, jx_mo e.2.1 := List.forall_mem_cons.mpr ⟨jm_70_0 G, List.forall_mem_cons.mpr ⟨jm_70_4 G, List.forall_mem_cons.mpr ⟨jm_70_10 G, List.forall_mem_cons.mpr ⟨jm_70_15 G, List.forall_mem_cons.mpr ⟨jm_70_18 G, List.forall_mem_cons.mpr ⟨jm_70_26 G, List.forall_mem_cons.mpr ⟨jm_70_34 G, List.forall_mem_cons.mpr ⟨jm_70_38 G, List.forall_mem_cons.mpr ⟨jm_70_45 G, List.forall_mem_cons.mpr ⟨jm_70_47 G, List.forall_mem_cons.mpr ⟨jm_70_51 G, List.forall_mem_cons.mpr ⟨jm_70_65 G, List.forall_mem_cons.mpr ⟨jm_70_75 G, List.forall_mem_cons.mpr ⟨jm_70_83 G, fun _ h => absurd h List.not_mem_nil⟩⟩⟩⟩⟩⟩⟩⟩⟩⟩⟩⟩⟩⟩
def jb_71_0 (G : jx_Gv) : jx_B := ([jo_aload 0, jo_getI 8 2, jo_aload 0, jo_getI 8 0], .inl (jc_ii (fun x y => decide (y ≤ x)), 23, 11))
theorem jm_71_0 (G : jx_Gv) : jx_mo (jb_71_0 G).1 := ⟨mo_aload _, mo_getI _ _, mo_aload _, mo_getI _ _, trivial⟩
def jb_71_11 (G : jx_Gv) : jx_B := ([jo_aload 0, jo_getA 8 1, jo_aload 0, jo_getI 8 2, jo_iald 0], .inr (.inl 24))
theorem jm_71_11 (G : jx_Gv) : jx_mo (jb_71_11 G).1 := ⟨mo_aload _, mo_getA _ _, mo_aload _, mo_getI _ _, mo_iald _, trivial⟩
def jb_71_23 (G : jx_Gv) : jx_B := ([jo_const (.int (-1 : Int32))], .inr (.inl 24))
theorem jm_71_23 (G : jx_Gv) : jx_mo (jb_71_23 G).1 := ⟨mo_const _, trivial⟩
def jb_71_24 (G : jx_Gv) : jx_B := ([], .inr (.inr (.inr (.inr jr_i))))
theorem jm_71_24 (G : jx_Gv) : jx_mo (jb_71_24 G).1 := trivial
def jbs_71 (G : jx_Gv) : List (Nat × jx_B) := [(0, jb_71_0 G), (11, jb_71_11 G), (23, jb_71_23 G), (24, jb_71_24 G)]
theorem jms_71 (G : jx_Gv) : ∀ e ∈ jbs_71 G, jx_mo e.2.1 := List.forall_mem_cons.mpr ⟨jm_71_0 G, List.forall_mem_cons.mpr ⟨jm_71_11 G, List.forall_mem_cons.mpr ⟨jm_71_23 G, List.forall_mem_cons.mpr ⟨jm_71_24 G, fun _ h => absurd h List.not_mem_nil⟩⟩⟩⟩
def jb_72_0 (G : jx_Gv) : jx_B := ([jo_iload 0, jo_const (.int (97 : Int32))], .inl (jc_ii (fun x y => decide (x < y)), 16, 6))
theorem jm_72_0 (G : jx_Gv) : jx_mo (jb_72_0 G).1 := ⟨mo_iload _, mo_const _, trivial⟩
def jb_72_6 (G : jx_Gv) : jx_B := ([jo_iload 0, jo_const (.int (122 : Int32))], .inl (jc_ii (fun x y => decide (y < x)), 16, 12))
theorem jm_72_6 (G : jx_Gv) : jx_mo (jb_72_6 G).1 := ⟨mo_iload _, mo_const _, trivial⟩
def jb_72_12 (G : jx_Gv) : jx_B := ([jo_const (.int (1 : Int32))], .inr (.inl 17))
theorem jm_72_12 (G : jx_Gv) : jx_mo (jb_72_12 G).1 := ⟨mo_const _, trivial⟩
def jb_72_16 (G : jx_Gv) : jx_B := ([jo_const (.int (0 : Int32))], .inr (.inl 17))
theorem jm_72_16 (G : jx_Gv) : jx_mo (jb_72_16 G).1 := ⟨mo_const _, trivial⟩
def jb_72_17 (G : jx_Gv) : jx_B := ([], .inr (.inr (.inr (.inr jr_z))))
theorem jm_72_17 (G : jx_Gv) : jx_mo (jb_72_17 G).1 := trivial
def jbs_72 (G : jx_Gv) : List (Nat × jx_B) := [(0, jb_72_0 G), (6, jb_72_6 G), (12, jb_72_12 G), (16, jb_72_16 G), (17, jb_72_17 G)]
theorem jms_72 (G : jx_Gv) : ∀ e ∈ jbs_72 G, jx_mo e.2.1 := List.forall_mem_cons.mpr ⟨jm_72_0 G, List.forall_mem_cons.mpr ⟨jm_72_6 G, List.forall_mem_cons.mpr ⟨jm_72_12 G, List.forall_mem_cons.mpr ⟨jm_72_16 G, List.forall_mem_cons.mpr ⟨jm_72_17 G, fun _ h => absurd h List.not_mem_nil⟩⟩⟩⟩⟩
def jb_73_0 (G : jx_Gv) : jx_B := ([jo_iload 0, jo_const (.int (48 : Int32))], .inl (jc_ii (fun x y => decide (x < y)), 16, 6))
theorem jm_73_0 (G : jx_Gv) : jx_mo (jb_73_0 G).1 := ⟨mo_iload _, mo_const _, trivial⟩
def jb_73_6 (G : jx_Gv) : jx_B := ([jo_iload 0, jo_const (.int (57 : Int32))], .inl (jc_ii (fun x y => decide (y < x)), 16, 12))
theorem jm_73_6 (G : jx_Gv) : jx_mo (jb_73_6 G).1 := ⟨mo_iload _, mo_const _, trivial⟩
def jb_73_12 (G : jx_Gv) : jx_B := ([jo_const (.int (1 : Int32))], .inr (.inl 17))
theorem jm_73_12 (G : jx_Gv) : jx_mo (jb_73_12 G).1 := ⟨mo_const _, trivial⟩
def jb_73_16 (G : jx_Gv) : jx_B := ([jo_const (.int (0 : Int32))], .inr (.inl 17))
theorem jm_73_16 (G : jx_Gv) : jx_mo (jb_73_16 G).1 := ⟨mo_const _, trivial⟩
def jb_73_17 (G : jx_Gv) : jx_B := ([], .inr (.inr (.inr (.inr jr_z))))
theorem jm_73_17 (G : jx_Gv) : jx_mo (jb_73_17 G).1 := trivial
def jbs_73 (G : jx_Gv) : List (Nat × jx_B) := [(0, jb_73_0 G), (6, jb_73_6 G), (12, jb_73_12 G), (16, jb_73_16 G), (17, jb_73_17 G)]
theorem jms_73 (G : jx_Gv) : ∀ e ∈ jbs_73 G, jx_mo e.2.1 := List.forall_mem_cons.mpr ⟨jm_73_0 G, List.forall_mem_cons.mpr ⟨jm_73_6 G, List.forall_mem_cons.mpr ⟨jm_73_12 G, List.forall_mem_cons.mpr ⟨jm_73_16 G, List.forall_mem_cons.mpr ⟨jm_73_17 G, fun _ h => absurd h List.not_mem_nil⟩⟩⟩⟩⟩
def jb_74_0 (G : jx_Gv) : jx_B := ([jo_const (.long (0 : Int64)), jo_lstore 3, jo_iload 2, jo_iload 1, jo_const (.int (8 : Int32)), jo_ii (· + ·)], .inl (jc_ii (fun x y => decide (y ≤ x)), 14, 10))
theorem jm_74_0 (G : jx_Gv) : jx_mo (jb_74_0 G).1 := ⟨mo_const _, mo_lstore _, mo_iload _, mo_iload _, mo_const _, mo_ii _, trivial⟩
def jb_74_10 (G : jx_Gv) : jx_B := ([jo_iload 2], .inr (.inl 18))
theorem jm_74_10 (G : jx_Gv) : jx_mo (jb_74_10 G).1 := ⟨mo_iload _, trivial⟩
def jb_74_14 (G : jx_Gv) : jx_B := ([jo_iload 1, jo_const (.int (8 : Int32)), jo_ii (· + ·)], .inr (.inl 18))
theorem jm_74_14 (G : jx_Gv) : jx_mo (jb_74_14 G).1 := ⟨mo_iload _, mo_const _, mo_ii _, trivial⟩
def jb_74_18 (G : jx_Gv) : jx_B := ([jo_const (.int (1 : Int32)), jo_ii (· - ·), jo_drop 4, jo_istore 5], .inr (.inl 22))
theorem jm_74_18 (G : jx_Gv) : jx_mo (jb_74_18 G).1 := ⟨mo_const _, mo_ii _, mo_drop _, mo_istore _, trivial⟩
def jb_74_22 (G : jx_Gv) : jx_B := ([jo_iload 5, jo_iload 1], .inl (jc_ii (fun x y => decide (x < y)), 48, 28))
theorem jm_74_22 (G : jx_Gv) : jx_mo (jb_74_22 G).1 := ⟨mo_iload _, mo_iload _, trivial⟩
def jb_74_28 (G : jx_Gv) : jx_B := ([jo_lload 3, jo_const (.int (8 : Int32)), jo_lsh, jo_aload 0, jo_getA 8 1, jo_iload 5, jo_iald 0, jo_i2l, jo_ll (· ||| ·), jo_lstore 3, jo_drop 4, jo_iinc 5 (-1 : Int32)], .inr (.inl 22))
theorem jm_74_28 (G : jx_Gv) : jx_mo (jb_74_28 G).1 := ⟨mo_lload _, mo_const _, mo_lsh, mo_aload _, mo_getA _ _, mo_iload _, mo_iald _, mo_i2l, mo_ll _, mo_lstore _, mo_drop _, mo_iinc _ _, trivial⟩
def jb_74_48 (G : jx_Gv) : jx_B := ([jo_lload 3], .inr (.inr (.inr (.inr jr_l))))
theorem jm_74_48 (G : jx_Gv) : jx_mo (jb_74_48 G).1 := ⟨mo_lload _, trivial⟩
def jbs_74 (G : jx_Gv) : List (Nat × jx_B) := [(0, jb_74_0 G), (10, jb_74_10 G), (14, jb_74_14 G), (18, jb_74_18 G), (22, jb_74_22 G), (28, jb_74_28 G), (48, jb_74_48 G)]
theorem jms_74 (G : jx_Gv) : ∀ e ∈ jbs_74 G, jx_mo e.2.1 := List.forall_mem_cons.mpr ⟨jm_74_0 G, List.forall_mem_cons.mpr ⟨jm_74_10 G, List.forall_mem_cons.mpr ⟨jm_74_14 G, List.forall_mem_cons.mpr ⟨jm_74_18 G, List.forall_mem_cons.mpr ⟨jm_74_22 G, List.forall_mem_cons.mpr ⟨jm_74_28 G, List.forall_mem_cons.mpr ⟨jm_74_48 G, fun _ h => absurd h List.not_mem_nil⟩⟩⟩⟩⟩⟩⟩
def jb_75_0 (G : jx_Gv) : jx_B := ([jo_aload 0, jo_iload 1, jo_iload 2], .inr (.inr (.inr (.inl (74, 3, 6, some 8)))))
theorem jm_75_0 (G : jx_Gv) : jx_mo (jb_75_0 G).1 := ⟨mo_aload _, mo_iload _, mo_iload _, trivial⟩
def jb_75_6 (G : jx_Gv) : jx_B := ([jo_lstore 3, jo_iload 2, jo_iload 1, jo_ii (· - ·), jo_drop 4, jo_istore 5, jo_iload 5, jo_const (.int (9 : Int32))], .inl (jc_ii (fun x y => decide (¬ x = y)), 46, 19))
theorem jm_75_6 (G : jx_Gv) : jx_mo (jb_75_6 G).1 := ⟨mo_lstore _, mo_iload _, mo_iload _, mo_ii _, mo_drop _, mo_istore _, mo_iload _, mo_const _, trivial⟩
def jb_75_19 (G : jx_Gv) : jx_B := ([jo_lload 3, jo_const (.long (7161117524010233449 : Int64)), jo_lc lg_cmp], .inl (jc_i (fun x => decide (¬ x = 0)), 44, 27))
theorem jm_75_19 (G : jx_Gv) : jx_mo (jb_75_19 G).1 := ⟨mo_lload _, mo_const _, mo_lc _, trivial⟩
def jb_75_27 (G : jx_Gv) : jx_B := ([jo_aload 0, jo_getA 8 1, jo_iload 2, jo_const (.int (1 : Int32)), jo_ii (· - ·), jo_iald 0, jo_const (.int (101 : Int32))], .inl (jc_ii (fun x y => decide (¬ x = y)), 44, 40))
theorem jm_75_27 (G : jx_Gv) : jx_mo (jb_75_27 G).1 := ⟨mo_aload _, mo_getA _ _, mo_iload _, mo_const _, mo_ii _, mo_iald _, mo_const _, trivial⟩
def jb_75_40 (G : jx_Gv) : jx_B := ([jo_const (.int (3 : Int32))], .inr (.inl 45))
theorem jm_75_40 (G : jx_Gv) : jx_mo (jb_75_40 G).1 := ⟨mo_const _, trivial⟩
def jb_75_44 (G : jx_Gv) : jx_B := ([jo_const (.int (0 : Int32))], .inr (.inl 45))
theorem jm_75_44 (G : jx_Gv) : jx_mo (jb_75_44 G).1 := ⟨mo_const _, trivial⟩
def jb_75_45 (G : jx_Gv) : jx_B := ([], .inr (.inr (.inr (.inr jr_i))))
theorem jm_75_45 (G : jx_Gv) : jx_mo (jb_75_45 G).1 := trivial
def jb_75_46 (G : jx_Gv) : jx_B := ([jo_iload 5, jo_const (.int (8 : Int32))], .inl (jc_ii (fun x y => decide (x ≤ y)), 55, 53))
theorem jm_75_46 (G : jx_Gv) : jx_mo (jb_75_46 G).1 := ⟨mo_iload _, mo_const _, trivial⟩
def jb_75_53 (G : jx_Gv) : jx_B := ([jo_const (.int (0 : Int32))], .inr (.inr (.inr (.inr jr_i))))
theorem jm_75_53 (G : jx_Gv) : jx_mo (jb_75_53 G).1 := ⟨mo_const _, trivial⟩
def jb_75_55 (G : jx_Gv) : jx_B := ([jo_lload 3, jo_const (.long (1953066613 : Int64)), jo_lc lg_cmp], .inl (jc_i (fun x => decide (¬ x = 0)), 67, 63))
theorem jm_75_55 (G : jx_Gv) : jx_mo (jb_75_55 G).1 := ⟨mo_lload _, mo_const _, mo_lc _, trivial⟩
def jb_75_63 (G : jx_Gv) : jx_B := ([jo_const (.int (1 : Int32))], .inr (.inl 247))
theorem jm_75_63 (G : jx_Gv) : jx_mo (jb_75_63 G).1 := ⟨mo_const _, trivial⟩
def jb_75_67 (G : jx_Gv) : jx_B := ([jo_lload 3, jo_const (.long (1701869940 : Int64)), jo_lc lg_cmp], .inl (jc_i (fun x => decide (¬ x = 0)), 79, 75))
theorem jm_75_67 (G : jx_Gv) : jx_mo (jb_75_67 G).1 := ⟨mo_lload _, mo_const _, mo_lc _, trivial⟩
def jb_75_75 (G : jx_Gv) : jx_B := ([jo_const (.int (2 : Int32))], .inr (.inl 247))
theorem jm_75_75 (G : jx_Gv) : jx_mo (jb_75_75 G).1 := ⟨mo_const _, trivial⟩
def jb_75_79 (G : jx_Gv) : jx_B := ([jo_lload 3, jo_const (.long (1635017060 : Int64)), jo_lc lg_cmp], .inl (jc_i (fun x => decide (¬ x = 0)), 91, 87))
theorem jm_75_79 (G : jx_Gv) : jx_mo (jb_75_79 G).1 := ⟨mo_lload _, mo_const _, mo_lc _, trivial⟩
def jb_75_87 (G : jx_Gv) : jx_B := ([jo_const (.int (4 : Int32))], .inr (.inl 247))
theorem jm_75_87 (G : jx_Gv) : jx_mo (jb_75_87 G).1 := ⟨mo_const _, trivial⟩
def jb_75_91 (G : jx_Gv) : jx_B := ([jo_lload 3, jo_const (.long (1953653104 : Int64)), jo_lc lg_cmp], .inl (jc_i (fun x => decide (¬ x = 0)), 103, 99))
theorem jm_75_91 (G : jx_Gv) : jx_mo (jb_75_91 G).1 := ⟨mo_lload _, mo_const _, mo_lc _, trivial⟩
def jb_75_99 (G : jx_Gv) : jx_B := ([jo_const (.int (5 : Int32))], .inr (.inl 247))
theorem jm_75_99 (G : jx_Gv) : jx_mo (jb_75_99 G).1 := ⟨mo_const _, trivial⟩
def jb_75_103 (G : jx_Gv) : jx_B := ([jo_lload 3, jo_const (.long (8315162691130847856 : Int64)), jo_lc lg_cmp], .inl (jc_i (fun x => decide (¬ x = 0)), 116, 111))
theorem jm_75_103 (G : jx_Gv) : jx_mo (jb_75_103 G).1 := ⟨mo_lload _, mo_const _, mo_lc _, trivial⟩
def jb_75_111 (G : jx_Gv) : jx_B := ([jo_const (.int (6 : Int32))], .inr (.inl 247))
theorem jm_75_111 (G : jx_Gv) : jx_mo (jb_75_111 G).1 := ⟨mo_const _, trivial⟩
def jb_75_116 (G : jx_Gv) : jx_B := ([jo_lload 3, jo_const (.long (8315178084276987250 : Int64)), jo_lc lg_cmp], .inl (jc_i (fun x => decide (¬ x = 0)), 129, 124))
theorem jm_75_116 (G : jx_Gv) : jx_mo (jb_75_116 G).1 := ⟨mo_lload _, mo_const _, mo_lc _, trivial⟩
def jb_75_124 (G : jx_Gv) : jx_B := ([jo_const (.int (7 : Int32))], .inr (.inl 247))
theorem jm_75_124 (G : jx_Gv) : jx_mo (jb_75_124 G).1 := ⟨mo_const _, trivial⟩
def jb_75_129 (G : jx_Gv) : jx_B := ([jo_lload 3, jo_const (.long (495806932331 : Int64)), jo_lc lg_cmp], .inl (jc_i (fun x => decide (¬ x = 0)), 142, 137))
theorem jm_75_129 (G : jx_Gv) : jx_mo (jb_75_129 G).1 := ⟨mo_lload _, mo_const _, mo_lc _, trivial⟩
def jb_75_137 (G : jx_Gv) : jx_B := ([jo_const (.int (8 : Int32))], .inr (.inl 247))
theorem jm_75_137 (G : jx_Gv) : jx_mo (jb_75_137 G).1 := ⟨mo_const _, trivial⟩
def jb_75_142 (G : jx_Gv) : jx_B := ([jo_lload 3, jo_const (.long (7239026 : Int64)), jo_lc lg_cmp], .inl (jc_i (fun x => decide (¬ x = 0)), 155, 150))
theorem jm_75_142 (G : jx_Gv) : jx_mo (jb_75_142 G).1 := ⟨mo_lload _, mo_const _, mo_lc _, trivial⟩
def jb_75_150 (G : jx_Gv) : jx_B := ([jo_const (.int (9 : Int32))], .inr (.inl 247))
theorem jm_75_150 (G : jx_Gv) : jx_mo (jb_75_150 G).1 := ⟨mo_const _, trivial⟩
def jb_75_155 (G : jx_Gv) : jx_B := ([jo_lload 3, jo_const (.long (521610294885 : Int64)), jo_lc lg_cmp], .inl (jc_i (fun x => decide (¬ x = 0)), 168, 163))
theorem jm_75_155 (G : jx_Gv) : jx_mo (jb_75_155 G).1 := ⟨mo_lload _, mo_const _, mo_lc _, trivial⟩
def jb_75_163 (G : jx_Gv) : jx_B := ([jo_const (.int (10 : Int32))], .inr (.inl 247))
theorem jm_75_163 (G : jx_Gv) : jx_mo (jb_75_163 G).1 := ⟨mo_const _, trivial⟩
def jb_75_168 (G : jx_Gv) : jx_B := ([jo_lload 3, jo_const (.long (28271 : Int64)), jo_lc lg_cmp], .inl (jc_i (fun x => decide (¬ x = 0)), 181, 176))
theorem jm_75_168 (G : jx_Gv) : jx_mo (jb_75_168 G).1 := ⟨mo_lload _, mo_const _, mo_lc _, trivial⟩
def jb_75_176 (G : jx_Gv) : jx_B := ([jo_const (.int (11 : Int32))], .inr (.inl 247))
theorem jm_75_176 (G : jx_Gv) : jx_mo (jb_75_176 G).1 := ⟨mo_const _, trivial⟩
def jb_75_181 (G : jx_Gv) : jx_B := ([jo_lload 3, jo_const (.long (495605343602 : Int64)), jo_lc lg_cmp], .inl (jc_i (fun x => decide (¬ x = 0)), 194, 189))
theorem jm_75_181 (G : jx_Gv) : jx_mo (jb_75_181 G).1 := ⟨mo_lload _, mo_const _, mo_lc _, trivial⟩
def jb_75_189 (G : jx_Gv) : jx_B := ([jo_const (.int (12 : Int32))], .inr (.inl 247))
theorem jm_75_189 (G : jx_Gv) : jx_mo (jb_75_189 G).1 := ⟨mo_const _, trivial⟩
def jb_75_194 (G : jx_Gv) : jx_B := ([jo_lload 3, jo_const (.long (126879581958775 : Int64)), jo_lc lg_cmp], .inl (jc_i (fun x => decide (¬ x = 0)), 207, 202))
theorem jm_75_194 (G : jx_Gv) : jx_mo (jb_75_194 G).1 := ⟨mo_lload _, mo_const _, mo_lc _, trivial⟩
def jb_75_202 (G : jx_Gv) : jx_B := ([jo_const (.int (13 : Int32))], .inr (.inl 247))
theorem jm_75_202 (G : jx_Gv) : jx_mo (jb_75_202 G).1 := ⟨mo_const _, trivial⟩
def jb_75_207 (G : jx_Gv) : jx_B := ([jo_lload 3, jo_const (.long (435610937463 : Int64)), jo_lc lg_cmp], .inl (jc_i (fun x => decide (¬ x = 0)), 220, 215))
theorem jm_75_207 (G : jx_Gv) : jx_mo (jb_75_207 G).1 := ⟨mo_lload _, mo_const _, mo_lc _, trivial⟩
def jb_75_215 (G : jx_Gv) : jx_B := ([jo_const (.int (14 : Int32))], .inr (.inl 247))
theorem jm_75_215 (G : jx_Gv) : jx_mo (jb_75_215 G).1 := ⟨mo_const _, trivial⟩
def jb_75_220 (G : jx_Gv) : jx_B := ([jo_lload 3, jo_const (.long (32760384594014051 : Int64)), jo_lc lg_cmp], .inl (jc_i (fun x => decide (¬ x = 0)), 233, 228))
theorem jm_75_220 (G : jx_Gv) : jx_mo (jb_75_220 G).1 := ⟨mo_lload _, mo_const _, mo_lc _, trivial⟩
def jb_75_228 (G : jx_Gv) : jx_B := ([jo_const (.int (15 : Int32))], .inr (.inl 247))
theorem jm_75_228 (G : jx_Gv) : jx_mo (jb_75_228 G).1 := ⟨mo_const _, trivial⟩
def jb_75_233 (G : jx_Gv) : jx_B := ([jo_lload 3, jo_const (.long (28532 : Int64)), jo_lc lg_cmp], .inl (jc_i (fun x => decide (¬ x = 0)), 246, 241))
theorem jm_75_233 (G : jx_Gv) : jx_mo (jb_75_233 G).1 := ⟨mo_lload _, mo_const _, mo_lc _, trivial⟩
def jb_75_241 (G : jx_Gv) : jx_B := ([jo_const (.int (16 : Int32))], .inr (.inl 247))
theorem jm_75_241 (G : jx_Gv) : jx_mo (jb_75_241 G).1 := ⟨mo_const _, trivial⟩
def jb_75_246 (G : jx_Gv) : jx_B := ([jo_const (.int (0 : Int32))], .inr (.inl 247))
theorem jm_75_246 (G : jx_Gv) : jx_mo (jb_75_246 G).1 := ⟨mo_const _, trivial⟩
def jb_75_247 (G : jx_Gv) : jx_B := ([], .inr (.inr (.inr (.inr jr_i))))
theorem jm_75_247 (G : jx_Gv) : jx_mo (jb_75_247 G).1 := trivial
def jbs_75 (G : jx_Gv) : List (Nat × jx_B) := [(0, jb_75_0 G), (6, jb_75_6 G), (19, jb_75_19 G), (27, jb_75_27 G), (40, jb_75_40 G), (44, jb_75_44 G), (45, jb_75_45 G), (46, jb_75_46 G), (53, jb_75_53 G), (55, jb_75_55 G), (63, jb_75_63 G), (67, jb_75_67 G), (75, jb_75_75 G), (79, jb_75_79 G), (87, jb_75_87 G), (91, jb_75_91 G), (99, jb_75_99 G), (103, jb_75_103 G), (111, jb_75_111 G), (116, jb_75_116 G), (124, jb_75_124 G), (129, jb_75_129 G), (137, jb_75_137 G), (142, jb_75_142 G), (150, jb_75_150 G), (155, jb_75_155 G), (163, jb_75_163 G), (168, jb_75_168 G), (176, jb_75_176 G), (181, jb_75_181 G), (189, jb_75_189 G), (194, jb_75_194 G), (202, jb_75_202 G), (207, jb_75_207 G), (215, jb_75_215 G), (220, jb_75_220 G), (228, jb_75_228 G), (233, jb_75_233 G), (241, jb_75_241 G), (246, jb_75_246 G), (247, jb_75_247 G)]
theorem jms_75 (G : jx_Gv) : ∀ e ∈ jbs_75 G, jx_mo e.2.1 := List.forall_mem_cons.mpr ⟨jm_75_0 G, List.forall_mem_cons.mpr ⟨jm_75_6 G, List.forall_mem_cons.mpr ⟨jm_75_19 G, List.forall_mem_cons.mpr ⟨jm_75_27 G, List.forall_mem_cons.mpr ⟨jm_75_40 G, List.forall_mem_cons.mpr ⟨jm_75_44 G, List.forall_mem_cons.mpr ⟨jm_75_45 G, List.forall_mem_cons.mpr ⟨jm_75_46 G, List.forall_mem_cons.mpr ⟨jm_75_53 G, List.forall_mem_cons.mpr ⟨jm_75_55 G, List.forall_mem_cons.mpr ⟨jm_75_63 G, List.forall_mem_cons.mpr ⟨jm_75_67 G, List.forall_mem_cons.mpr ⟨jm_75_75 G, List.forall_mem_cons.mpr ⟨jm_75_79 G, List.forall_mem_cons.mpr ⟨jm_75_87 G, List.forall_mem_cons.mpr ⟨jm_75_91 G, List.forall_mem_cons.mpr ⟨jm_75_99 G, List.forall_mem_cons.mpr ⟨jm_75_103 G, List.forall_mem_cons.mpr ⟨jm_75_111 G, List.forall_mem_cons.mpr ⟨jm_75_116 G, List.forall_mem_cons.mpr ⟨jm_75_124 G, List.forall_mem_cons.mpr ⟨jm_75_129 G, List.forall_mem_cons.mpr ⟨jm_75_137 G, List.forall_mem_cons.mpr ⟨jm_75_142 G, List.forall_mem_cons.mpr ⟨jm_75_150 G, List.forall_mem_cons.mpr ⟨jm_75_155 G, List.forall_mem_cons.mpr ⟨jm_75_163 G, List.forall_mem_cons.mpr ⟨jm_75_168 G, List.forall_mem_cons.mpr ⟨jm_75_176 G, List.forall_mem_cons.mpr ⟨jm_75_181 G, List.forall_mem_cons.mpr ⟨jm_75_189 G, List.forall_mem_cons.mpr ⟨jm_75_194 G, List.forall_mem_cons.mpr ⟨jm_75_202 G, List.forall_mem_cons.mpr ⟨jm_75_207 G, List.forall_mem_cons.mpr ⟨jm_75_215 G, List.forall_mem_cons.mpr ⟨jm_75_220 G, List.forall_mem_cons.mpr ⟨jm_75_228 G, List.forall_mem_cons.mpr ⟨jm_75_233 G, List.forall_mem_cons.mpr ⟨jm_75_241 G, List.forall_mem_cons.mpr ⟨jm_75_246 G, List.forall_mem_cons.mpr ⟨jm_75_247 G, fun _ h => absurd h List.not_mem_nil⟩⟩⟩⟩⟩⟩⟩⟩⟩⟩⟩⟩⟩⟩⟩⟩⟩⟩⟩⟩⟩⟩⟩⟩⟩⟩⟩⟩⟩⟩⟩⟩⟩⟩⟩⟩⟩⟩⟩⟩⟩
def jb_76_0 (G : jx_Gv) : jx_B := ([jo_const (.int (1 : Int32)), jo_istore 3], .inr (.inl 2))
theorem jm_76_0 (G : jx_Gv) : jx_mo (jb_76_0 G).1 := ⟨mo_const _, mo_istore _, trivial⟩
def jb_76_2 (G : jx_Gv) : jx_B := ([jo_iload 3, jo_aload 0, jo_getI 8 8], .inl (jc_ii (fun x y => decide (y < x)), 98, 10))
theorem jm_76_2 (G : jx_Gv) : jx_mo (jb_76_2 G).1 := ⟨mo_iload _, mo_aload _, mo_getI _ _, trivial⟩
def jb_76_10 (G : jx_Gv) : jx_B := ([jo_aload 0, jo_getA 8 9, jo_iload 3, jo_iald 0, jo_iload 2, jo_iload 1, jo_ii (· - ·)], .inl (jc_ii (fun x y => decide (¬ x = y)), 26, 22))
theorem jm_76_10 (G : jx_Gv) : jx_mo (jb_76_10 G).1 := ⟨mo_aload _, mo_getA _ _, mo_iload _, mo_iald _, mo_iload _, mo_iload _, mo_ii _, trivial⟩
def jb_76_22 (G : jx_Gv) : jx_B := ([jo_const (.int (1 : Int32))], .inr (.inl 27))
theorem jm_76_22 (G : jx_Gv) : jx_mo (jb_76_22 G).1 := ⟨mo_const _, trivial⟩
def jb_76_26 (G : jx_Gv) : jx_B := ([jo_const (.int (0 : Int32))], .inr (.inl 27))
theorem jm_76_26 (G : jx_Gv) : jx_mo (jb_76_26 G).1 := ⟨mo_const _, trivial⟩
def jb_76_27 (G : jx_Gv) : jx_B := ([jo_istore 4, jo_const (.int (0 : Int32)), jo_istore 5], .inr (.inl 32))
theorem jm_76_27 (G : jx_Gv) : jx_mo (jb_76_27 G).1 := ⟨mo_istore _, mo_const _, mo_istore _, trivial⟩
def jb_76_32 (G : jx_Gv) : jx_B := ([jo_iload 5, jo_aload 0, jo_getA 8 9, jo_iload 3, jo_iald 0], .inl (jc_ii (fun x y => decide (y ≤ x)), 85, 43))
theorem jm_76_32 (G : jx_Gv) : jx_mo (jb_76_32 G).1 := ⟨mo_iload _, mo_aload _, mo_getA _ _, mo_iload _, mo_iald _, trivial⟩
def jb_76_43 (G : jx_Gv) : jx_B := ([jo_iload 4], .inl (jc_i (fun x => decide (x = 0)), 85, 48))
theorem jm_76_43 (G : jx_Gv) : jx_mo (jb_76_43 G).1 := ⟨mo_iload _, trivial⟩
def jb_76_48 (G : jx_Gv) : jx_B := ([jo_aload 0, jo_getA 8 10, jo_const (.int (12 : Int32)), jo_iload 3, jo_ii (· * ·), jo_iload 5, jo_ii (· + ·), jo_iald 0, jo_aload 0, jo_getA 8 1, jo_iload 1, jo_iload 5, jo_ii (· + ·), jo_iald 0], .inl (jc_ii (fun x y => decide (¬ x = y)), 76, 72))
theorem jm_76_48 (G : jx_Gv) : jx_mo (jb_76_48 G).1 := ⟨mo_aload _, mo_getA _ _, mo_const _, mo_iload _, mo_ii _, mo_iload _, mo_ii _, mo_iald _, mo_aload _, mo_getA _ _, mo_iload _, mo_iload _, mo_ii _, mo_iald _, trivial⟩
def jb_76_72 (G : jx_Gv) : jx_B := ([jo_const (.int (1 : Int32))], .inr (.inl 77))
theorem jm_76_72 (G : jx_Gv) : jx_mo (jb_76_72 G).1 := ⟨mo_const _, trivial⟩
def jb_76_76 (G : jx_Gv) : jx_B := ([jo_const (.int (0 : Int32))], .inr (.inl 77))
theorem jm_76_76 (G : jx_Gv) : jx_mo (jb_76_76 G).1 := ⟨mo_const _, trivial⟩
def jb_76_77 (G : jx_Gv) : jx_B := ([jo_istore 4, jo_iinc 5 (1 : Int32)], .inr (.inl 32))
theorem jm_76_77 (G : jx_Gv) : jx_mo (jb_76_77 G).1 := ⟨mo_istore _, mo_iinc _ _, trivial⟩
def jb_76_85 (G : jx_Gv) : jx_B := ([jo_iload 4], .inl (jc_i (fun x => decide (x = 0)), 92, 90))
theorem jm_76_85 (G : jx_Gv) : jx_mo (jb_76_85 G).1 := ⟨mo_iload _, trivial⟩
def jb_76_90 (G : jx_Gv) : jx_B := ([jo_iload 3], .inr (.inr (.inr (.inr jr_i))))
theorem jm_76_90 (G : jx_Gv) : jx_mo (jb_76_90 G).1 := ⟨mo_iload _, trivial⟩
def jb_76_92 (G : jx_Gv) : jx_B := ([jo_iinc 3 (1 : Int32)], .inr (.inl 2))
theorem jm_76_92 (G : jx_Gv) : jx_mo (jb_76_92 G).1 := ⟨mo_iinc _ _, trivial⟩
def jb_76_98 (G : jx_Gv) : jx_B := ([jo_aload 0, jo_dup, jo_getI 8 8, jo_const (.int (1 : Int32)), jo_ii (· + ·), jo_putI 8 8, jo_aload 0, jo_getA 8 9, jo_aload 0, jo_getI 8 8, jo_iload 2, jo_iload 1, jo_ii (· - ·), jo_iast 0, jo_iload 1, jo_istore 3], .inr (.inl 122))
theorem jm_76_98 (G : jx_Gv) : jx_mo (jb_76_98 G).1 := ⟨mo_aload _, mo_dup, mo_getI _ _, mo_const _, mo_ii _, mo_putI _ _, mo_aload _, mo_getA _ _, mo_aload _, mo_getI _ _, mo_iload _, mo_iload _, mo_ii _, mo_iast _, mo_iload _, mo_istore _, trivial⟩
def jb_76_122 (G : jx_Gv) : jx_B := ([jo_iload 3, jo_iload 2], .inl (jc_ii (fun x y => decide (y ≤ x)), 155, 127))
theorem jm_76_122 (G : jx_Gv) : jx_mo (jb_76_122 G).1 := ⟨mo_iload _, mo_iload _, trivial⟩
def jb_76_127 (G : jx_Gv) : jx_B := ([jo_aload 0, jo_getA 8 10, jo_const (.int (12 : Int32)), jo_aload 0, jo_getI 8 8, jo_ii (· * ·), jo_iload 3, jo_ii (· + ·), jo_iload 1, jo_ii (· - ·), jo_aload 0, jo_getA 8 1, jo_iload 3, jo_iald 0, jo_iast 0, jo_iinc 3 (1 : Int32)], .inr (.inl 122))
theorem jm_76_127 (G : jx_Gv) : jx_mo (jb_76_127 G).1 := ⟨mo_aload _, mo_getA _ _, mo_const _, mo_aload _, mo_getI _ _, mo_ii _, mo_iload _, mo_ii _, mo_iload _, mo_ii _, mo_aload _, mo_getA _ _, mo_iload _, mo_iald _, mo_iast _, mo_iinc _ _, trivial⟩
def jb_76_155 (G : jx_Gv) : jx_B := ([jo_aload 0, jo_getI 8 8], .inr (.inr (.inr (.inr jr_i))))
theorem jm_76_155 (G : jx_Gv) : jx_mo (jb_76_155 G).1 := ⟨mo_aload _, mo_getI _ _, trivial⟩
def jbs_76 (G : jx_Gv) : List (Nat × jx_B) := [(0, jb_76_0 G), (2, jb_76_2 G), (10, jb_76_10 G), (22, jb_76_22 G), (26, jb_76_26 G), (27, jb_76_27 G), (32, jb_76_32 G), (43, jb_76_43 G), (48, jb_76_48 G), (72, jb_76_72 G), (76, jb_76_76 G), (77, jb_76_77 G), (85, jb_76_85 G), (90, jb_76_90 G), (92, jb_76_92 G), (98, jb_76_98 G), (122, jb_76_122 G), (127, jb_76_127 G), (155, jb_76_155 G)]
theorem jms_76 (G : jx_Gv) : ∀ e ∈ jbs_76 G, jx_mo e.2.1 := List.forall_mem_cons.mpr ⟨jm_76_0 G, List.forall_mem_cons.mpr ⟨jm_76_2 G, List.forall_mem_cons.mpr ⟨jm_76_10 G, List.forall_mem_cons.mpr ⟨jm_76_22 G, List.forall_mem_cons.mpr ⟨jm_76_26 G, List.forall_mem_cons.mpr ⟨jm_76_27 G, List.forall_mem_cons.mpr ⟨jm_76_32 G, List.forall_mem_cons.mpr ⟨jm_76_43 G, List.forall_mem_cons.mpr ⟨jm_76_48 G, List.forall_mem_cons.mpr ⟨jm_76_72 G, List.forall_mem_cons.mpr ⟨jm_76_76 G, List.forall_mem_cons.mpr ⟨jm_76_77 G, List.forall_mem_cons.mpr ⟨jm_76_85 G, List.forall_mem_cons.mpr ⟨jm_76_90 G, List.forall_mem_cons.mpr ⟨jm_76_92 G, List.forall_mem_cons.mpr ⟨jm_76_98 G, List.forall_mem_cons.mpr ⟨jm_76_122 G, List.forall_mem_cons.mpr ⟨jm_76_127 G, List.forall_mem_cons.mpr ⟨jm_76_155 G, fun _ h => absurd h List.not_mem_nil⟩⟩⟩⟩⟩⟩⟩⟩⟩⟩⟩⟩⟩⟩⟩⟩⟩⟩⟩
def jb_77_0 (G : jx_Gv) : jx_B := ([jo_aload 0], .inr (.inr (.inr (.inl (71, 1, 4, some 8)))))
theorem jm_77_0 (G : jx_Gv) : jx_mo (jb_77_0 G).1 := ⟨mo_aload _, trivial⟩
def jb_77_4 (G : jx_Gv) : jx_B := ([jo_const (.int (9 : Int32))], .inl (jc_ii (fun x y => decide (x = y)), 36, 9))
theorem jm_77_4 (G : jx_Gv) : jx_mo (jb_77_4 G).1 := ⟨mo_const _, trivial⟩
def jb_77_9 (G : jx_Gv) : jx_B := ([jo_aload 0], .inr (.inr (.inr (.inl (71, 1, 13, some 8)))))
theorem jm_77_9 (G : jx_Gv) : jx_mo (jb_77_9 G).1 := ⟨mo_aload _, trivial⟩
def jb_77_13 (G : jx_Gv) : jx_B := ([jo_const (.int (10 : Int32))], .inl (jc_ii (fun x y => decide (x = y)), 36, 18))
theorem jm_77_13 (G : jx_Gv) : jx_mo (jb_77_13 G).1 := ⟨mo_const _, trivial⟩
def jb_77_18 (G : jx_Gv) : jx_B := ([jo_aload 0], .inr (.inr (.inr (.inl (71, 1, 22, some 8)))))
theorem jm_77_18 (G : jx_Gv) : jx_mo (jb_77_18 G).1 := ⟨mo_aload _, trivial⟩
def jb_77_22 (G : jx_Gv) : jx_B := ([jo_const (.int (13 : Int32))], .inl (jc_ii (fun x y => decide (x = y)), 36, 27))
theorem jm_77_22 (G : jx_Gv) : jx_mo (jb_77_22 G).1 := ⟨mo_const _, trivial⟩
def jb_77_27 (G : jx_Gv) : jx_B := ([jo_aload 0], .inr (.inr (.inr (.inl (71, 1, 31, some 8)))))
theorem jm_77_27 (G : jx_Gv) : jx_mo (jb_77_27 G).1 := ⟨mo_aload _, trivial⟩
def jb_77_31 (G : jx_Gv) : jx_B := ([jo_const (.int (32 : Int32))], .inl (jc_ii (fun x y => decide (¬ x = y)), 68, 36))
theorem jm_77_31 (G : jx_Gv) : jx_mo (jb_77_31 G).1 := ⟨mo_const _, trivial⟩
def jb_77_36 (G : jx_Gv) : jx_B := ([jo_aload 0], .inr (.inr (.inr (.inl (71, 1, 40, some 8)))))
theorem jm_77_36 (G : jx_Gv) : jx_mo (jb_77_36 G).1 := ⟨mo_aload _, trivial⟩
def jb_77_40 (G : jx_Gv) : jx_B := ([jo_const (.int (10 : Int32))], .inl (jc_ii (fun x y => decide (¬ x = y)), 55, 45))
theorem jm_77_40 (G : jx_Gv) : jx_mo (jb_77_40 G).1 := ⟨mo_const _, trivial⟩
def jb_77_45 (G : jx_Gv) : jx_B := ([jo_aload 0, jo_dup, jo_getI 8 3, jo_const (.int (1 : Int32)), jo_ii (· + ·), jo_putI 8 3], .inr (.inl 55))
theorem jm_77_45 (G : jx_Gv) : jx_mo (jb_77_45 G).1 := ⟨mo_aload _, mo_dup, mo_getI _ _, mo_const _, mo_ii _, mo_putI _ _, trivial⟩
def jb_77_55 (G : jx_Gv) : jx_B := ([jo_aload 0, jo_dup, jo_getI 8 2, jo_const (.int (1 : Int32)), jo_ii (· + ·), jo_putI 8 2], .inr (.inl 0))
theorem jm_77_55 (G : jx_Gv) : jx_mo (jb_77_55 G).1 := ⟨mo_aload _, mo_dup, mo_getI _ _, mo_const _, mo_ii _, mo_putI _ _, trivial⟩
def jb_77_68 (G : jx_Gv) : jx_B := ([jo_aload 0, jo_aload 0, jo_getI 8 3, jo_putI 8 6, jo_aload 0, jo_getI 8 2, jo_istore 1, jo_aload 0], .inr (.inr (.inr (.inl (71, 1, 85, some 8)))))
theorem jm_77_68 (G : jx_Gv) : jx_mo (jb_77_68 G).1 := ⟨mo_aload _, mo_aload _, mo_getI _ _, mo_putI _ _, mo_aload _, mo_getI _ _, mo_istore _, mo_aload _, trivial⟩
def jb_77_85 (G : jx_Gv) : jx_B := ([jo_istore 2, jo_iload 2], .inl (jc_i (fun x => decide (0 ≤ x)), 98, 90))
theorem jm_77_85 (G : jx_Gv) : jx_mo (jb_77_85 G).1 := ⟨mo_istore _, mo_iload _, trivial⟩
def jb_77_90 (G : jx_Gv) : jx_B := ([jo_aload 0, jo_const (.int (0 : Int32)), jo_putI 8 4], .inr (.inl 387))
theorem jm_77_90 (G : jx_Gv) : jx_mo (jb_77_90 G).1 := ⟨mo_aload _, mo_const _, mo_putI _ _, trivial⟩
def jb_77_98 (G : jx_Gv) : jx_B := ([jo_iload 2], .inr (.inr (.inr (.inl (72, 1, 102, none)))))
theorem jm_77_98 (G : jx_Gv) : jx_mo (jb_77_98 G).1 := ⟨mo_iload _, trivial⟩
def jb_77_102 (G : jx_Gv) : jx_B := ([], .inl (jc_i (fun x => decide (x = 0)), 221, 105))
theorem jm_77_102 (G : jx_Gv) : jx_mo (jb_77_102 G).1 := trivial
def jb_77_105 (G : jx_Gv) : jx_B := ([jo_aload 0], .inr (.inr (.inr (.inl (71, 1, 109, some 8)))))
theorem jm_77_105 (G : jx_Gv) : jx_mo (jb_77_105 G).1 := ⟨mo_aload _, trivial⟩
def jb_77_109 (G : jx_Gv) : jx_B := ([], .inr (.inr (.inr (.inl (72, 1, 112, none)))))
theorem jm_77_109 (G : jx_Gv) : jx_mo (jb_77_109 G).1 := trivial
def jb_77_112 (G : jx_Gv) : jx_B := ([], .inl (jc_i (fun x => decide (¬ x = 0)), 125, 115))
theorem jm_77_112 (G : jx_Gv) : jx_mo (jb_77_112 G).1 := trivial
def jb_77_115 (G : jx_Gv) : jx_B := ([jo_aload 0], .inr (.inr (.inr (.inl (71, 1, 119, some 8)))))
theorem jm_77_115 (G : jx_Gv) : jx_mo (jb_77_115 G).1 := ⟨mo_aload _, trivial⟩
def jb_77_119 (G : jx_Gv) : jx_B := ([], .inr (.inr (.inr (.inl (73, 1, 122, none)))))
theorem jm_77_119 (G : jx_Gv) : jx_mo (jb_77_119 G).1 := trivial
def jb_77_122 (G : jx_Gv) : jx_B := ([], .inl (jc_i (fun x => decide (x = 0)), 138, 125))
theorem jm_77_122 (G : jx_Gv) : jx_mo (jb_77_122 G).1 := trivial
def jb_77_125 (G : jx_Gv) : jx_B := ([jo_aload 0, jo_dup, jo_getI 8 2, jo_const (.int (1 : Int32)), jo_ii (· + ·), jo_putI 8 2], .inr (.inl 105))
theorem jm_77_125 (G : jx_Gv) : jx_mo (jb_77_125 G).1 := ⟨mo_aload _, mo_dup, mo_getI _ _, mo_const _, mo_ii _, mo_putI _ _, trivial⟩
def jb_77_138 (G : jx_Gv) : jx_B := ([jo_aload 0, jo_aload 0, jo_getI 8 2, jo_iload 1, jo_ii (· - ·), jo_const (.int (12 : Int32))], .inl (jc_ii (fun x y => decide (x ≤ y)), 154, 150))
theorem jm_77_138 (G : jx_Gv) : jx_mo (jb_77_138 G).1 := ⟨mo_aload _, mo_aload _, mo_getI _ _, mo_iload _, mo_ii _, mo_const _, trivial⟩
def jb_77_150 (G : jx_Gv) : jx_B := ([jo_const (.int (0 : Int32))], .inr (.inl 163))
theorem jm_77_150 (G : jx_Gv) : jx_mo (jb_77_150 G).1 := ⟨mo_const _, trivial⟩
def jb_77_154 (G : jx_Gv) : jx_B := ([jo_aload 0, jo_iload 1, jo_aload 0, jo_getI 8 2], .inr (.inr (.inr (.inl (75, 3, 163, some 8)))))
theorem jm_77_154 (G : jx_Gv) : jx_mo (jb_77_154 G).1 := ⟨mo_aload _, mo_iload _, mo_aload _, mo_getI _ _, trivial⟩
def jb_77_163 (G : jx_Gv) : jx_B := ([jo_putI 8 5, jo_aload 0, jo_aload 0, jo_getI 8 2, jo_iload 1, jo_ii (· - ·), jo_const (.int (12 : Int32))], .inl (jc_ii (fun x y => decide (x ≤ y)), 182, 178))
theorem jm_77_163 (G : jx_Gv) : jx_mo (jb_77_163 G).1 := ⟨mo_putI _ _, mo_aload _, mo_aload _, mo_getI _ _, mo_iload _, mo_ii _, mo_const _, trivial⟩
def jb_77_178 (G : jx_Gv) : jx_B := ([jo_const (.int (5 : Int32))], .inr (.inl 194))
theorem jm_77_178 (G : jx_Gv) : jx_mo (jb_77_178 G).1 := ⟨mo_const _, trivial⟩
def jb_77_182 (G : jx_Gv) : jx_B := ([jo_aload 0, jo_getI 8 5], .inl (jc_i (fun x => decide (x ≤ 0)), 193, 189))
theorem jm_77_182 (G : jx_Gv) : jx_mo (jb_77_182 G).1 := ⟨mo_aload _, mo_getI _ _, trivial⟩
def jb_77_189 (G : jx_Gv) : jx_B := ([jo_const (.int (1 : Int32))], .inr (.inl 194))
theorem jm_77_189 (G : jx_Gv) : jx_mo (jb_77_189 G).1 := ⟨mo_const _, trivial⟩
def jb_77_193 (G : jx_Gv) : jx_B := ([jo_const (.int (2 : Int32))], .inr (.inl 194))
theorem jm_77_193 (G : jx_Gv) : jx_mo (jb_77_193 G).1 := ⟨mo_const _, trivial⟩
def jb_77_194 (G : jx_Gv) : jx_B := ([jo_putI 8 4, jo_aload 0, jo_getI 8 4, jo_const (.int (2 : Int32))], .inl (jc_ii (fun x y => decide (¬ x = y)), 387, 205))
theorem jm_77_194 (G : jx_Gv) : jx_mo (jb_77_194 G).1 := ⟨mo_putI _ _, mo_aload _, mo_getI _ _, mo_const _, trivial⟩
def jb_77_205 (G : jx_Gv) : jx_B := ([jo_aload 0, jo_aload 0, jo_iload 1, jo_aload 0, jo_getI 8 2], .inr (.inr (.inr (.inl (76, 3, 215, some 8)))))
theorem jm_77_205 (G : jx_Gv) : jx_mo (jb_77_205 G).1 := ⟨mo_aload _, mo_aload _, mo_iload _, mo_aload _, mo_getI _ _, trivial⟩
def jb_77_215 (G : jx_Gv) : jx_B := ([jo_putI 8 5], .inr (.inl 387))
theorem jm_77_215 (G : jx_Gv) : jx_mo (jb_77_215 G).1 := ⟨mo_putI _ _, trivial⟩
def jb_77_221 (G : jx_Gv) : jx_B := ([jo_iload 2], .inr (.inr (.inr (.inl (73, 1, 225, none)))))
theorem jm_77_221 (G : jx_Gv) : jx_mo (jb_77_221 G).1 := ⟨mo_iload _, trivial⟩
def jb_77_225 (G : jx_Gv) : jx_B := ([], .inl (jc_i (fun x => decide (x = 0)), 315, 228))
theorem jm_77_225 (G : jx_Gv) : jx_mo (jb_77_225 G).1 := trivial
def jb_77_228 (G : jx_Gv) : jx_B := ([jo_const (.int (0 : Int32)), jo_istore 3], .inr (.inl 230))
theorem jm_77_228 (G : jx_Gv) : jx_mo (jb_77_228 G).1 := ⟨mo_const _, mo_istore _, trivial⟩
def jb_77_230 (G : jx_Gv) : jx_B := ([jo_aload 0], .inr (.inr (.inr (.inl (71, 1, 234, some 8)))))
theorem jm_77_230 (G : jx_Gv) : jx_mo (jb_77_230 G).1 := ⟨mo_aload _, trivial⟩
def jb_77_234 (G : jx_Gv) : jx_B := ([], .inr (.inr (.inr (.inl (73, 1, 237, none)))))
theorem jm_77_234 (G : jx_Gv) : jx_mo (jb_77_234 G).1 := trivial
def jb_77_237 (G : jx_Gv) : jx_B := ([], .inl (jc_i (fun x => decide (x = 0)), 277, 240))
theorem jm_77_237 (G : jx_Gv) : jx_mo (jb_77_237 G).1 := trivial
def jb_77_240 (G : jx_Gv) : jx_B := ([jo_aload 0, jo_getI 8 2, jo_iload 1, jo_ii (· - ·), jo_const (.int (7 : Int32))], .inl (jc_ii (fun x y => decide (y ≤ x)), 277, 251))
theorem jm_77_240 (G : jx_Gv) : jx_mo (jb_77_240 G).1 := ⟨mo_aload _, mo_getI _ _, mo_iload _, mo_ii _, mo_const _, trivial⟩
def jb_77_251 (G : jx_Gv) : jx_B := ([jo_const (.int (10 : Int32)), jo_iload 3, jo_ii (· * ·), jo_aload 0], .inr (.inr (.inr (.inl (71, 1, 259, some 8)))))
theorem jm_77_251 (G : jx_Gv) : jx_mo (jb_77_251 G).1 := ⟨mo_const _, mo_iload _, mo_ii _, mo_aload _, trivial⟩
def jb_77_259 (G : jx_Gv) : jx_B := ([jo_ii (· + ·), jo_const (.int (48 : Int32)), jo_ii (· - ·), jo_istore 3, jo_aload 0, jo_dup, jo_getI 8 2, jo_const (.int (1 : Int32)), jo_ii (· + ·), jo_putI 8 2], .inr (.inl 230))
theorem jm_77_259 (G : jx_Gv) : jx_mo (jb_77_259 G).1 := ⟨mo_ii _, mo_const _, mo_ii _, mo_istore _, mo_aload _, mo_dup, mo_getI _ _, mo_const _, mo_ii _, mo_putI _ _, trivial⟩
def jb_77_277 (G : jx_Gv) : jx_B := ([jo_aload 0, jo_aload 0, jo_getI 8 2, jo_iload 1, jo_ii (· - ·), jo_const (.int (6 : Int32))], .inl (jc_ii (fun x y => decide (y < x)), 299, 289))
theorem jm_77_277 (G : jx_Gv) : jx_mo (jb_77_277 G).1 := ⟨mo_aload _, mo_aload _, mo_getI _ _, mo_iload _, mo_ii _, mo_const _, trivial⟩
def jb_77_289 (G : jx_Gv) : jx_B := ([jo_aload 0], .inr (.inr (.inr (.inl (71, 1, 293, some 8)))))
theorem jm_77_289 (G : jx_Gv) : jx_mo (jb_77_289 G).1 := ⟨mo_aload _, trivial⟩
def jb_77_293 (G : jx_Gv) : jx_B := ([], .inr (.inr (.inr (.inl (72, 1, 296, none)))))
theorem jm_77_293 (G : jx_Gv) : jx_mo (jb_77_293 G).1 := trivial
def jb_77_296 (G : jx_Gv) : jx_B := ([], .inl (jc_i (fun x => decide (x = 0)), 303, 299))
theorem jm_77_296 (G : jx_Gv) : jx_mo (jb_77_296 G).1 := trivial
def jb_77_299 (G : jx_Gv) : jx_B := ([jo_const (.int (5 : Int32))], .inr (.inl 304))
theorem jm_77_299 (G : jx_Gv) : jx_mo (jb_77_299 G).1 := ⟨mo_const _, trivial⟩
def jb_77_303 (G : jx_Gv) : jx_B := ([jo_const (.int (3 : Int32))], .inr (.inl 304))
theorem jm_77_303 (G : jx_Gv) : jx_mo (jb_77_303 G).1 := ⟨mo_const _, trivial⟩
def jb_77_304 (G : jx_Gv) : jx_B := ([jo_putI 8 4, jo_aload 0, jo_iload 3, jo_putI 8 5], .inr (.inl 387))
theorem jm_77_304 (G : jx_Gv) : jx_mo (jb_77_304 G).1 := ⟨mo_putI _ _, mo_aload _, mo_iload _, mo_putI _ _, trivial⟩
def jb_77_315 (G : jx_Gv) : jx_B := ([jo_aload 0, jo_iload 2, jo_const (.int (123 : Int32))], .inl (jc_ii (fun x y => decide (x = y)), 364, 322))
theorem jm_77_315 (G : jx_Gv) : jx_mo (jb_77_315 G).1 := ⟨mo_aload _, mo_iload _, mo_const _, trivial⟩
def jb_77_322 (G : jx_Gv) : jx_B := ([jo_iload 2, jo_const (.int (125 : Int32))], .inl (jc_ii (fun x y => decide (x = y)), 364, 328))
theorem jm_77_322 (G : jx_Gv) : jx_mo (jb_77_322 G).1 := ⟨mo_iload _, mo_const _, trivial⟩
def jb_77_328 (G : jx_Gv) : jx_B := ([jo_iload 2, jo_const (.int (59 : Int32))], .inl (jc_ii (fun x y => decide (x = y)), 364, 334))
theorem jm_77_328 (G : jx_Gv) : jx_mo (jb_77_328 G).1 := ⟨mo_iload _, mo_const _, trivial⟩
def jb_77_334 (G : jx_Gv) : jx_B := ([jo_iload 2, jo_const (.int (58 : Int32))], .inl (jc_ii (fun x y => decide (x = y)), 364, 340))
theorem jm_77_334 (G : jx_Gv) : jx_mo (jb_77_334 G).1 := ⟨mo_iload _, mo_const _, trivial⟩
def jb_77_340 (G : jx_Gv) : jx_B := ([jo_iload 2, jo_const (.int (46 : Int32))], .inl (jc_ii (fun x y => decide (x = y)), 364, 346))
theorem jm_77_340 (G : jx_Gv) : jx_mo (jb_77_340 G).1 := ⟨mo_iload _, mo_const _, trivial⟩
def jb_77_346 (G : jx_Gv) : jx_B := ([jo_iload 2, jo_const (.int (61 : Int32))], .inl (jc_ii (fun x y => decide (x = y)), 364, 352))
theorem jm_77_346 (G : jx_Gv) : jx_mo (jb_77_346 G).1 := ⟨mo_iload _, mo_const _, trivial⟩
def jb_77_352 (G : jx_Gv) : jx_B := ([jo_iload 2, jo_const (.int (47 : Int32))], .inl (jc_ii (fun x y => decide (x = y)), 364, 358))
theorem jm_77_352 (G : jx_Gv) : jx_mo (jb_77_352 G).1 := ⟨mo_iload _, mo_const _, trivial⟩
def jb_77_358 (G : jx_Gv) : jx_B := ([jo_iload 2, jo_const (.int (45 : Int32))], .inl (jc_ii (fun x y => decide (¬ x = y)), 368, 364))
theorem jm_77_358 (G : jx_Gv) : jx_mo (jb_77_358 G).1 := ⟨mo_iload _, mo_const _, trivial⟩
def jb_77_364 (G : jx_Gv) : jx_B := ([jo_const (.int (4 : Int32))], .inr (.inl 369))
theorem jm_77_364 (G : jx_Gv) : jx_mo (jb_77_364 G).1 := ⟨mo_const _, trivial⟩
def jb_77_368 (G : jx_Gv) : jx_B := ([jo_const (.int (5 : Int32))], .inr (.inl 369))
theorem jm_77_368 (G : jx_Gv) : jx_mo (jb_77_368 G).1 := ⟨mo_const _, trivial⟩
def jb_77_369 (G : jx_Gv) : jx_B := ([jo_putI 8 4, jo_aload 0, jo_iload 2, jo_putI 8 5, jo_aload 0, jo_dup, jo_getI 8 2, jo_const (.int (1 : Int32)), jo_ii (· + ·), jo_putI 8 2], .inr (.inl 387))
theorem jm_77_369 (G : jx_Gv) : jx_mo (jb_77_369 G).1 := ⟨mo_putI _ _, mo_aload _, mo_iload _, mo_putI _ _, mo_aload _, mo_dup, mo_getI _ _, mo_const _, mo_ii _, mo_putI _ _, trivial⟩
def jb_77_387 (G : jx_Gv) : jx_B := ([], .inr (.inr (.inr (.inr jr_v))))
theorem jm_77_387 (G : jx_Gv) : jx_mo (jb_77_387 G).1 := trivial
def jbs_77 (G : jx_Gv) : List (Nat × jx_B) := [(0, jb_77_0 G), (4, jb_77_4 G), (9, jb_77_9 G), (13, jb_77_13 G), (18, jb_77_18 G), (22, jb_77_22 G), (27, jb_77_27 G), (31, jb_77_31 G), (36, jb_77_36 G), (40, jb_77_40 G), (45, jb_77_45 G), (55, jb_77_55 G), (68, jb_77_68 G), (85, jb_77_85 G), (90, jb_77_90 G), (98, jb_77_98 G), (102, jb_77_102 G), (105, jb_77_105 G), (109, jb_77_109 G), (112, jb_77_112 G), (115, jb_77_115 G), (119, jb_77_119 G), (122, jb_77_122 G), (125, jb_77_125 G), (138, jb_77_138 G), (150, jb_77_150 G), (154, jb_77_154 G), (163, jb_77_163 G), (178, jb_77_178 G), (182, jb_77_182 G), (189, jb_77_189 G), (193, jb_77_193 G), (194, jb_77_194 G), (205, jb_77_205 G), (215, jb_77_215 G), (221, jb_77_221 G), (225, jb_77_225 G), (228, jb_77_228 G), (230, jb_77_230 G), (234, jb_77_234 G), (237, jb_77_237 G), (240, jb_77_240 G), (251, jb_77_251 G), (259, jb_77_259 G), (277, jb_77_277 G), (289, jb_77_289 G), (293, jb_77_293 G), (296, jb_77_296 G), (299, jb_77_299 G), (303, jb_77_303 G), (304, jb_77_304 G), (315, jb_77_315 G), (322, jb_77_322 G), (328, jb_77_328 G), (334, jb_77_334 G), (340, jb_77_340 G), (346, jb_77_346 G), (352, jb_77_352 G), (358, jb_77_358 G), (364, jb_77_364 G), (368, jb_77_368 G), (369, jb_77_369 G), (387, jb_77_387 G)]
theorem jms_77 (G : jx_Gv) : ∀ e ∈ jbs_77 G, jx_mo e.2.1 := List.forall_mem_cons.mpr ⟨jm_77_0 G, List.forall_mem_cons.mpr ⟨jm_77_4 G, List.forall_mem_cons.mpr ⟨jm_77_9 G, List.forall_mem_cons.mpr ⟨jm_77_13 G, List.forall_mem_cons.mpr ⟨jm_77_18 G, List.forall_mem_cons.mpr ⟨jm_77_22 G, List.forall_mem_cons.mpr ⟨jm_77_27 G, List.forall_mem_cons.mpr ⟨jm_77_31 G, List.forall_mem_cons.mpr ⟨jm_77_36 G, List.forall_mem_cons.mpr ⟨jm_77_40 G, List.forall_mem_cons.mpr ⟨jm_77_45 G, List.forall_mem_cons.mpr ⟨jm_77_55 G, List.forall_mem_cons.mpr ⟨jm_77_68 G, List.forall_mem_cons.mpr ⟨jm_77_85 G, List.forall_mem_cons.mpr ⟨jm_77_90 G, List.forall_mem_cons.mpr ⟨jm_77_98 G, List.forall_mem_cons.mpr ⟨jm_77_102 G, List.forall_mem_cons.mpr ⟨jm_77_105 G, List.forall_mem_cons.mpr ⟨jm_77_109 G, List.forall_mem_cons.mpr ⟨jm_77_112 G, List.forall_mem_cons.mpr ⟨jm_77_115 G, List.forall_mem_cons.mpr ⟨jm_77_119 G, List.forall_mem_cons.mpr ⟨jm_77_122 G, List.forall_mem_cons.mpr ⟨jm_77_125 G, List.forall_mem_cons.mpr ⟨jm_77_138 G, List.forall_mem_cons.mpr ⟨jm_77_150 G, List.forall_mem_cons.mpr ⟨jm_77_154 G, List.forall_mem_cons.mpr ⟨jm_77_163 G, List.forall_mem_cons.mpr ⟨jm_77_178 G, List.forall_mem_cons.mpr ⟨jm_77_182 G, List.forall_mem_cons.mpr ⟨jm_77_189 G, List.forall_mem_cons.mpr ⟨jm_77_193 G, List.forall_mem_cons.mpr ⟨jm_77_194 G, List.forall_mem_cons.mpr ⟨jm_77_205 G, List.forall_mem_cons.mpr ⟨jm_77_215 G, List.forall_mem_cons.mpr ⟨jm_77_221 G, List.forall_mem_cons.mpr ⟨jm_77_225 G, List.forall_mem_cons.mpr ⟨jm_77_228 G, List.forall_mem_cons.mpr ⟨jm_77_230 G, List.forall_mem_cons.mpr ⟨jm_77_234 G, List.forall_mem_cons.mpr ⟨jm_77_237 G, List.forall_mem_cons.mpr ⟨jm_77_240 G, List.forall_mem_cons.mpr ⟨jm_77_251 G, List.forall_mem_cons.mpr ⟨jm_77_259 G, List.forall_mem_cons.mpr ⟨jm_77_277 G, List.forall_mem_cons.mpr ⟨jm_77_289 G, List.forall_mem_cons.mpr ⟨jm_77_293 G, List.forall_mem_cons.mpr ⟨jm_77_296 G, List.forall_mem_cons.mpr ⟨jm_77_299 G, List.forall_mem_cons.mpr ⟨jm_77_303 G, List.forall_mem_cons.mpr ⟨jm_77_304 G, List.forall_mem_cons.mpr ⟨jm_77_315 G, List.forall_mem_cons.mpr ⟨jm_77_322 G, List.forall_mem_cons.mpr ⟨jm_77_328 G, List.forall_mem_cons.mpr ⟨jm_77_334 G, List.forall_mem_cons.mpr ⟨jm_77_340 G, List.forall_mem_cons.mpr ⟨jm_77_346 G, List.forall_mem_cons.mpr ⟨jm_77_352 G, List.forall_mem_cons.mpr ⟨jm_77_358 G, List.forall_mem_cons.mpr ⟨jm_77_364 G, List.forall_mem_cons.mpr ⟨jm_77_368 G, List.forall_mem_cons.mpr ⟨jm_77_369 G, List.forall_mem_cons.mpr ⟨jm_77_387 G, fun _ h => absurd h List.not_mem_nil⟩⟩⟩⟩⟩⟩⟩⟩⟩⟩⟩⟩⟩⟩⟩⟩⟩⟩⟩⟩⟩⟩⟩⟩⟩⟩⟩⟩⟩⟩⟩⟩⟩⟩⟩⟩⟩⟩⟩⟩⟩⟩⟩⟩⟩⟩⟩⟩⟩⟩⟩⟩⟩⟩⟩⟩⟩⟩⟩⟩⟩⟩⟩
def jb_78_0 (G : jx_Gv) : jx_B := ([jo_aload 0, jo_getI 8 2, jo_istore 1], .inr (.inl 5))
theorem jm_78_0 (G : jx_Gv) : jx_mo (jb_78_0 G).1 := ⟨mo_aload _, mo_getI _ _, mo_istore _, trivial⟩
def jb_78_5 (G : jx_Gv) : jx_B := ([jo_iload 1], .inl (jc_i (fun x => decide (x ≤ 0)), 43, 9))
theorem jm_78_5 (G : jx_Gv) : jx_mo (jb_78_5 G).1 := ⟨mo_iload _, trivial⟩
def jb_78_9 (G : jx_Gv) : jx_B := ([jo_aload 0, jo_getA 8 1, jo_iload 1, jo_const (.int (1 : Int32)), jo_ii (· - ·), jo_iald 0], .inr (.inr (.inr (.inl (72, 1, 20, none)))))
theorem jm_78_9 (G : jx_Gv) : jx_mo (jb_78_9 G).1 := ⟨mo_aload _, mo_getA _ _, mo_iload _, mo_const _, mo_ii _, mo_iald _, trivial⟩
def jb_78_20 (G : jx_Gv) : jx_B := ([], .inl (jc_i (fun x => decide (¬ x = 0)), 37, 23))
theorem jm_78_20 (G : jx_Gv) : jx_mo (jb_78_20 G).1 := trivial
def jb_78_23 (G : jx_Gv) : jx_B := ([jo_aload 0, jo_getA 8 1, jo_iload 1, jo_const (.int (1 : Int32)), jo_ii (· - ·), jo_iald 0], .inr (.inr (.inr (.inl (73, 1, 34, none)))))
theorem jm_78_23 (G : jx_Gv) : jx_mo (jb_78_23 G).1 := ⟨mo_aload _, mo_getA _ _, mo_iload _, mo_const _, mo_ii _, mo_iald _, trivial⟩
def jb_78_34 (G : jx_Gv) : jx_B := ([], .inl (jc_i (fun x => decide (x = 0)), 43, 37))
theorem jm_78_34 (G : jx_Gv) : jx_mo (jb_78_34 G).1 := trivial
def jb_78_37 (G : jx_Gv) : jx_B := ([jo_iinc 1 (-1 : Int32)], .inr (.inl 5))
theorem jm_78_37 (G : jx_Gv) : jx_mo (jb_78_37 G).1 := ⟨mo_iinc _ _, trivial⟩
def jb_78_43 (G : jx_Gv) : jx_B := ([jo_aload 0, jo_getI 8 2, jo_iload 1, jo_ii (· - ·)], .inr (.inr (.inr (.inr jr_i))))
theorem jm_78_43 (G : jx_Gv) : jx_mo (jb_78_43 G).1 := ⟨mo_aload _, mo_getI _ _, mo_iload _, mo_ii _, trivial⟩
def jbs_78 (G : jx_Gv) : List (Nat × jx_B) := [(0, jb_78_0 G), (5, jb_78_5 G), (9, jb_78_9 G), (20, jb_78_20 G), (23, jb_78_23 G), (34, jb_78_34 G), (37, jb_78_37 G), (43, jb_78_43 G)]
theorem jms_78 (G : jx_Gv) : ∀ e ∈ jbs_78 G, jx_mo e.2.1 := List.forall_mem_cons.mpr ⟨jm_78_0 G, List.forall_mem_cons.mpr ⟨jm_78_5 G, List.forall_mem_cons.mpr ⟨jm_78_9 G, List.forall_mem_cons.mpr ⟨jm_78_20 G, List.forall_mem_cons.mpr ⟨jm_78_23 G, List.forall_mem_cons.mpr ⟨jm_78_34 G, List.forall_mem_cons.mpr ⟨jm_78_37 G, List.forall_mem_cons.mpr ⟨jm_78_43 G, fun _ h => absurd h List.not_mem_nil⟩⟩⟩⟩⟩⟩⟩⟩
def jb_79_0 (G : jx_Gv) : jx_B := ([jo_aload 0, jo_getA 8 29, jo_aload 0, jo_getI 8 28, jo_iload 1, jo_iast 0, jo_aload 0, jo_dup, jo_getI 8 28, jo_const (.int (1 : Int32)), jo_ii (· + ·), jo_putI 8 28], .inr (.inr (.inr (.inr jr_v))))
theorem jm_79_0 (G : jx_Gv) : jx_mo (jb_79_0 G).1 := ⟨mo_aload _, mo_getA _ _, mo_aload _, mo_getI _ _, mo_iload _, mo_iast _, mo_aload _, mo_dup, mo_getI _ _, mo_const _, mo_ii _, mo_putI _ _, trivial⟩
def jbs_79 (G : jx_Gv) : List (Nat × jx_B) := [(0, jb_79_0 G)]
theorem jms_79 (G : jx_Gv) : ∀ e ∈ jbs_79 G, jx_mo e.2.1 := List.forall_mem_cons.mpr ⟨jm_79_0 G, fun _ h => absurd h List.not_mem_nil⟩
def jb_80_0 (G : jx_Gv) : jx_B := ([jo_const (.int (1 : Int32)), jo_istore 2], .inr (.inl 2))
theorem jm_80_0 (G : jx_Gv) : jx_mo (jb_80_0 G).1 := ⟨mo_const _, mo_istore _, trivial⟩
def jb_80_2 (G : jx_Gv) : jx_B := ([jo_iload 2, jo_iload 1, jo_const (.int (10 : Int32)), jo_id (fun x y => x / y)], .inl (jc_ii (fun x y => decide (y < x)), 18, 10))
theorem jm_80_2 (G : jx_Gv) : jx_mo (jb_80_2 G).1 := ⟨mo_iload _, mo_iload _, mo_const _, mo_id _, trivial⟩
def jb_80_10 (G : jx_Gv) : jx_B := ([jo_iload 2, jo_const (.int (10 : Int32)), jo_ii (· * ·), jo_istore 2], .inr (.inl 2))
theorem jm_80_10 (G : jx_Gv) : jx_mo (jb_80_10 G).1 := ⟨mo_iload _, mo_const _, mo_ii _, mo_istore _, trivial⟩
def jb_80_18 (G : jx_Gv) : jx_B := ([jo_iload 2], .inl (jc_i (fun x => decide (x ≤ 0)), 43, 22))
theorem jm_80_18 (G : jx_Gv) : jx_mo (jb_80_18 G).1 := ⟨mo_iload _, trivial⟩
def jb_80_22 (G : jx_Gv) : jx_B := ([jo_aload 0, jo_const (.int (48 : Int32)), jo_iload 1, jo_iload 2, jo_id (fun x y => x / y), jo_const (.int (10 : Int32)), jo_id (fun x y => x - x / y * y), jo_ii (· + ·)], .inr (.inr (.inr (.inl (79, 2, 35, some 8)))))
theorem jm_80_22 (G : jx_Gv) : jx_mo (jb_80_22 G).1 := ⟨mo_aload _, mo_const _, mo_iload _, mo_iload _, mo_id _, mo_const _, mo_id _, mo_ii _, trivial⟩
def jb_80_35 (G : jx_Gv) : jx_B := ([jo_iload 2, jo_const (.int (10 : Int32)), jo_id (fun x y => x / y), jo_istore 2], .inr (.inl 18))
theorem jm_80_35 (G : jx_Gv) : jx_mo (jb_80_35 G).1 := ⟨mo_iload _, mo_const _, mo_id _, mo_istore _, trivial⟩
def jb_80_43 (G : jx_Gv) : jx_B := ([], .inr (.inr (.inr (.inr jr_v))))
theorem jm_80_43 (G : jx_Gv) : jx_mo (jb_80_43 G).1 := trivial
def jbs_80 (G : jx_Gv) : List (Nat × jx_B) := [(0, jb_80_0 G), (2, jb_80_2 G), (10, jb_80_10 G), (18, jb_80_18 G), (22, jb_80_22 G), (35, jb_80_35 G), (43, jb_80_43 G)]
theorem jms_80 (G : jx_Gv) : ∀ e ∈ jbs_80 G, jx_mo e.2.1 := List.forall_mem_cons.mpr ⟨jm_80_0 G, List.forall_mem_cons.mpr ⟨jm_80_2 G, List.forall_mem_cons.mpr ⟨jm_80_10 G, List.forall_mem_cons.mpr ⟨jm_80_18 G, List.forall_mem_cons.mpr ⟨jm_80_22 G, List.forall_mem_cons.mpr ⟨jm_80_35 G, List.forall_mem_cons.mpr ⟨jm_80_43 G, fun _ h => absurd h List.not_mem_nil⟩⟩⟩⟩⟩⟩⟩
def jb_81_0 (G : jx_Gv) : jx_B := ([jo_aload 0, jo_getI 8 28, jo_aload 0, jo_getA 8 30, jo_aload 0, jo_getI 8 11, jo_const (.int (1 : Int32)), jo_ii (· - ·), jo_iald 0], .inl (jc_ii (fun x y => decide (x ≤ y)), 24, 18))
theorem jm_81_0 (G : jx_Gv) : jx_mo (jb_81_0 G).1 := ⟨mo_aload _, mo_getI _ _, mo_aload _, mo_getA _ _, mo_aload _, mo_getI _ _, mo_const _, mo_ii _, mo_iald _, trivial⟩
def jb_81_18 (G : jx_Gv) : jx_B := ([jo_aload 0, jo_const (.int (32 : Int32))], .inr (.inr (.inr (.inl (79, 2, 24, some 8)))))
theorem jm_81_18 (G : jx_Gv) : jx_mo (jb_81_18 G).1 := ⟨mo_aload _, mo_const _, trivial⟩
def jb_81_24 (G : jx_Gv) : jx_B := ([jo_aload 0, jo_getI 8 4, jo_const (.int (3 : Int32))], .inl (jc_ii (fun x y => decide (¬ x = y)), 43, 32))
theorem jm_81_24 (G : jx_Gv) : jx_mo (jb_81_24 G).1 := ⟨mo_aload _, mo_getI _ _, mo_const _, trivial⟩
def jb_81_32 (G : jx_Gv) : jx_B := ([jo_aload 0, jo_aload 0, jo_getI 8 5], .inr (.inr (.inr (.inl (80, 2, 40, some 8)))))
theorem jm_81_32 (G : jx_Gv) : jx_mo (jb_81_32 G).1 := ⟨mo_aload _, mo_aload _, mo_getI _ _, trivial⟩
def jb_81_40 (G : jx_Gv) : jx_B := ([], .inr (.inl 88))
theorem jm_81_40 (G : jx_Gv) : jx_mo (jb_81_40 G).1 := trivial
def jb_81_43 (G : jx_Gv) : jx_B := ([jo_aload 0, jo_getI 8 4, jo_const (.int (4 : Int32))], .inl (jc_ii (fun x y => decide (¬ x = y)), 62, 51))
theorem jm_81_43 (G : jx_Gv) : jx_mo (jb_81_43 G).1 := ⟨mo_aload _, mo_getI _ _, mo_const _, trivial⟩
def jb_81_51 (G : jx_Gv) : jx_B := ([jo_aload 0, jo_aload 0, jo_getI 8 5], .inr (.inr (.inr (.inl (79, 2, 59, some 8)))))
theorem jm_81_51 (G : jx_Gv) : jx_mo (jb_81_51 G).1 := ⟨mo_aload _, mo_aload _, mo_getI _ _, trivial⟩
def jb_81_59 (G : jx_Gv) : jx_B := ([], .inr (.inl 88))
theorem jm_81_59 (G : jx_Gv) : jx_mo (jb_81_59 G).1 := trivial
def jb_81_62 (G : jx_Gv) : jx_B := ([jo_iload 1, jo_istore 2], .inr (.inl 64))
theorem jm_81_62 (G : jx_Gv) : jx_mo (jb_81_62 G).1 := ⟨mo_iload _, mo_istore _, trivial⟩
def jb_81_64 (G : jx_Gv) : jx_B := ([jo_iload 2, jo_aload 0, jo_getI 8 2], .inl (jc_ii (fun x y => decide (y ≤ x)), 88, 72))
theorem jm_81_64 (G : jx_Gv) : jx_mo (jb_81_64 G).1 := ⟨mo_iload _, mo_aload _, mo_getI _ _, trivial⟩
def jb_81_72 (G : jx_Gv) : jx_B := ([jo_aload 0, jo_aload 0, jo_getA 8 1, jo_iload 2, jo_iald 0], .inr (.inr (.inr (.inl (79, 2, 82, some 8)))))
theorem jm_81_72 (G : jx_Gv) : jx_mo (jb_81_72 G).1 := ⟨mo_aload _, mo_aload _, mo_getA _ _, mo_iload _, mo_iald _, trivial⟩
def jb_81_82 (G : jx_Gv) : jx_B := ([jo_iinc 2 (1 : Int32)], .inr (.inl 64))
theorem jm_81_82 (G : jx_Gv) : jx_mo (jb_81_82 G).1 := ⟨mo_iinc _ _, trivial⟩
def jb_81_88 (G : jx_Gv) : jx_B := ([], .inr (.inr (.inr (.inr jr_v))))
theorem jm_81_88 (G : jx_Gv) : jx_mo (jb_81_88 G).1 := trivial
def jbs_81 (G : jx_Gv) : List (Nat × jx_B) := [(0, jb_81_0 G), (18, jb_81_18 G), (24, jb_81_24 G), (32, jb_81_32 G), (40, jb_81_40 G), (43, jb_81_43 G), (51, jb_81_51 G), (59, jb_81_59 G), (62, jb_81_62 G), (64, jb_81_64 G), (72, jb_81_72 G), (82, jb_81_82 G), (88, jb_81_88 G)]
theorem jms_81 (G : jx_Gv) : ∀ e ∈ jbs_81 G, jx_mo e.2.1 := List.forall_mem_cons.mpr ⟨jm_81_0 G, List.forall_mem_cons.mpr ⟨jm_81_18 G, List.forall_mem_cons.mpr ⟨jm_81_24 G, List.forall_mem_cons.mpr ⟨jm_81_32 G, List.forall_mem_cons.mpr ⟨jm_81_40 G, List.forall_mem_cons.mpr ⟨jm_81_43 G, List.forall_mem_cons.mpr ⟨jm_81_51 G, List.forall_mem_cons.mpr ⟨jm_81_59 G, List.forall_mem_cons.mpr ⟨jm_81_62 G, List.forall_mem_cons.mpr ⟨jm_81_64 G, List.forall_mem_cons.mpr ⟨jm_81_72 G, List.forall_mem_cons.mpr ⟨jm_81_82 G, List.forall_mem_cons.mpr ⟨jm_81_88 G, fun _ h => absurd h List.not_mem_nil⟩⟩⟩⟩⟩⟩⟩⟩⟩⟩⟩⟩⟩
def jb_82_0 (G : jx_Gv) : jx_B := ([jo_aload 0, jo_aload 0, jo_getI 8 2, jo_aload 0], .inr (.inr (.inr (.inl (78, 1, 9, some 8)))))
theorem jm_82_0 (G : jx_Gv) : jx_mo (jb_82_0 G).1 := ⟨mo_aload _, mo_aload _, mo_getI _ _, mo_aload _, trivial⟩
def jb_82_9 (G : jx_Gv) : jx_B := ([jo_ii (· - ·)], .inr (.inr (.inr (.inl (81, 2, 13, some 8)))))
theorem jm_82_9 (G : jx_Gv) : jx_mo (jb_82_9 G).1 := ⟨mo_ii _, trivial⟩
def jb_82_13 (G : jx_Gv) : jx_B := ([jo_aload 0], .inr (.inr (.inr (.inl (77, 1, 17, some 8)))))
theorem jm_82_13 (G : jx_Gv) : jx_mo (jb_82_13 G).1 := ⟨mo_aload _, trivial⟩
def jb_82_17 (G : jx_Gv) : jx_B := ([jo_const (.int (1 : Int32))], .inr (.inr (.inr (.inr jr_z))))
theorem jm_82_17 (G : jx_Gv) : jx_mo (jb_82_17 G).1 := ⟨mo_const _, trivial⟩
def jbs_82 (G : jx_Gv) : List (Nat × jx_B) := [(0, jb_82_0 G), (9, jb_82_9 G), (13, jb_82_13 G), (17, jb_82_17 G)]
theorem jms_82 (G : jx_Gv) : ∀ e ∈ jbs_82 G, jx_mo e.2.1 := List.forall_mem_cons.mpr ⟨jm_82_0 G, List.forall_mem_cons.mpr ⟨jm_82_9 G, List.forall_mem_cons.mpr ⟨jm_82_13 G, List.forall_mem_cons.mpr ⟨jm_82_17 G, fun _ h => absurd h List.not_mem_nil⟩⟩⟩⟩
def jb_83_0 (G : jx_Gv) : jx_B := ([jo_aload 0, jo_getI 8 7], .inl (jc_i (fun x => decide (¬ x = 0)), 8, 7))
theorem jm_83_0 (G : jx_Gv) : jx_mo (jb_83_0 G).1 := ⟨mo_aload _, mo_getI _ _, trivial⟩
def jb_83_7 (G : jx_Gv) : jx_B := ([], .inr (.inr (.inr (.inr jr_v))))
theorem jm_83_7 (G : jx_Gv) : jx_mo (jb_83_7 G).1 := trivial
def jb_83_8 (G : jx_Gv) : jx_B := ([jo_aload 0, jo_getI 8 11, jo_const (.int (120 : Int32))], .inl (jc_ii (fun x y => decide (¬ x = y)), 23, 17))
theorem jm_83_8 (G : jx_Gv) : jx_mo (jb_83_8 G).1 := ⟨mo_aload _, mo_getI _ _, mo_const _, trivial⟩
def jb_83_17 (G : jx_Gv) : jx_B := ([jo_aload 0, jo_const (.int (0 : Int32)), jo_putZ 8 7], .inr (.inr (.inr (.inr jr_v))))
theorem jm_83_17 (G : jx_Gv) : jx_mo (jb_83_17 G).1 := ⟨mo_aload _, mo_const _, mo_putZ _ _, trivial⟩
def jb_83_23 (G : jx_Gv) : jx_B := ([jo_aload 0, jo_getA 8 30, jo_aload 0, jo_getI 8 11, jo_aload 0, jo_getI 8 28, jo_iast 0, jo_aload 0, jo_getA 8 12, jo_aload 0, jo_getI 8 11, jo_iload 1, jo_iast 0, jo_aload 0, jo_getA 8 13, jo_aload 0, jo_getI 8 11, jo_aload 0, jo_getI 8 31, jo_iast 0, jo_aload 0, jo_getA 8 14, jo_aload 0, jo_getI 8 11], .inr (.inl 67))
theorem jm_83_23 (G : jx_Gv) : jx_mo (jb_83_23 G).1 := ⟨mo_aload _, mo_getA _ _, mo_aload _, mo_getI _ _, mo_aload _, mo_getI _ _, mo_iast _, mo_aload _, mo_getA _ _, mo_aload _, mo_getI _ _, mo_iload _, mo_iast _, mo_aload _, mo_getA _ _, mo_aload _, mo_getI _ _, mo_aload _, mo_getI _ _, mo_iast _, mo_aload _, mo_getA _ _, mo_aload _, mo_getI _ _, trivial⟩
def jb_83_67 (G : jx_Gv) : jx_B := ([jo_const (.int (0 : Int32)), jo_iast 0, jo_aload 0, jo_getA 8 15, jo_aload 0, jo_getI 8 11, jo_const (.int (0 : Int32)), jo_iast 0, jo_aload 0, jo_getA 8 21, jo_aload 0, jo_getI 8 11, jo_const (.int (0 : Int32)), jo_iast 0, jo_aload 0, jo_getA 8 22, jo_aload 0, jo_getI 8 11, jo_aload 0, jo_getI 8 24, jo_iast 0, jo_aload 0, jo_getA 8 23, jo_aload 0], .inr (.inl 107))
theorem jm_83_67 (G : jx_Gv) : jx_mo (jb_83_67 G).1 := ⟨mo_const _, mo_iast _, mo_aload _, mo_getA _ _, mo_aload _, mo_getI _ _, mo_const _, mo_iast _, mo_aload _, mo_getA _ _, mo_aload _, mo_getI _ _, mo_const _, mo_iast _, mo_aload _, mo_getA _ _, mo_aload _, mo_getI _ _, mo_aload _, mo_getI _ _, mo_iast _, mo_aload _, mo_getA _ _, mo_aload _, trivial⟩
def jb_83_107 (G : jx_Gv) : jx_B := ([jo_getI 8 11, jo_const (.int (0 : Int32)), jo_iast 0, jo_aload 0, jo_dup, jo_getI 8 11, jo_const (.int (1 : Int32)), jo_ii (· + ·), jo_putI 8 11, jo_aload 0], .inr (.inr (.inr (.inl (82, 1, 126, some 8)))))
theorem jm_83_107 (G : jx_Gv) : jx_mo (jb_83_107 G).1 := ⟨mo_getI _ _, mo_const _, mo_iast _, mo_aload _, mo_dup, mo_getI _ _, mo_const _, mo_ii _, mo_putI _ _, mo_aload _, trivial⟩
def jb_83_126 (G : jx_Gv) : jx_B := ([jo_pop], .inr (.inr (.inr (.inr jr_v))))
theorem jm_83_126 (G : jx_Gv) : jx_mo (jb_83_126 G).1 := ⟨mo_pop, trivial⟩
def jbs_83 (G : jx_Gv) : List (Nat × jx_B) := [(0, jb_83_0 G), (7, jb_83_7 G), (8, jb_83_8 G), (17, jb_83_17 G), (23, jb_83_23 G), (67, jb_83_67 G), (107, jb_83_107 G), (126, jb_83_126 G)]
theorem jms_83 (G : jx_Gv) : ∀ e ∈ jbs_83 G, jx_mo e.2.1 := List.forall_mem_cons.mpr ⟨jm_83_0 G, List.forall_mem_cons.mpr ⟨jm_83_7 G, List.forall_mem_cons.mpr ⟨jm_83_8 G, List.forall_mem_cons.mpr ⟨jm_83_17 G, List.forall_mem_cons.mpr ⟨jm_83_23 G, List.forall_mem_cons.mpr ⟨jm_83_67 G, List.forall_mem_cons.mpr ⟨jm_83_107 G, List.forall_mem_cons.mpr ⟨jm_83_126 G, fun _ h => absurd h List.not_mem_nil⟩⟩⟩⟩⟩⟩⟩⟩
def jb_84_0 (G : jx_Gv) : jx_B := ([jo_aload 0, jo_getI 8 7], .inl (jc_i (fun x => decide (¬ x = 0)), 9, 7))
theorem jm_84_0 (G : jx_Gv) : jx_mo (jb_84_0 G).1 := ⟨mo_aload _, mo_getI _ _, trivial⟩
def jb_84_7 (G : jx_Gv) : jx_B := ([jo_const (.int (0 : Int32))], .inr (.inr (.inr (.inr jr_z))))
theorem jm_84_7 (G : jx_Gv) : jx_mo (jb_84_7 G).1 := ⟨mo_const _, trivial⟩
def jb_84_9 (G : jx_Gv) : jx_B := ([jo_iload 1], .inl (jc_i (fun x => decide (¬ x = 0)), 20, 13))
theorem jm_84_9 (G : jx_Gv) : jx_mo (jb_84_9 G).1 := ⟨mo_iload _, trivial⟩
def jb_84_13 (G : jx_Gv) : jx_B := ([jo_aload 0, jo_const (.int (0 : Int32)), jo_putZ 8 7, jo_const (.int (0 : Int32))], .inr (.inr (.inr (.inr jr_z))))
theorem jm_84_13 (G : jx_Gv) : jx_mo (jb_84_13 G).1 := ⟨mo_aload _, mo_const _, mo_putZ _ _, mo_const _, trivial⟩
def jb_84_20 (G : jx_Gv) : jx_B := ([jo_aload 0], .inr (.inr (.inr (.inl (82, 1, 24, some 8)))))
theorem jm_84_20 (G : jx_Gv) : jx_mo (jb_84_20 G).1 := ⟨mo_aload _, trivial⟩
def jb_84_24 (G : jx_Gv) : jx_B := ([], .inr (.inr (.inr (.inr jr_z))))
theorem jm_84_24 (G : jx_Gv) : jx_mo (jb_84_24 G).1 := trivial
def jbs_84 (G : jx_Gv) : List (Nat × jx_B) := [(0, jb_84_0 G), (7, jb_84_7 G), (9, jb_84_9 G), (13, jb_84_13 G), (20, jb_84_20 G), (24, jb_84_24 G)]
theorem jms_84 (G : jx_Gv) : ∀ e ∈ jbs_84 G, jx_mo e.2.1 := List.forall_mem_cons.mpr ⟨jm_84_0 G, List.forall_mem_cons.mpr ⟨jm_84_7 G, List.forall_mem_cons.mpr ⟨jm_84_9 G, List.forall_mem_cons.mpr ⟨jm_84_13 G, List.forall_mem_cons.mpr ⟨jm_84_20 G, List.forall_mem_cons.mpr ⟨jm_84_24 G, fun _ h => absurd h List.not_mem_nil⟩⟩⟩⟩⟩⟩
def jb_85_0 (G : jx_Gv) : jx_B := ([jo_aload 0, jo_getI 8 5, jo_istore 1, jo_aload 0, jo_aload 0, jo_getI 8 4, jo_const (.int (2 : Int32))], .inl (jc_ii (fun x y => decide (¬ x = y)), 18, 14))
theorem jm_85_0 (G : jx_Gv) : jx_mo (jb_85_0 G).1 := ⟨mo_aload _, mo_getI _ _, mo_istore _, mo_aload _, mo_aload _, mo_getI _ _, mo_const _, trivial⟩
def jb_85_14 (G : jx_Gv) : jx_B := ([jo_const (.int (1 : Int32))], .inr (.inl 19))
theorem jm_85_14 (G : jx_Gv) : jx_mo (jb_85_14 G).1 := ⟨mo_const _, trivial⟩
def jb_85_18 (G : jx_Gv) : jx_B := ([jo_const (.int (0 : Int32))], .inr (.inl 19))
theorem jm_85_18 (G : jx_Gv) : jx_mo (jb_85_18 G).1 := ⟨mo_const _, trivial⟩
def jb_85_19 (G : jx_Gv) : jx_B := ([], .inr (.inr (.inr (.inl (84, 2, 22, some 8)))))
theorem jm_85_19 (G : jx_Gv) : jx_mo (jb_85_19 G).1 := trivial
def jb_85_22 (G : jx_Gv) : jx_B := ([], .inl (jc_i (fun x => decide (x = 0)), 29, 25))
theorem jm_85_22 (G : jx_Gv) : jx_mo (jb_85_22 G).1 := trivial
def jb_85_25 (G : jx_Gv) : jx_B := ([jo_iload 1], .inr (.inl 30))
theorem jm_85_25 (G : jx_Gv) : jx_mo (jb_85_25 G).1 := ⟨mo_iload _, trivial⟩
def jb_85_29 (G : jx_Gv) : jx_B := ([jo_const (.int (0 : Int32))], .inr (.inl 30))
theorem jm_85_29 (G : jx_Gv) : jx_mo (jb_85_29 G).1 := ⟨mo_const _, trivial⟩
def jb_85_30 (G : jx_Gv) : jx_B := ([], .inr (.inr (.inr (.inr jr_i))))
theorem jm_85_30 (G : jx_Gv) : jx_mo (jb_85_30 G).1 := trivial
def jbs_85 (G : jx_Gv) : List (Nat × jx_B) := [(0, jb_85_0 G), (14, jb_85_14 G), (18, jb_85_18 G), (19, jb_85_19 G), (22, jb_85_22 G), (25, jb_85_25 G), (29, jb_85_29 G), (30, jb_85_30 G)]
theorem jms_85 (G : jx_Gv) : ∀ e ∈ jbs_85 G, jx_mo e.2.1 := List.forall_mem_cons.mpr ⟨jm_85_0 G, List.forall_mem_cons.mpr ⟨jm_85_14 G, List.forall_mem_cons.mpr ⟨jm_85_18 G, List.forall_mem_cons.mpr ⟨jm_85_19 G, List.forall_mem_cons.mpr ⟨jm_85_22 G, List.forall_mem_cons.mpr ⟨jm_85_25 G, List.forall_mem_cons.mpr ⟨jm_85_29 G, List.forall_mem_cons.mpr ⟨jm_85_30 G, fun _ h => absurd h List.not_mem_nil⟩⟩⟩⟩⟩⟩⟩⟩
def jb_86_0 (G : jx_Gv) : jx_B := ([jo_aload 0, jo_aload 0, jo_getI 8 4, jo_const (.int (4 : Int32))], .inl (jc_ii (fun x y => decide (¬ x = y)), 21, 9))
theorem jm_86_0 (G : jx_Gv) : jx_mo (jb_86_0 G).1 := ⟨mo_aload _, mo_aload _, mo_getI _ _, mo_const _, trivial⟩
def jb_86_9 (G : jx_Gv) : jx_B := ([jo_aload 0, jo_getI 8 5, jo_iload 1], .inl (jc_ii (fun x y => decide (¬ x = y)), 21, 17))
theorem jm_86_9 (G : jx_Gv) : jx_mo (jb_86_9 G).1 := ⟨mo_aload _, mo_getI _ _, mo_iload _, trivial⟩
def jb_86_17 (G : jx_Gv) : jx_B := ([jo_const (.int (1 : Int32))], .inr (.inl 22))
theorem jm_86_17 (G : jx_Gv) : jx_mo (jb_86_17 G).1 := ⟨mo_const _, trivial⟩
def jb_86_21 (G : jx_Gv) : jx_B := ([jo_const (.int (0 : Int32))], .inr (.inl 22))
theorem jm_86_21 (G : jx_Gv) : jx_mo (jb_86_21 G).1 := ⟨mo_const _, trivial⟩
def jb_86_22 (G : jx_Gv) : jx_B := ([], .inr (.inr (.inr (.inl (84, 2, 25, some 8)))))
theorem jm_86_22 (G : jx_Gv) : jx_mo (jb_86_22 G).1 := trivial
def jb_86_25 (G : jx_Gv) : jx_B := ([], .inr (.inr (.inr (.inr jr_z))))
theorem jm_86_25 (G : jx_Gv) : jx_mo (jb_86_25 G).1 := trivial
def jbs_86 (G : jx_Gv) : List (Nat × jx_B) := [(0, jb_86_0 G), (9, jb_86_9 G), (17, jb_86_17 G), (21, jb_86_21 G), (22, jb_86_22 G), (25, jb_86_25 G)]
theorem jms_86 (G : jx_Gv) : ∀ e ∈ jbs_86 G, jx_mo e.2.1 := List.forall_mem_cons.mpr ⟨jm_86_0 G, List.forall_mem_cons.mpr ⟨jm_86_9 G, List.forall_mem_cons.mpr ⟨jm_86_17 G, List.forall_mem_cons.mpr ⟨jm_86_21 G, List.forall_mem_cons.mpr ⟨jm_86_22 G, List.forall_mem_cons.mpr ⟨jm_86_25 G, fun _ h => absurd h List.not_mem_nil⟩⟩⟩⟩⟩⟩
def jb_87_0 (G : jx_Gv) : jx_B := ([jo_aload 0, jo_getI 8 5, jo_istore 3, jo_aload 0, jo_aload 0, jo_getI 8 4, jo_const (.int (3 : Int32))], .inl (jc_ii (fun x y => decide (¬ x = y)), 28, 14))
theorem jm_87_0 (G : jx_Gv) : jx_mo (jb_87_0 G).1 := ⟨mo_aload _, mo_getI _ _, mo_istore _, mo_aload _, mo_aload _, mo_getI _ _, mo_const _, trivial⟩
def jb_87_14 (G : jx_Gv) : jx_B := ([jo_iload 3, jo_iload 1], .inl (jc_ii (fun x y => decide (x < y)), 28, 19))
theorem jm_87_14 (G : jx_Gv) : jx_mo (jb_87_14 G).1 := ⟨mo_iload _, mo_iload _, trivial⟩
def jb_87_19 (G : jx_Gv) : jx_B := ([jo_iload 3, jo_iload 2], .inl (jc_ii (fun x y => decide (y < x)), 28, 24))
theorem jm_87_19 (G : jx_Gv) : jx_mo (jb_87_19 G).1 := ⟨mo_iload _, mo_iload _, trivial⟩
def jb_87_24 (G : jx_Gv) : jx_B := ([jo_const (.int (1 : Int32))], .inr (.inl 29))
theorem jm_87_24 (G : jx_Gv) : jx_mo (jb_87_24 G).1 := ⟨mo_const _, trivial⟩
def jb_87_28 (G : jx_Gv) : jx_B := ([jo_const (.int (0 : Int32))], .inr (.inl 29))
theorem jm_87_28 (G : jx_Gv) : jx_mo (jb_87_28 G).1 := ⟨mo_const _, trivial⟩
def jb_87_29 (G : jx_Gv) : jx_B := ([], .inr (.inr (.inr (.inl (84, 2, 32, some 8)))))
theorem jm_87_29 (G : jx_Gv) : jx_mo (jb_87_29 G).1 := trivial
def jb_87_32 (G : jx_Gv) : jx_B := ([], .inl (jc_i (fun x => decide (x = 0)), 39, 35))
theorem jm_87_32 (G : jx_Gv) : jx_mo (jb_87_32 G).1 := trivial
def jb_87_35 (G : jx_Gv) : jx_B := ([jo_iload 3], .inr (.inl 40))
theorem jm_87_35 (G : jx_Gv) : jx_mo (jb_87_35 G).1 := ⟨mo_iload _, trivial⟩
def jb_87_39 (G : jx_Gv) : jx_B := ([jo_const (.int (0 : Int32))], .inr (.inl 40))
theorem jm_87_39 (G : jx_Gv) : jx_mo (jb_87_39 G).1 := ⟨mo_const _, trivial⟩
def jb_87_40 (G : jx_Gv) : jx_B := ([], .inr (.inr (.inr (.inr jr_i))))
theorem jm_87_40 (G : jx_Gv) : jx_mo (jb_87_40 G).1 := trivial
def jbs_87 (G : jx_Gv) : List (Nat × jx_B) := [(0, jb_87_0 G), (14, jb_87_14 G), (19, jb_87_19 G), (24, jb_87_24 G), (28, jb_87_28 G), (29, jb_87_29 G), (32, jb_87_32 G), (35, jb_87_35 G), (39, jb_87_39 G), (40, jb_87_40 G)]
theorem jms_87 (G : jx_Gv) : ∀ e ∈ jbs_87 G, jx_mo e.2.1 := List.forall_mem_cons.mpr ⟨jm_87_0 G, List.forall_mem_cons.mpr ⟨jm_87_14 G, List.forall_mem_cons.mpr ⟨jm_87_19 G, List.forall_mem_cons.mpr ⟨jm_87_24 G, List.forall_mem_cons.mpr ⟨jm_87_28 G, List.forall_mem_cons.mpr ⟨jm_87_29 G, List.forall_mem_cons.mpr ⟨jm_87_32 G, List.forall_mem_cons.mpr ⟨jm_87_35 G, List.forall_mem_cons.mpr ⟨jm_87_39 G, List.forall_mem_cons.mpr ⟨jm_87_40 G, fun _ h => absurd h List.not_mem_nil⟩⟩⟩⟩⟩⟩⟩⟩⟩⟩
def jb_88_0 (G : jx_Gv) : jx_B := ([jo_aload 0, jo_getA 8 14, jo_iload 1, jo_iload 2, jo_iast 0, jo_aload 0, jo_getA 8 15, jo_iload 1, jo_iload 3, jo_iast 0, jo_aload 0, jo_getA 8 19, jo_iload 1, jo_iload 4, jo_iast 0, jo_aload 0, jo_getA 8 20, jo_iload 1, jo_iload 5, jo_iast 0], .inr (.inr (.inr (.inr jr_v))))
theorem jm_88_0 (G : jx_Gv) : jx_mo (jb_88_0 G).1 := ⟨mo_aload _, mo_getA _ _, mo_iload _, mo_iload _, mo_iast _, mo_aload _, mo_getA _ _, mo_iload _, mo_iload _, mo_iast _, mo_aload _, mo_getA _ _, mo_iload _, mo_iload _, mo_iast _, mo_aload _, mo_getA _ _, mo_iload _, mo_iload _, mo_iast _, trivial⟩
def jbs_88 (G : jx_Gv) : List (Nat × jx_B) := [(0, jb_88_0 G)]
theorem jms_88 (G : jx_Gv) : ∀ e ∈ jbs_88 G, jx_mo e.2.1 := List.forall_mem_cons.mpr ⟨jm_88_0 G, fun _ h => absurd h List.not_mem_nil⟩
def jb_89_0 (G : jx_Gv) : jx_B := ([jo_aload 0, jo_getI 8 7], .inl (jc_i (fun x => decide (x = 0)), 28, 7))
theorem jm_89_0 (G : jx_Gv) : jx_mo (jb_89_0 G).1 := ⟨mo_aload _, mo_getI _ _, trivial⟩
def jb_89_7 (G : jx_Gv) : jx_B := ([jo_aload 0, jo_getI 8 4, jo_const (.int (4 : Int32))], .inl (jc_ii (fun x y => decide (¬ x = y)), 28, 15))
theorem jm_89_7 (G : jx_Gv) : jx_mo (jb_89_7 G).1 := ⟨mo_aload _, mo_getI _ _, mo_const _, trivial⟩
def jb_89_15 (G : jx_Gv) : jx_B := ([jo_aload 0, jo_getI 8 5, jo_const (.int (45 : Int32))], .inl (jc_ii (fun x y => decide (¬ x = y)), 28, 24))
theorem jm_89_15 (G : jx_Gv) : jx_mo (jb_89_15 G).1 := ⟨mo_aload _, mo_getI _ _, mo_const _, trivial⟩
def jb_89_24 (G : jx_Gv) : jx_B := ([jo_const (.int (1 : Int32))], .inr (.inl 29))
theorem jm_89_24 (G : jx_Gv) : jx_mo (jb_89_24 G).1 := ⟨mo_const _, trivial⟩
def jb_89_28 (G : jx_Gv) : jx_B := ([jo_const (.int (0 : Int32))], .inr (.inl 29))
theorem jm_89_28 (G : jx_Gv) : jx_mo (jb_89_28 G).1 := ⟨mo_const _, trivial⟩
def jb_89_29 (G : jx_Gv) : jx_B := ([jo_istore 1, jo_aload 0, jo_getI 8 28, jo_istore 2, jo_iload 1], .inl (jc_i (fun x => decide (x = 0)), 46, 39))
theorem jm_89_29 (G : jx_Gv) : jx_mo (jb_89_29 G).1 := ⟨mo_istore _, mo_aload _, mo_getI _ _, mo_istore _, mo_iload _, trivial⟩
def jb_89_39 (G : jx_Gv) : jx_B := ([jo_aload 0, jo_const (.int (45 : Int32))], .inr (.inr (.inr (.inl (86, 2, 45, some 8)))))
theorem jm_89_39 (G : jx_Gv) : jx_mo (jb_89_39 G).1 := ⟨mo_aload _, mo_const _, trivial⟩
def jb_89_45 (G : jx_Gv) : jx_B := ([jo_pop], .inr (.inl 46))
theorem jm_89_45 (G : jx_Gv) : jx_mo (jb_89_45 G).1 := ⟨mo_pop, trivial⟩
def jb_89_46 (G : jx_Gv) : jx_B := ([jo_aload 0, jo_getI 8 4, jo_const (.int (3 : Int32))], .inl (jc_ii (fun x y => decide (¬ x = y)), 65, 54))
theorem jm_89_46 (G : jx_Gv) : jx_mo (jb_89_46 G).1 := ⟨mo_aload _, mo_getI _ _, mo_const _, trivial⟩
def jb_89_54 (G : jx_Gv) : jx_B := ([jo_aload 0, jo_getI 8 5], .inl (jc_i (fun x => decide (¬ x = 0)), 65, 61))
theorem jm_89_54 (G : jx_Gv) : jx_mo (jb_89_54 G).1 := ⟨mo_aload _, mo_getI _ _, trivial⟩
def jb_89_61 (G : jx_Gv) : jx_B := ([jo_const (.int (1 : Int32))], .inr (.inl 66))
theorem jm_89_61 (G : jx_Gv) : jx_mo (jb_89_61 G).1 := ⟨mo_const _, trivial⟩
def jb_89_65 (G : jx_Gv) : jx_B := ([jo_const (.int (0 : Int32))], .inr (.inl 66))
theorem jm_89_65 (G : jx_Gv) : jx_mo (jb_89_65 G).1 := ⟨mo_const _, trivial⟩
def jb_89_66 (G : jx_Gv) : jx_B := ([jo_istore 3, jo_iload 1], .inl (jc_i (fun x => decide (x = 0)), 80, 71))
theorem jm_89_66 (G : jx_Gv) : jx_mo (jb_89_66 G).1 := ⟨mo_istore _, mo_iload _, trivial⟩
def jb_89_71 (G : jx_Gv) : jx_B := ([jo_iload 3], .inl (jc_i (fun x => decide (x = 0)), 80, 75))
theorem jm_89_71 (G : jx_Gv) : jx_mo (jb_89_71 G).1 := ⟨mo_iload _, trivial⟩
def jb_89_75 (G : jx_Gv) : jx_B := ([jo_aload 0, jo_iload 2, jo_putI 8 28], .inr (.inl 80))
theorem jm_89_75 (G : jx_Gv) : jx_mo (jb_89_75 G).1 := ⟨mo_aload _, mo_iload _, mo_putI _ _, trivial⟩
def jb_89_80 (G : jx_Gv) : jx_B := ([jo_aload 0, jo_const (.int (0 : Int32)), jo_const (.int (999999 : Int32))], .inr (.inr (.inr (.inl (87, 3, 87, some 8)))))
theorem jm_89_80 (G : jx_Gv) : jx_mo (jb_89_80 G).1 := ⟨mo_aload _, mo_const _, mo_const _, trivial⟩
def jb_89_87 (G : jx_Gv) : jx_B := ([jo_istore 4, jo_iload 1], .inl (jc_i (fun x => decide (x = 0)), 99, 93))
theorem jm_89_87 (G : jx_Gv) : jx_mo (jb_89_87 G).1 := ⟨mo_istore _, mo_iload _, trivial⟩
def jb_89_93 (G : jx_Gv) : jx_B := ([jo_iload 4, jo_i1 (fun x => -x)], .inr (.inl 101))
theorem jm_89_93 (G : jx_Gv) : jx_mo (jb_89_93 G).1 := ⟨mo_iload _, mo_i1 _, trivial⟩
def jb_89_99 (G : jx_Gv) : jx_B := ([jo_iload 4], .inr (.inl 101))
theorem jm_89_99 (G : jx_Gv) : jx_mo (jb_89_99 G).1 := ⟨mo_iload _, trivial⟩
def jb_89_101 (G : jx_Gv) : jx_B := ([], .inr (.inr (.inr (.inr jr_i))))
theorem jm_89_101 (G : jx_Gv) : jx_mo (jb_89_101 G).1 := trivial
def jbs_89 (G : jx_Gv) : List (Nat × jx_B) := [(0, jb_89_0 G), (7, jb_89_7 G), (15, jb_89_15 G), (24, jb_89_24 G), (28, jb_89_28 G), (29, jb_89_29 G), (39, jb_89_39 G), (45, jb_89_45 G), (46, jb_89_46 G), (54, jb_89_54 G), (61, jb_89_61 G), (65, jb_89_65 G), (66, jb_89_66 G), (71, jb_89_71 G), (75, jb_89_75 G), (80, jb_89_80 G), (87, jb_89_87 G), (93, jb_89_93 G), (99, jb_89_99 G), (101, jb_89_101 G)]
theorem jms_89 (G : jx_Gv) : ∀ e ∈ jbs_89 G, jx_mo e.2.1 := List.forall_mem_cons.mpr ⟨jm_89_0 G, List.forall_mem_cons.mpr ⟨jm_89_7 G, List.forall_mem_cons.mpr ⟨jm_89_15 G, List.forall_mem_cons.mpr ⟨jm_89_24 G, List.forall_mem_cons.mpr ⟨jm_89_28 G, List.forall_mem_cons.mpr ⟨jm_89_29 G, List.forall_mem_cons.mpr ⟨jm_89_39 G, List.forall_mem_cons.mpr ⟨jm_89_45 G, List.forall_mem_cons.mpr ⟨jm_89_46 G, List.forall_mem_cons.mpr ⟨jm_89_54 G, List.forall_mem_cons.mpr ⟨jm_89_61 G, List.forall_mem_cons.mpr ⟨jm_89_65 G, List.forall_mem_cons.mpr ⟨jm_89_66 G, List.forall_mem_cons.mpr ⟨jm_89_71 G, List.forall_mem_cons.mpr ⟨jm_89_75 G, List.forall_mem_cons.mpr ⟨jm_89_80 G, List.forall_mem_cons.mpr ⟨jm_89_87 G, List.forall_mem_cons.mpr ⟨jm_89_93 G, List.forall_mem_cons.mpr ⟨jm_89_99 G, List.forall_mem_cons.mpr ⟨jm_89_101 G, fun _ h => absurd h List.not_mem_nil⟩⟩⟩⟩⟩⟩⟩⟩⟩⟩⟩⟩⟩⟩⟩⟩⟩⟩⟩⟩
def jb_90_0 (G : jx_Gv) : jx_B := ([jo_aload 0, jo_aload 0, jo_getI 8 4, jo_const (.int (1 : Int32))], .inl (jc_ii (fun x y => decide (¬ x = y)), 21, 9))
theorem jm_90_0 (G : jx_Gv) : jx_mo (jb_90_0 G).1 := ⟨mo_aload _, mo_aload _, mo_getI _ _, mo_const _, trivial⟩
def jb_90_9 (G : jx_Gv) : jx_B := ([jo_aload 0, jo_getI 8 5, jo_iload 1], .inl (jc_ii (fun x y => decide (¬ x = y)), 21, 17))
theorem jm_90_9 (G : jx_Gv) : jx_mo (jb_90_9 G).1 := ⟨mo_aload _, mo_getI _ _, mo_iload _, trivial⟩
def jb_90_17 (G : jx_Gv) : jx_B := ([jo_const (.int (1 : Int32))], .inr (.inl 22))
theorem jm_90_17 (G : jx_Gv) : jx_mo (jb_90_17 G).1 := ⟨mo_const _, trivial⟩
def jb_90_21 (G : jx_Gv) : jx_B := ([jo_const (.int (0 : Int32))], .inr (.inl 22))
theorem jm_90_21 (G : jx_Gv) : jx_mo (jb_90_21 G).1 := ⟨mo_const _, trivial⟩
def jb_90_22 (G : jx_Gv) : jx_B := ([], .inr (.inr (.inr (.inl (84, 2, 25, some 8)))))
theorem jm_90_22 (G : jx_Gv) : jx_mo (jb_90_22 G).1 := trivial
def jb_90_25 (G : jx_Gv) : jx_B := ([], .inr (.inr (.inr (.inr jr_z))))
theorem jm_90_25 (G : jx_Gv) : jx_mo (jb_90_25 G).1 := trivial
def jbs_90 (G : jx_Gv) : List (Nat × jx_B) := [(0, jb_90_0 G), (9, jb_90_9 G), (17, jb_90_17 G), (21, jb_90_21 G), (22, jb_90_22 G), (25, jb_90_25 G)]
theorem jms_90 (G : jx_Gv) : ∀ e ∈ jbs_90 G, jx_mo e.2.1 := List.forall_mem_cons.mpr ⟨jm_90_0 G, List.forall_mem_cons.mpr ⟨jm_90_9 G, List.forall_mem_cons.mpr ⟨jm_90_17 G, List.forall_mem_cons.mpr ⟨jm_90_21 G, List.forall_mem_cons.mpr ⟨jm_90_22 G, List.forall_mem_cons.mpr ⟨jm_90_25 G, fun _ h => absurd h List.not_mem_nil⟩⟩⟩⟩⟩⟩
def jb_91_0 (G : jx_Gv) : jx_B := ([jo_aload 0, jo_getI 8 11, jo_const (.int (1 : Int32)), jo_ii (· - ·), jo_istore 1, jo_aload 0, jo_getA 8 14, jo_iload 1, jo_aload 0], .inr (.inr (.inr (.inl (85, 1, 16, some 8)))))
theorem jm_91_0 (G : jx_Gv) : jx_mo (jb_91_0 G).1 := ⟨mo_aload _, mo_getI _ _, mo_const _, mo_ii _, mo_istore _, mo_aload _, mo_getA _ _, mo_iload _, mo_aload _, trivial⟩
def jb_91_16 (G : jx_Gv) : jx_B := ([jo_iast 0, jo_aload 0, jo_const (.int (58 : Int32))], .inr (.inr (.inr (.inl (86, 2, 23, some 8)))))
theorem jm_91_16 (G : jx_Gv) : jx_mo (jb_91_16 G).1 := ⟨mo_iast _, mo_aload _, mo_const _, trivial⟩
def jb_91_23 (G : jx_Gv) : jx_B := ([jo_pop, jo_aload 0, jo_getA 8 15, jo_iload 1, jo_aload 0], .inr (.inr (.inr (.inl (85, 1, 33, some 8)))))
theorem jm_91_23 (G : jx_Gv) : jx_mo (jb_91_23 G).1 := ⟨mo_pop, mo_aload _, mo_getA _ _, mo_iload _, mo_aload _, trivial⟩
def jb_91_33 (G : jx_Gv) : jx_B := ([jo_iast 0, jo_aload 0, jo_const (.int (59 : Int32))], .inr (.inr (.inr (.inl (86, 2, 40, some 8)))))
theorem jm_91_33 (G : jx_Gv) : jx_mo (jb_91_33 G).1 := ⟨mo_iast _, mo_aload _, mo_const _, trivial⟩
def jb_91_40 (G : jx_Gv) : jx_B := ([jo_pop], .inr (.inr (.inr (.inr jr_v))))
theorem jm_91_40 (G : jx_Gv) : jx_mo (jb_91_40 G).1 := ⟨mo_pop, trivial⟩
def jbs_91 (G : jx_Gv) : List (Nat × jx_B) := [(0, jb_91_0 G), (16, jb_91_16 G), (23, jb_91_23 G), (33, jb_91_33 G), (40, jb_91_40 G)]
theorem jms_91 (G : jx_Gv) : ∀ e ∈ jbs_91 G, jx_mo e.2.1 := List.forall_mem_cons.mpr ⟨jm_91_0 G, List.forall_mem_cons.mpr ⟨jm_91_16 G, List.forall_mem_cons.mpr ⟨jm_91_23 G, List.forall_mem_cons.mpr ⟨jm_91_33 G, List.forall_mem_cons.mpr ⟨jm_91_40 G, fun _ h => absurd h List.not_mem_nil⟩⟩⟩⟩⟩
def jb_92_0 (G : jx_Gv) : jx_B := ([jo_aload 0], .inr (.inr (.inr (.inl (82, 1, 4, some 8)))))
theorem jm_92_0 (G : jx_Gv) : jx_mo (jb_92_0 G).1 := ⟨mo_aload _, trivial⟩
def jb_92_4 (G : jx_Gv) : jx_B := ([jo_pop, jo_aload 0], .inr (.inr (.inr (.inl (85, 1, 9, some 8)))))
theorem jm_92_4 (G : jx_Gv) : jx_mo (jb_92_4 G).1 := ⟨mo_pop, mo_aload _, trivial⟩
def jb_92_9 (G : jx_Gv) : jx_B := ([jo_istore 2, jo_aload 0, jo_const (.int (46 : Int32))], .inr (.inr (.inr (.inl (86, 2, 16, some 8)))))
theorem jm_92_9 (G : jx_Gv) : jx_mo (jb_92_9 G).1 := ⟨mo_istore _, mo_aload _, mo_const _, trivial⟩
def jb_92_16 (G : jx_Gv) : jx_B := ([jo_pop, jo_aload 0], .inr (.inr (.inr (.inl (85, 1, 21, some 8)))))
theorem jm_92_16 (G : jx_Gv) : jx_mo (jb_92_16 G).1 := ⟨mo_pop, mo_aload _, trivial⟩
def jb_92_21 (G : jx_Gv) : jx_B := ([jo_istore 3, jo_aload 0, jo_getI 8 7], .inl (jc_i (fun x => decide (¬ x = 0)), 30, 29))
theorem jm_92_21 (G : jx_Gv) : jx_mo (jb_92_21 G).1 := ⟨mo_istore _, mo_aload _, mo_getI _ _, trivial⟩
def jb_92_29 (G : jx_Gv) : jx_B := ([], .inr (.inr (.inr (.inr jr_v))))
theorem jm_92_29 (G : jx_Gv) : jx_mo (jb_92_29 G).1 := trivial
def jb_92_30 (G : jx_Gv) : jx_B := ([jo_aload 0, jo_getA 8 25, jo_aload 0, jo_getI 8 24, jo_iload 1, jo_iast 0, jo_aload 0, jo_getA 8 26, jo_aload 0, jo_getI 8 24, jo_iload 2, jo_iast 0, jo_aload 0, jo_getA 8 27, jo_aload 0, jo_getI 8 24, jo_iload 3, jo_iast 0, jo_aload 0, jo_dup, jo_getI 8 24, jo_const (.int (1 : Int32)), jo_ii (· + ·), jo_putI 8 24], .inr (.inl 70))
theorem jm_92_30 (G : jx_Gv) : jx_mo (jb_92_30 G).1 := ⟨mo_aload _, mo_getA _ _, mo_aload _, mo_getI _ _, mo_iload _, mo_iast _, mo_aload _, mo_getA _ _, mo_aload _, mo_getI _ _, mo_iload _, mo_iast _, mo_aload _, mo_getA _ _, mo_aload _, mo_getI _ _, mo_iload _, mo_iast _, mo_aload _, mo_dup, mo_getI _ _, mo_const _, mo_ii _, mo_putI _ _, trivial⟩
def jb_92_70 (G : jx_Gv) : jx_B := ([jo_aload 0, jo_getA 8 23, jo_aload 0, jo_getI 8 11, jo_const (.int (1 : Int32)), jo_ii (· - ·), jo_dup2, jo_iald 0, jo_const (.int (1 : Int32)), jo_ii (· + ·), jo_iast 0], .inr (.inr (.inr (.inr jr_v))))
theorem jm_92_70 (G : jx_Gv) : jx_mo (jb_92_70 G).1 := ⟨mo_aload _, mo_getA _ _, mo_aload _, mo_getI _ _, mo_const _, mo_ii _, mo_dup2, mo_iald _, mo_const _, mo_ii _, mo_iast _, trivial⟩
def jbs_92 (G : jx_Gv) : List (Nat × jx_B) := [(0, jb_92_0 G), (4, jb_92_4 G), (9, jb_92_9 G), (16, jb_92_16 G), (21, jb_92_21 G), (29, jb_92_29 G), (30, jb_92_30 G), (70, jb_92_70 G)]
theorem jms_92 (G : jx_Gv) : ∀ e ∈ jbs_92 G, jx_mo e.2.1 := List.forall_mem_cons.mpr ⟨jm_92_0 G, List.forall_mem_cons.mpr ⟨jm_92_4 G, List.forall_mem_cons.mpr ⟨jm_92_9 G, List.forall_mem_cons.mpr ⟨jm_92_16 G, List.forall_mem_cons.mpr ⟨jm_92_21 G, List.forall_mem_cons.mpr ⟨jm_92_29 G, List.forall_mem_cons.mpr ⟨jm_92_30 G, List.forall_mem_cons.mpr ⟨jm_92_70 G, fun _ h => absurd h List.not_mem_nil⟩⟩⟩⟩⟩⟩⟩⟩
def jb_93_0 (G : jx_Gv) : jx_B := ([jo_aload 0, jo_getI 8 11, jo_const (.int (1 : Int32)), jo_ii (· - ·), jo_istore 1, jo_aload 0, jo_getA 8 14, jo_iload 1, jo_aload 0], .inr (.inr (.inr (.inl (85, 1, 16, some 8)))))
theorem jm_93_0 (G : jx_Gv) : jx_mo (jb_93_0 G).1 := ⟨mo_aload _, mo_getI _ _, mo_const _, mo_ii _, mo_istore _, mo_aload _, mo_getA _ _, mo_iload _, mo_aload _, trivial⟩
def jb_93_16 (G : jx_Gv) : jx_B := ([jo_iast 0, jo_aload 0, jo_getI 8 7], .inl (jc_i (fun x => decide (x = 0)), 69, 24))
theorem jm_93_16 (G : jx_Gv) : jx_mo (jb_93_16 G).1 := ⟨mo_iast _, mo_aload _, mo_getI _ _, trivial⟩
def jb_93_24 (G : jx_Gv) : jx_B := ([jo_aload 0, jo_getI 8 4, jo_const (.int (1 : Int32))], .inl (jc_ii (fun x y => decide (¬ x = y)), 69, 32))
theorem jm_93_24 (G : jx_Gv) : jx_mo (jb_93_24 G).1 := ⟨mo_aload _, mo_getI _ _, mo_const _, trivial⟩
def jb_93_32 (G : jx_Gv) : jx_B := ([jo_aload 0, jo_getI 8 5, jo_const (.int (10 : Int32))], .inl (jc_ii (fun x y => decide (¬ x = y)), 69, 41))
theorem jm_93_32 (G : jx_Gv) : jx_mo (jb_93_32 G).1 := ⟨mo_aload _, mo_getI _ _, mo_const _, trivial⟩
def jb_93_41 (G : jx_Gv) : jx_B := ([jo_aload 0], .inr (.inr (.inr (.inl (82, 1, 45, some 8)))))
theorem jm_93_41 (G : jx_Gv) : jx_mo (jb_93_41 G).1 := ⟨mo_aload _, trivial⟩
def jb_93_45 (G : jx_Gv) : jx_B := ([jo_pop, jo_aload 0, jo_getA 8 19, jo_iload 1, jo_aload 0, jo_const (.int (1 : Int32)), jo_const (.int (999999 : Int32))], .inr (.inr (.inr (.inl (87, 3, 58, some 8)))))
theorem jm_93_45 (G : jx_Gv) : jx_mo (jb_93_45 G).1 := ⟨mo_pop, mo_aload _, mo_getA _ _, mo_iload _, mo_aload _, mo_const _, mo_const _, trivial⟩
def jb_93_58 (G : jx_Gv) : jx_B := ([jo_iast 0, jo_aload 0, jo_getA 8 21, jo_iload 1, jo_const (.int (1 : Int32)), jo_iast 0], .inr (.inl 105))
theorem jm_93_58 (G : jx_Gv) : jx_mo (jb_93_58 G).1 := ⟨mo_iast _, mo_aload _, mo_getA _ _, mo_iload _, mo_const _, mo_iast _, trivial⟩
def jb_93_69 (G : jx_Gv) : jx_B := ([jo_aload 0, jo_getI 8 7], .inl (jc_i (fun x => decide (x = 0)), 105, 76))
theorem jm_93_69 (G : jx_Gv) : jx_mo (jb_93_69 G).1 := ⟨mo_aload _, mo_getI _ _, trivial⟩
def jb_93_76 (G : jx_Gv) : jx_B := ([jo_aload 0, jo_getI 8 4, jo_const (.int (1 : Int32))], .inl (jc_ii (fun x y => decide (¬ x = y)), 105, 84))
theorem jm_93_76 (G : jx_Gv) : jx_mo (jb_93_76 G).1 := ⟨mo_aload _, mo_getI _ _, mo_const _, trivial⟩
def jb_93_84 (G : jx_Gv) : jx_B := ([jo_aload 0, jo_getI 8 5, jo_const (.int (11 : Int32))], .inl (jc_ii (fun x y => decide (¬ x = y)), 105, 93))
theorem jm_93_84 (G : jx_Gv) : jx_mo (jb_93_84 G).1 := ⟨mo_aload _, mo_getI _ _, mo_const _, trivial⟩
def jb_93_93 (G : jx_Gv) : jx_B := ([jo_aload 0, jo_getA 8 21, jo_iload 1, jo_const (.int (2 : Int32)), jo_iast 0, jo_aload 0, jo_const (.int (0 : Int32))], .inr (.inr (.inr (.inl (92, 2, 105, some 8)))))
theorem jm_93_93 (G : jx_Gv) : jx_mo (jb_93_93 G).1 := ⟨mo_aload _, mo_getA _ _, mo_iload _, mo_const _, mo_iast _, mo_aload _, mo_const _, trivial⟩
def jb_93_105 (G : jx_Gv) : jx_B := ([jo_const (.int (0 : Int32)), jo_istore 2], .inr (.inl 107))
theorem jm_93_105 (G : jx_Gv) : jx_mo (jb_93_105 G).1 := ⟨mo_const _, mo_istore _, trivial⟩
def jb_93_107 (G : jx_Gv) : jx_B := ([jo_aload 0, jo_getI 8 7], .inl (jc_i (fun x => decide (x = 0)), 178, 114))
theorem jm_93_107 (G : jx_Gv) : jx_mo (jb_93_107 G).1 := ⟨mo_aload _, mo_getI _ _, trivial⟩
def jb_93_114 (G : jx_Gv) : jx_B := ([jo_aload 0, jo_getI 8 4, jo_const (.int (1 : Int32))], .inl (jc_ii (fun x y => decide (¬ x = y)), 178, 122))
theorem jm_93_114 (G : jx_Gv) : jx_mo (jb_93_114 G).1 := ⟨mo_aload _, mo_getI _ _, mo_const _, trivial⟩
def jb_93_122 (G : jx_Gv) : jx_B := ([jo_aload 0, jo_getI 8 5, jo_const (.int (12 : Int32))], .inl (jc_ii (fun x y => decide (x = y)), 140, 131))
theorem jm_93_122 (G : jx_Gv) : jx_mo (jb_93_122 G).1 := ⟨mo_aload _, mo_getI _ _, mo_const _, trivial⟩
def jb_93_131 (G : jx_Gv) : jx_B := ([jo_aload 0, jo_getI 8 5, jo_const (.int (13 : Int32))], .inl (jc_ii (fun x y => decide (¬ x = y)), 178, 140))
theorem jm_93_131 (G : jx_Gv) : jx_mo (jb_93_131 G).1 := ⟨mo_aload _, mo_getI _ _, mo_const _, trivial⟩
def jb_93_140 (G : jx_Gv) : jx_B := ([jo_iload 2, jo_const (.int (8 : Int32))], .inl (jc_ii (fun x y => decide (¬ x = y)), 154, 146))
theorem jm_93_140 (G : jx_Gv) : jx_mo (jb_93_140 G).1 := ⟨mo_iload _, mo_const _, trivial⟩
def jb_93_146 (G : jx_Gv) : jx_B := ([jo_aload 0, jo_const (.int (0 : Int32)), jo_putZ 8 7], .inr (.inl 172))
theorem jm_93_146 (G : jx_Gv) : jx_mo (jb_93_146 G).1 := ⟨mo_aload _, mo_const _, mo_putZ _ _, trivial⟩
def jb_93_154 (G : jx_Gv) : jx_B := ([jo_aload 0, jo_aload 0, jo_getI 8 5, jo_const (.int (12 : Int32))], .inl (jc_ii (fun x y => decide (¬ x = y)), 168, 164))
theorem jm_93_154 (G : jx_Gv) : jx_mo (jb_93_154 G).1 := ⟨mo_aload _, mo_aload _, mo_getI _ _, mo_const _, trivial⟩
def jb_93_164 (G : jx_Gv) : jx_B := ([jo_const (.int (1 : Int32))], .inr (.inl 169))
theorem jm_93_164 (G : jx_Gv) : jx_mo (jb_93_164 G).1 := ⟨mo_const _, trivial⟩
def jb_93_168 (G : jx_Gv) : jx_B := ([jo_const (.int (2 : Int32))], .inr (.inl 169))
theorem jm_93_168 (G : jx_Gv) : jx_mo (jb_93_168 G).1 := ⟨mo_const _, trivial⟩
def jb_93_169 (G : jx_Gv) : jx_B := ([], .inr (.inr (.inr (.inl (92, 2, 172, some 8)))))
theorem jm_93_169 (G : jx_Gv) : jx_mo (jb_93_169 G).1 := trivial
def jb_93_172 (G : jx_Gv) : jx_B := ([jo_iinc 2 (1 : Int32)], .inr (.inl 107))
theorem jm_93_172 (G : jx_Gv) : jx_mo (jb_93_172 G).1 := ⟨mo_iinc _ _, trivial⟩
def jb_93_178 (G : jx_Gv) : jx_B := ([jo_aload 0, jo_const (.int (59 : Int32))], .inr (.inr (.inr (.inl (86, 2, 184, some 8)))))
theorem jm_93_178 (G : jx_Gv) : jx_mo (jb_93_178 G).1 := ⟨mo_aload _, mo_const _, trivial⟩
def jb_93_184 (G : jx_Gv) : jx_B := ([jo_pop], .inr (.inr (.inr (.inr jr_v))))
theorem jm_93_184 (G : jx_Gv) : jx_mo (jb_93_184 G).1 := ⟨mo_pop, trivial⟩
def jbs_93 (G : jx_Gv) : List (Nat × jx_B) := [(0, jb_93_0 G), (16, jb_93_16 G), (24, jb_93_24 G), (32, jb_93_32 G), (41, jb_93_41 G), (45, jb_93_45 G), (58, jb_93_58 G), (69, jb_93_69 G), (76, jb_93_76 G), (84, jb_93_84 G), (93, jb_93_93 G), (105, jb_93_105 G), (107, jb_93_107 G), (114, jb_93_114 G), (122, jb_93_122 G), (131, jb_93_131 G), (140, jb_93_140 G), (146, jb_93_146 G), (154, jb_93_154 G), (164, jb_93_164 G), (168, jb_93_168 G), (169, jb_93_169 G), (172, jb_93_172 G), (178, jb_93_178 G), (184, jb_93_184 G)]
theorem jms_93 (G : jx_Gv) : ∀ e ∈ jbs_93 G, jx_mo e.2.1 := List.forall_mem_cons.mpr ⟨jm_93_0 G, List.forall_mem_cons.mpr ⟨jm_93_16 G, List.forall_mem_cons.mpr ⟨jm_93_24 G, List.forall_mem_cons.mpr ⟨jm_93_32 G, List.forall_mem_cons.mpr ⟨jm_93_41 G, List.forall_mem_cons.mpr ⟨jm_93_45 G, List.forall_mem_cons.mpr ⟨jm_93_58 G, List.forall_mem_cons.mpr ⟨jm_93_69 G, List.forall_mem_cons.mpr ⟨jm_93_76 G, List.forall_mem_cons.mpr ⟨jm_93_84 G, List.forall_mem_cons.mpr ⟨jm_93_93 G, List.forall_mem_cons.mpr ⟨jm_93_105 G, List.forall_mem_cons.mpr ⟨jm_93_107 G, List.forall_mem_cons.mpr ⟨jm_93_114 G, List.forall_mem_cons.mpr ⟨jm_93_122 G, List.forall_mem_cons.mpr ⟨jm_93_131 G, List.forall_mem_cons.mpr ⟨jm_93_140 G, List.forall_mem_cons.mpr ⟨jm_93_146 G, List.forall_mem_cons.mpr ⟨jm_93_154 G, List.forall_mem_cons.mpr ⟨jm_93_164 G, List.forall_mem_cons.mpr ⟨jm_93_168 G, List.forall_mem_cons.mpr ⟨jm_93_169 G, List.forall_mem_cons.mpr ⟨jm_93_172 G, List.forall_mem_cons.mpr ⟨jm_93_178 G, List.forall_mem_cons.mpr ⟨jm_93_184 G, fun _ h => absurd h List.not_mem_nil⟩⟩⟩⟩⟩⟩⟩⟩⟩⟩⟩⟩⟩⟩⟩⟩⟩⟩⟩⟩⟩⟩⟩⟩⟩
def jb_94_0 (G : jx_Gv) : jx_B := ([jo_aload 0, jo_getI 8 11, jo_const (.int (1 : Int32)), jo_ii (· - ·), jo_istore 1, jo_aload 0, jo_getA 8 15, jo_iload 1, jo_aload 0], .inr (.inr (.inr (.inl (85, 1, 16, some 8)))))
theorem jm_94_0 (G : jx_Gv) : jx_mo (jb_94_0 G).1 := ⟨mo_aload _, mo_getI _ _, mo_const _, mo_ii _, mo_istore _, mo_aload _, mo_getA _ _, mo_iload _, mo_aload _, trivial⟩
def jb_94_16 (G : jx_Gv) : jx_B := ([jo_iast 0, jo_aload 0, jo_const (.int (46 : Int32))], .inr (.inr (.inr (.inl (86, 2, 23, some 8)))))
theorem jm_94_16 (G : jx_Gv) : jx_mo (jb_94_16 G).1 := ⟨mo_iast _, mo_aload _, mo_const _, trivial⟩
def jb_94_23 (G : jx_Gv) : jx_B := ([jo_pop, jo_aload 0, jo_getA 8 16, jo_iload 1, jo_aload 0], .inr (.inr (.inr (.inl (85, 1, 33, some 8)))))
theorem jm_94_23 (G : jx_Gv) : jx_mo (jb_94_23 G).1 := ⟨mo_pop, mo_aload _, mo_getA _ _, mo_iload _, mo_aload _, trivial⟩
def jb_94_33 (G : jx_Gv) : jx_B := ([jo_iast 0, jo_aload 0, jo_const (.int (16 : Int32))], .inr (.inr (.inr (.inl (90, 2, 40, some 8)))))
theorem jm_94_33 (G : jx_Gv) : jx_mo (jb_94_33 G).1 := ⟨mo_iast _, mo_aload _, mo_const _, trivial⟩
def jb_94_40 (G : jx_Gv) : jx_B := ([jo_pop, jo_aload 0, jo_getA 8 17, jo_iload 1, jo_aload 0], .inr (.inr (.inr (.inl (85, 1, 50, some 8)))))
theorem jm_94_40 (G : jx_Gv) : jx_mo (jb_94_40 G).1 := ⟨mo_pop, mo_aload _, mo_getA _ _, mo_iload _, mo_aload _, trivial⟩
def jb_94_50 (G : jx_Gv) : jx_B := ([jo_iast 0, jo_aload 0, jo_const (.int (46 : Int32))], .inr (.inr (.inr (.inl (86, 2, 57, some 8)))))
theorem jm_94_50 (G : jx_Gv) : jx_mo (jb_94_50 G).1 := ⟨mo_iast _, mo_aload _, mo_const _, trivial⟩
def jb_94_57 (G : jx_Gv) : jx_B := ([jo_pop, jo_aload 0, jo_getA 8 18, jo_iload 1, jo_aload 0], .inr (.inr (.inr (.inl (85, 1, 67, some 8)))))
theorem jm_94_57 (G : jx_Gv) : jx_mo (jb_94_57 G).1 := ⟨mo_pop, mo_aload _, mo_getA _ _, mo_iload _, mo_aload _, trivial⟩
def jb_94_67 (G : jx_Gv) : jx_B := ([jo_iast 0, jo_aload 0, jo_const (.int (59 : Int32))], .inr (.inr (.inr (.inl (86, 2, 74, some 8)))))
theorem jm_94_67 (G : jx_Gv) : jx_mo (jb_94_67 G).1 := ⟨mo_iast _, mo_aload _, mo_const _, trivial⟩
def jb_94_74 (G : jx_Gv) : jx_B := ([jo_pop], .inr (.inr (.inr (.inr jr_v))))
theorem jm_94_74 (G : jx_Gv) : jx_mo (jb_94_74 G).1 := ⟨mo_pop, trivial⟩
def jbs_94 (G : jx_Gv) : List (Nat × jx_B) := [(0, jb_94_0 G), (16, jb_94_16 G), (23, jb_94_23 G), (33, jb_94_33 G), (40, jb_94_40 G), (50, jb_94_50 G), (57, jb_94_57 G), (67, jb_94_67 G), (74, jb_94_74 G)]
theorem jms_94 (G : jx_Gv) : ∀ e ∈ jbs_94 G, jx_mo e.2.1 := List.forall_mem_cons.mpr ⟨jm_94_0 G, List.forall_mem_cons.mpr ⟨jm_94_16 G, List.forall_mem_cons.mpr ⟨jm_94_23 G, List.forall_mem_cons.mpr ⟨jm_94_33 G, List.forall_mem_cons.mpr ⟨jm_94_40 G, List.forall_mem_cons.mpr ⟨jm_94_50 G, List.forall_mem_cons.mpr ⟨jm_94_57 G, List.forall_mem_cons.mpr ⟨jm_94_67 G, List.forall_mem_cons.mpr ⟨jm_94_74 G, fun _ h => absurd h List.not_mem_nil⟩⟩⟩⟩⟩⟩⟩⟩⟩
def jb_95_0 (G : jx_Gv) : jx_B := ([jo_aload 0, jo_getI 8 4, jo_const (.int (1 : Int32))], .inl (jc_ii (fun x y => decide (¬ x = y)), 15, 8))
theorem jm_95_0 (G : jx_Gv) : jx_mo (jb_95_0 G).1 := ⟨mo_aload _, mo_getI _ _, mo_const _, trivial⟩
def jb_95_8 (G : jx_Gv) : jx_B := ([jo_aload 0, jo_getI 8 5], .inr (.inl 16))
theorem jm_95_8 (G : jx_Gv) : jx_mo (jb_95_8 G).1 := ⟨mo_aload _, mo_getI _ _, trivial⟩
def jb_95_15 (G : jx_Gv) : jx_B := ([jo_const (.int (0 : Int32))], .inr (.inl 16))
theorem jm_95_15 (G : jx_Gv) : jx_mo (jb_95_15 G).1 := ⟨mo_const _, trivial⟩
def jb_95_16 (G : jx_Gv) : jx_B := ([jo_istore 2, jo_iload 1, jo_const (.int (3 : Int32))], .inl (jc_ii (fun x y => decide (¬ x = y)), 40, 22))
theorem jm_95_16 (G : jx_Gv) : jx_mo (jb_95_16 G).1 := ⟨mo_istore _, mo_iload _, mo_const _, trivial⟩
def jb_95_22 (G : jx_Gv) : jx_B := ([jo_iload 2, jo_const (.int (4 : Int32))], .inl (jc_ii (fun x y => decide (¬ x = y)), 40, 27))
theorem jm_95_22 (G : jx_Gv) : jx_mo (jb_95_22 G).1 := ⟨mo_iload _, mo_const _, trivial⟩
def jb_95_27 (G : jx_Gv) : jx_B := ([jo_aload 0, jo_const (.int (6 : Int32))], .inr (.inr (.inr (.inl (83, 2, 33, some 8)))))
theorem jm_95_27 (G : jx_Gv) : jx_mo (jb_95_27 G).1 := ⟨mo_aload _, mo_const _, trivial⟩
def jb_95_33 (G : jx_Gv) : jx_B := ([jo_aload 0], .inr (.inr (.inr (.inl (91, 1, 37, some 8)))))
theorem jm_95_33 (G : jx_Gv) : jx_mo (jb_95_33 G).1 := ⟨mo_aload _, trivial⟩
def jb_95_37 (G : jx_Gv) : jx_B := ([], .inr (.inl 174))
theorem jm_95_37 (G : jx_Gv) : jx_mo (jb_95_37 G).1 := trivial
def jb_95_40 (G : jx_Gv) : jx_B := ([jo_iload 1, jo_const (.int (4 : Int32))], .inl (jc_ii (fun x y => decide (¬ x = y)), 98, 45))
theorem jm_95_40 (G : jx_Gv) : jx_mo (jb_95_40 G).1 := ⟨mo_iload _, mo_const _, trivial⟩
def jb_95_45 (G : jx_Gv) : jx_B := ([jo_iload 2, jo_const (.int (6 : Int32))], .inl (jc_ii (fun x y => decide (x = y)), 63, 51))
theorem jm_95_45 (G : jx_Gv) : jx_mo (jb_95_45 G).1 := ⟨mo_iload _, mo_const _, trivial⟩
def jb_95_51 (G : jx_Gv) : jx_B := ([jo_iload 2, jo_const (.int (7 : Int32))], .inl (jc_ii (fun x y => decide (x = y)), 63, 57))
theorem jm_95_51 (G : jx_Gv) : jx_mo (jb_95_51 G).1 := ⟨mo_iload _, mo_const _, trivial⟩
def jb_95_57 (G : jx_Gv) : jx_B := ([jo_iload 2, jo_const (.int (8 : Int32))], .inl (jc_ii (fun x y => decide (¬ x = y)), 98, 63))
theorem jm_95_57 (G : jx_Gv) : jx_mo (jb_95_57 G).1 := ⟨mo_iload _, mo_const _, trivial⟩
def jb_95_63 (G : jx_Gv) : jx_B := ([jo_aload 0, jo_iload 2, jo_const (.int (6 : Int32))], .inl (jc_ii (fun x y => decide (¬ x = y)), 75, 70))
theorem jm_95_63 (G : jx_Gv) : jx_mo (jb_95_63 G).1 := ⟨mo_aload _, mo_iload _, mo_const _, trivial⟩
def jb_95_70 (G : jx_Gv) : jx_B := ([jo_const (.int (7 : Int32))], .inr (.inl 88))
theorem jm_95_70 (G : jx_Gv) : jx_mo (jb_95_70 G).1 := ⟨mo_const _, trivial⟩
def jb_95_75 (G : jx_Gv) : jx_B := ([jo_iload 2, jo_const (.int (7 : Int32))], .inl (jc_ii (fun x y => decide (¬ x = y)), 86, 81))
theorem jm_95_75 (G : jx_Gv) : jx_mo (jb_95_75 G).1 := ⟨mo_iload _, mo_const _, trivial⟩
def jb_95_81 (G : jx_Gv) : jx_B := ([jo_const (.int (8 : Int32))], .inr (.inl 88))
theorem jm_95_81 (G : jx_Gv) : jx_mo (jb_95_81 G).1 := ⟨mo_const _, trivial⟩
def jb_95_86 (G : jx_Gv) : jx_B := ([jo_const (.int (9 : Int32))], .inr (.inl 88))
theorem jm_95_86 (G : jx_Gv) : jx_mo (jb_95_86 G).1 := ⟨mo_const _, trivial⟩
def jb_95_88 (G : jx_Gv) : jx_B := ([], .inr (.inr (.inr (.inl (83, 2, 91, some 8)))))
theorem jm_95_88 (G : jx_Gv) : jx_mo (jb_95_88 G).1 := trivial
def jb_95_91 (G : jx_Gv) : jx_B := ([jo_aload 0], .inr (.inr (.inr (.inl (91, 1, 95, some 8)))))
theorem jm_95_91 (G : jx_Gv) : jx_mo (jb_95_91 G).1 := ⟨mo_aload _, trivial⟩
def jb_95_95 (G : jx_Gv) : jx_B := ([], .inr (.inl 174))
theorem jm_95_95 (G : jx_Gv) : jx_mo (jb_95_95 G).1 := trivial
def jb_95_98 (G : jx_Gv) : jx_B := ([jo_iload 1, jo_const (.int (4 : Int32))], .inl (jc_ii (fun x y => decide (¬ x = y)), 122, 103))
theorem jm_95_98 (G : jx_Gv) : jx_mo (jb_95_98 G).1 := ⟨mo_iload _, mo_const _, trivial⟩
def jb_95_103 (G : jx_Gv) : jx_B := ([jo_iload 2, jo_const (.int (9 : Int32))], .inl (jc_ii (fun x y => decide (¬ x = y)), 122, 109))
theorem jm_95_103 (G : jx_Gv) : jx_mo (jb_95_103 G).1 := ⟨mo_iload _, mo_const _, trivial⟩
def jb_95_109 (G : jx_Gv) : jx_B := ([jo_aload 0, jo_const (.int (10 : Int32))], .inr (.inr (.inr (.inl (83, 2, 115, some 8)))))
theorem jm_95_109 (G : jx_Gv) : jx_mo (jb_95_109 G).1 := ⟨mo_aload _, mo_const _, trivial⟩
def jb_95_115 (G : jx_Gv) : jx_B := ([jo_aload 0], .inr (.inr (.inr (.inl (93, 1, 119, some 8)))))
theorem jm_95_115 (G : jx_Gv) : jx_mo (jb_95_115 G).1 := ⟨mo_aload _, trivial⟩
def jb_95_119 (G : jx_Gv) : jx_B := ([], .inr (.inl 174))
theorem jm_95_119 (G : jx_Gv) : jx_mo (jb_95_119 G).1 := trivial
def jb_95_122 (G : jx_Gv) : jx_B := ([jo_iload 1, jo_const (.int (5 : Int32))], .inl (jc_ii (fun x y => decide (¬ x = y)), 145, 127))
theorem jm_95_122 (G : jx_Gv) : jx_mo (jb_95_122 G).1 := ⟨mo_iload _, mo_const _, trivial⟩
def jb_95_127 (G : jx_Gv) : jx_B := ([jo_iload 2, jo_const (.int (5 : Int32))], .inl (jc_ii (fun x y => decide (¬ x = y)), 145, 132))
theorem jm_95_127 (G : jx_Gv) : jx_mo (jb_95_127 G).1 := ⟨mo_iload _, mo_const _, trivial⟩
def jb_95_132 (G : jx_Gv) : jx_B := ([jo_aload 0, jo_const (.int (11 : Int32))], .inr (.inr (.inr (.inl (83, 2, 138, some 8)))))
theorem jm_95_132 (G : jx_Gv) : jx_mo (jb_95_132 G).1 := ⟨mo_aload _, mo_const _, trivial⟩
def jb_95_138 (G : jx_Gv) : jx_B := ([jo_aload 0], .inr (.inr (.inr (.inl (91, 1, 142, some 8)))))
theorem jm_95_138 (G : jx_Gv) : jx_mo (jb_95_138 G).1 := ⟨mo_aload _, trivial⟩
def jb_95_142 (G : jx_Gv) : jx_B := ([], .inr (.inl 174))
theorem jm_95_142 (G : jx_Gv) : jx_mo (jb_95_142 G).1 := trivial
def jb_95_145 (G : jx_Gv) : jx_B := ([jo_iload 1, jo_const (.int (5 : Int32))], .inl (jc_ii (fun x y => decide (¬ x = y)), 169, 150))
theorem jm_95_145 (G : jx_Gv) : jx_mo (jb_95_145 G).1 := ⟨mo_iload _, mo_const _, trivial⟩
def jb_95_150 (G : jx_Gv) : jx_B := ([jo_iload 2, jo_const (.int (15 : Int32))], .inl (jc_ii (fun x y => decide (¬ x = y)), 169, 156))
theorem jm_95_150 (G : jx_Gv) : jx_mo (jb_95_150 G).1 := ⟨mo_iload _, mo_const _, trivial⟩
def jb_95_156 (G : jx_Gv) : jx_B := ([jo_aload 0, jo_const (.int (12 : Int32))], .inr (.inr (.inr (.inl (83, 2, 162, some 8)))))
theorem jm_95_156 (G : jx_Gv) : jx_mo (jb_95_156 G).1 := ⟨mo_aload _, mo_const _, trivial⟩
def jb_95_162 (G : jx_Gv) : jx_B := ([jo_aload 0], .inr (.inr (.inr (.inl (94, 1, 166, some 8)))))
theorem jm_95_162 (G : jx_Gv) : jx_mo (jb_95_162 G).1 := ⟨mo_aload _, trivial⟩
def jb_95_166 (G : jx_Gv) : jx_B := ([], .inr (.inl 174))
theorem jm_95_166 (G : jx_Gv) : jx_mo (jb_95_166 G).1 := trivial
def jb_95_169 (G : jx_Gv) : jx_B := ([jo_aload 0, jo_const (.int (0 : Int32)), jo_putZ 8 7], .inr (.inl 174))
theorem jm_95_169 (G : jx_Gv) : jx_mo (jb_95_169 G).1 := ⟨mo_aload _, mo_const _, mo_putZ _ _, trivial⟩
def jb_95_174 (G : jx_Gv) : jx_B := ([], .inr (.inr (.inr (.inr jr_v))))
theorem jm_95_174 (G : jx_Gv) : jx_mo (jb_95_174 G).1 := trivial
def jbs_95 (G : jx_Gv) : List (Nat × jx_B) := [(0, jb_95_0 G), (8, jb_95_8 G), (15, jb_95_15 G), (16, jb_95_16 G), (22, jb_95_22 G), (27, jb_95_27 G), (33, jb_95_33 G), (37, jb_95_37 G), (40, jb_95_40 G), (45, jb_95_45 G), (51, jb_95_51 G), (57, jb_95_57 G), (63, jb_95_63 G), (70, jb_95_70 G), (75, jb_95_75 G), (81, jb_95_81 G), (86, jb_95_86 G), (88, jb_95_88 G), (91, jb_95_91 G), (95, jb_95_95 G), (98, jb_95_98 G), (103, jb_95_103 G), (109, jb_95_109 G), (115, jb_95_115 G), (119, jb_95_119 G), (122, jb_95_122 G), (127, jb_95_127 G), (132, jb_95_132 G), (138, jb_95_138 G), (142, jb_95_142 G), (145, jb_95_145 G), (150, jb_95_150 G), (156, jb_95_156 G), (162, jb_95_162 G), (166, jb_95_166 G), (169, jb_95_169 G), (174, jb_95_174 G)]
theorem jms_95 (G : jx_Gv) : ∀ e ∈ jbs_95 G, jx_mo e.2.1 := List.forall_mem_cons.mpr ⟨jm_95_0 G, List.forall_mem_cons.mpr ⟨jm_95_8 G, List.forall_mem_cons.mpr ⟨jm_95_15 G, List.forall_mem_cons.mpr ⟨jm_95_16 G, List.forall_mem_cons.mpr ⟨jm_95_22 G, List.forall_mem_cons.mpr ⟨jm_95_27 G, List.forall_mem_cons.mpr ⟨jm_95_33 G, List.forall_mem_cons.mpr ⟨jm_95_37 G, List.forall_mem_cons.mpr ⟨jm_95_40 G, List.forall_mem_cons.mpr ⟨jm_95_45 G, List.forall_mem_cons.mpr ⟨jm_95_51 G, List.forall_mem_cons.mpr ⟨jm_95_57 G, List.forall_mem_cons.mpr ⟨jm_95_63 G, List.forall_mem_cons.mpr ⟨jm_95_70 G, List.forall_mem_cons.mpr ⟨jm_95_75 G, List.forall_mem_cons.mpr ⟨jm_95_81 G, List.forall_mem_cons.mpr ⟨jm_95_86 G, List.forall_mem_cons.mpr ⟨jm_95_88 G, List.forall_mem_cons.mpr ⟨jm_95_91 G, List.forall_mem_cons.mpr ⟨jm_95_95 G, List.forall_mem_cons.mpr ⟨jm_95_98 G, List.forall_mem_cons.mpr ⟨jm_95_103 G, List.forall_mem_cons.mpr ⟨jm_95_109 G, List.forall_mem_cons.mpr ⟨jm_95_115 G, List.forall_mem_cons.mpr ⟨jm_95_119 G, List.forall_mem_cons.mpr ⟨jm_95_122 G, List.forall_mem_cons.mpr ⟨jm_95_127 G, List.forall_mem_cons.mpr ⟨jm_95_132 G, List.forall_mem_cons.mpr ⟨jm_95_138 G, List.forall_mem_cons.mpr ⟨jm_95_142 G, List.forall_mem_cons.mpr ⟨jm_95_145 G, List.forall_mem_cons.mpr ⟨jm_95_150 G, List.forall_mem_cons.mpr ⟨jm_95_156 G, List.forall_mem_cons.mpr ⟨jm_95_162 G, List.forall_mem_cons.mpr ⟨jm_95_166 G, List.forall_mem_cons.mpr ⟨jm_95_169 G, List.forall_mem_cons.mpr ⟨jm_95_174 G, fun _ h => absurd h List.not_mem_nil⟩⟩⟩⟩⟩⟩⟩⟩⟩⟩⟩⟩⟩⟩⟩⟩⟩⟩⟩⟩⟩⟩⟩⟩⟩⟩⟩⟩⟩⟩⟩⟩⟩⟩⟩⟩⟩
def jb_96_0 (G : jx_Gv) : jx_B := ([jo_aload 0, jo_iload 1, jo_putI 8 31], .inr (.inl 5))
theorem jm_96_0 (G : jx_Gv) : jx_mo (jb_96_0 G).1 := ⟨mo_aload _, mo_iload _, mo_putI _ _, trivial⟩
def jb_96_5 (G : jx_Gv) : jx_B := ([jo_aload 0, jo_getI 8 7], .inl (jc_i (fun x => decide (x = 0)), 42, 12))
theorem jm_96_5 (G : jx_Gv) : jx_mo (jb_96_5 G).1 := ⟨mo_aload _, mo_getI _ _, trivial⟩
def jb_96_12 (G : jx_Gv) : jx_B := ([jo_aload 0, jo_getI 8 4, jo_const (.int (4 : Int32))], .inl (jc_ii (fun x y => decide (¬ x = y)), 29, 20))
theorem jm_96_12 (G : jx_Gv) : jx_mo (jb_96_12 G).1 := ⟨mo_aload _, mo_getI _ _, mo_const _, trivial⟩
def jb_96_20 (G : jx_Gv) : jx_B := ([jo_aload 0, jo_getI 8 5, jo_const (.int (125 : Int32))], .inl (jc_ii (fun x y => decide (x = y)), 42, 29))
theorem jm_96_20 (G : jx_Gv) : jx_mo (jb_96_20 G).1 := ⟨mo_aload _, mo_getI _ _, mo_const _, trivial⟩
def jb_96_29 (G : jx_Gv) : jx_B := ([jo_aload 0, jo_aload 0, jo_getA 8 12, jo_iload 1, jo_iald 0], .inr (.inr (.inr (.inl (95, 2, 39, some 8)))))
theorem jm_96_29 (G : jx_Gv) : jx_mo (jb_96_29 G).1 := ⟨mo_aload _, mo_aload _, mo_getA _ _, mo_iload _, mo_iald _, trivial⟩
def jb_96_39 (G : jx_Gv) : jx_B := ([], .inr (.inl 5))
theorem jm_96_39 (G : jx_Gv) : jx_mo (jb_96_39 G).1 := trivial
def jb_96_42 (G : jx_Gv) : jx_B := ([jo_aload 0, jo_const (.int (13 : Int32))], .inr (.inr (.inr (.inl (83, 2, 48, some 8)))))
theorem jm_96_42 (G : jx_Gv) : jx_mo (jb_96_42 G).1 := ⟨mo_aload _, mo_const _, trivial⟩
def jb_96_48 (G : jx_Gv) : jx_B := ([jo_aload 0, jo_const (.int (-1 : Int32)), jo_putI 8 31], .inr (.inr (.inr (.inr jr_v))))
theorem jm_96_48 (G : jx_Gv) : jx_mo (jb_96_48 G).1 := ⟨mo_aload _, mo_const _, mo_putI _ _, trivial⟩
def jbs_96 (G : jx_Gv) : List (Nat × jx_B) := [(0, jb_96_0 G), (5, jb_96_5 G), (12, jb_96_12 G), (20, jb_96_20 G), (29, jb_96_29 G), (39, jb_96_39 G), (42, jb_96_42 G), (48, jb_96_48 G)]
theorem jms_96 (G : jx_Gv) : ∀ e ∈ jbs_96 G, jx_mo e.2.1 := List.forall_mem_cons.mpr ⟨jm_96_0 G, List.forall_mem_cons.mpr ⟨jm_96_5 G, List.forall_mem_cons.mpr ⟨jm_96_12 G, List.forall_mem_cons.mpr ⟨jm_96_20 G, List.forall_mem_cons.mpr ⟨jm_96_29 G, List.forall_mem_cons.mpr ⟨jm_96_39 G, List.forall_mem_cons.mpr ⟨jm_96_42 G, List.forall_mem_cons.mpr ⟨jm_96_48 G, fun _ h => absurd h List.not_mem_nil⟩⟩⟩⟩⟩⟩⟩⟩
def jb_97_0 (G : jx_Gv) : jx_B := ([jo_aload 0, jo_getI 8 4, jo_const (.int (1 : Int32))], .inl (jc_ii (fun x y => decide (¬ x = y)), 15, 8))
theorem jm_97_0 (G : jx_Gv) : jx_mo (jb_97_0 G).1 := ⟨mo_aload _, mo_getI _ _, mo_const _, trivial⟩
def jb_97_8 (G : jx_Gv) : jx_B := ([jo_aload 0, jo_getI 8 5], .inr (.inl 16))
theorem jm_97_8 (G : jx_Gv) : jx_mo (jb_97_8 G).1 := ⟨mo_aload _, mo_getI _ _, trivial⟩
def jb_97_15 (G : jx_Gv) : jx_B := ([jo_const (.int (0 : Int32))], .inr (.inl 16))
theorem jm_97_15 (G : jx_Gv) : jx_mo (jb_97_15 G).1 := ⟨mo_const _, trivial⟩
def jb_97_16 (G : jx_Gv) : jx_B := ([jo_istore 1, jo_aload 0, jo_getI 8 11, jo_istore 2, jo_iload 1, jo_const (.int (1 : Int32))], .inl (jc_ii (fun x y => decide (¬ x = y)), 106, 27))
theorem jm_97_16 (G : jx_Gv) : jx_mo (jb_97_16 G).1 := ⟨mo_istore _, mo_aload _, mo_getI _ _, mo_istore _, mo_iload _, mo_const _, trivial⟩
def jb_97_27 (G : jx_Gv) : jx_B := ([jo_aload 0, jo_const (.int (1 : Int32))], .inr (.inr (.inr (.inl (83, 2, 32, some 8)))))
theorem jm_97_27 (G : jx_Gv) : jx_mo (jb_97_27 G).1 := ⟨mo_aload _, mo_const _, trivial⟩
def jb_97_32 (G : jx_Gv) : jx_B := ([jo_aload 0], .inr (.inr (.inr (.inl (85, 1, 36, some 8)))))
theorem jm_97_32 (G : jx_Gv) : jx_mo (jb_97_32 G).1 := ⟨mo_aload _, trivial⟩
def jb_97_36 (G : jx_Gv) : jx_B := ([jo_istore 3, jo_aload 0, jo_const (.int (61 : Int32))], .inr (.inr (.inr (.inl (86, 2, 43, some 8)))))
theorem jm_97_36 (G : jx_Gv) : jx_mo (jb_97_36 G).1 := ⟨mo_istore _, mo_aload _, mo_const _, trivial⟩
def jb_97_43 (G : jx_Gv) : jx_B := ([jo_pop, jo_aload 0, jo_const (.int (1 : Int32)), jo_const (.int (9999 : Int32))], .inr (.inr (.inr (.inl (87, 3, 52, some 8)))))
theorem jm_97_43 (G : jx_Gv) : jx_mo (jb_97_43 G).1 := ⟨mo_pop, mo_aload _, mo_const _, mo_const _, trivial⟩
def jb_97_52 (G : jx_Gv) : jx_B := ([jo_istore 4, jo_aload 0, jo_const (.int (47 : Int32))], .inr (.inr (.inr (.inl (86, 2, 60, some 8)))))
theorem jm_97_52 (G : jx_Gv) : jx_mo (jb_97_52 G).1 := ⟨mo_istore _, mo_aload _, mo_const _, trivial⟩
def jb_97_60 (G : jx_Gv) : jx_B := ([jo_pop, jo_aload 0, jo_const (.int (1 : Int32)), jo_const (.int (9999 : Int32))], .inr (.inr (.inr (.inl (87, 3, 69, some 8)))))
theorem jm_97_60 (G : jx_Gv) : jx_mo (jb_97_60 G).1 := ⟨mo_pop, mo_aload _, mo_const _, mo_const _, trivial⟩
def jb_97_69 (G : jx_Gv) : jx_B := ([jo_istore 5, jo_aload 0], .inr (.inr (.inr (.inl (85, 1, 75, some 8)))))
theorem jm_97_69 (G : jx_Gv) : jx_mo (jb_97_69 G).1 := ⟨mo_istore _, mo_aload _, trivial⟩
def jb_97_75 (G : jx_Gv) : jx_B := ([jo_istore 6, jo_aload 0, jo_const (.int (59 : Int32))], .inr (.inr (.inr (.inl (86, 2, 83, some 8)))))
theorem jm_97_75 (G : jx_Gv) : jx_mo (jb_97_75 G).1 := ⟨mo_istore _, mo_aload _, mo_const _, trivial⟩
def jb_97_83 (G : jx_Gv) : jx_B := ([jo_pop, jo_aload 0, jo_getI 8 7], .inl (jc_i (fun x => decide (x = 0)), 103, 91))
theorem jm_97_83 (G : jx_Gv) : jx_mo (jb_97_83 G).1 := ⟨mo_pop, mo_aload _, mo_getI _ _, trivial⟩
def jb_97_91 (G : jx_Gv) : jx_B := ([jo_aload 0, jo_iload 2, jo_iload 3, jo_iload 6, jo_iload 4, jo_iload 5], .inr (.inr (.inr (.inl (88, 6, 103, some 8)))))
theorem jm_97_91 (G : jx_Gv) : jx_mo (jb_97_91 G).1 := ⟨mo_aload _, mo_iload _, mo_iload _, mo_iload _, mo_iload _, mo_iload _, trivial⟩
def jb_97_103 (G : jx_Gv) : jx_B := ([], .inr (.inl 260))
theorem jm_97_103 (G : jx_Gv) : jx_mo (jb_97_103 G).1 := trivial
def jb_97_106 (G : jx_Gv) : jx_B := ([jo_iload 1, jo_const (.int (2 : Int32))], .inl (jc_ii (fun x y => decide (¬ x = y)), 182, 111))
theorem jm_97_106 (G : jx_Gv) : jx_mo (jb_97_106 G).1 := ⟨mo_iload _, mo_const _, trivial⟩
def jb_97_111 (G : jx_Gv) : jx_B := ([jo_aload 0, jo_const (.int (2 : Int32))], .inr (.inr (.inr (.inl (83, 2, 116, some 8)))))
theorem jm_97_111 (G : jx_Gv) : jx_mo (jb_97_111 G).1 := ⟨mo_aload _, mo_const _, trivial⟩
def jb_97_116 (G : jx_Gv) : jx_B := ([jo_aload 0], .inr (.inr (.inr (.inl (85, 1, 120, some 8)))))
theorem jm_97_116 (G : jx_Gv) : jx_mo (jb_97_116 G).1 := ⟨mo_aload _, trivial⟩
def jb_97_120 (G : jx_Gv) : jx_B := ([jo_istore 3, jo_aload 0, jo_const (.int (61 : Int32))], .inr (.inr (.inr (.inl (86, 2, 127, some 8)))))
theorem jm_97_120 (G : jx_Gv) : jx_mo (jb_97_120 G).1 := ⟨mo_istore _, mo_aload _, mo_const _, trivial⟩
def jb_97_127 (G : jx_Gv) : jx_B := ([jo_pop, jo_aload 0], .inr (.inr (.inr (.inl (89, 1, 132, some 8)))))
theorem jm_97_127 (G : jx_Gv) : jx_mo (jb_97_127 G).1 := ⟨mo_pop, mo_aload _, trivial⟩
def jb_97_132 (G : jx_Gv) : jx_B := ([jo_istore 4, jo_aload 0, jo_const (.int (16 : Int32))], .inr (.inr (.inr (.inl (90, 2, 140, some 8)))))
theorem jm_97_132 (G : jx_Gv) : jx_mo (jb_97_132 G).1 := ⟨mo_istore _, mo_aload _, mo_const _, trivial⟩
def jb_97_140 (G : jx_Gv) : jx_B := ([jo_pop, jo_aload 0], .inr (.inr (.inr (.inl (89, 1, 145, some 8)))))
theorem jm_97_140 (G : jx_Gv) : jx_mo (jb_97_140 G).1 := ⟨mo_pop, mo_aload _, trivial⟩
def jb_97_145 (G : jx_Gv) : jx_B := ([jo_istore 5, jo_aload 0], .inr (.inr (.inr (.inl (85, 1, 151, some 8)))))
theorem jm_97_145 (G : jx_Gv) : jx_mo (jb_97_145 G).1 := ⟨mo_istore _, mo_aload _, trivial⟩
def jb_97_151 (G : jx_Gv) : jx_B := ([jo_istore 6, jo_aload 0, jo_const (.int (59 : Int32))], .inr (.inr (.inr (.inl (86, 2, 159, some 8)))))
theorem jm_97_151 (G : jx_Gv) : jx_mo (jb_97_151 G).1 := ⟨mo_istore _, mo_aload _, mo_const _, trivial⟩
def jb_97_159 (G : jx_Gv) : jx_B := ([jo_pop, jo_aload 0, jo_getI 8 7], .inl (jc_i (fun x => decide (x = 0)), 179, 167))
theorem jm_97_159 (G : jx_Gv) : jx_mo (jb_97_159 G).1 := ⟨mo_pop, mo_aload _, mo_getI _ _, trivial⟩
def jb_97_167 (G : jx_Gv) : jx_B := ([jo_aload 0, jo_iload 2, jo_iload 3, jo_iload 6, jo_iload 4, jo_iload 5], .inr (.inr (.inr (.inl (88, 6, 179, some 8)))))
theorem jm_97_167 (G : jx_Gv) : jx_mo (jb_97_167 G).1 := ⟨mo_aload _, mo_iload _, mo_iload _, mo_iload _, mo_iload _, mo_iload _, trivial⟩
def jb_97_179 (G : jx_Gv) : jx_B := ([], .inr (.inl 260))
theorem jm_97_179 (G : jx_Gv) : jx_mo (jb_97_179 G).1 := trivial
def jb_97_182 (G : jx_Gv) : jx_B := ([jo_iload 1, jo_const (.int (3 : Int32))], .inl (jc_ii (fun x y => decide (x = y)), 198, 187))
theorem jm_97_182 (G : jx_Gv) : jx_mo (jb_97_182 G).1 := ⟨mo_iload _, mo_const _, trivial⟩
def jb_97_187 (G : jx_Gv) : jx_B := ([jo_iload 1, jo_const (.int (5 : Int32))], .inl (jc_ii (fun x y => decide (x = y)), 198, 192))
theorem jm_97_187 (G : jx_Gv) : jx_mo (jb_97_187 G).1 := ⟨mo_iload _, mo_const _, trivial⟩
def jb_97_192 (G : jx_Gv) : jx_B := ([jo_iload 1, jo_const (.int (14 : Int32))], .inl (jc_ii (fun x y => decide (¬ x = y)), 255, 198))
theorem jm_97_192 (G : jx_Gv) : jx_mo (jb_97_192 G).1 := ⟨mo_iload _, mo_const _, trivial⟩
def jb_97_198 (G : jx_Gv) : jx_B := ([jo_aload 0, jo_iload 1, jo_const (.int (3 : Int32))], .inl (jc_ii (fun x y => decide (¬ x = y)), 208, 204))
theorem jm_97_198 (G : jx_Gv) : jx_mo (jb_97_198 G).1 := ⟨mo_aload _, mo_iload _, mo_const _, trivial⟩
def jb_97_204 (G : jx_Gv) : jx_B := ([jo_const (.int (3 : Int32))], .inr (.inl 218))
theorem jm_97_204 (G : jx_Gv) : jx_mo (jb_97_204 G).1 := ⟨mo_const _, trivial⟩
def jb_97_208 (G : jx_Gv) : jx_B := ([jo_iload 1, jo_const (.int (5 : Int32))], .inl (jc_ii (fun x y => decide (¬ x = y)), 217, 213))
theorem jm_97_208 (G : jx_Gv) : jx_mo (jb_97_208 G).1 := ⟨mo_iload _, mo_const _, trivial⟩
def jb_97_213 (G : jx_Gv) : jx_B := ([jo_const (.int (4 : Int32))], .inr (.inl 218))
theorem jm_97_213 (G : jx_Gv) : jx_mo (jb_97_213 G).1 := ⟨mo_const _, trivial⟩
def jb_97_217 (G : jx_Gv) : jx_B := ([jo_const (.int (5 : Int32))], .inr (.inl 218))
theorem jm_97_217 (G : jx_Gv) : jx_mo (jb_97_217 G).1 := ⟨mo_const _, trivial⟩
def jb_97_218 (G : jx_Gv) : jx_B := ([], .inr (.inr (.inr (.inl (83, 2, 221, some 8)))))
theorem jm_97_218 (G : jx_Gv) : jx_mo (jb_97_218 G).1 := trivial
def jb_97_221 (G : jx_Gv) : jx_B := ([jo_aload 0], .inr (.inr (.inr (.inl (85, 1, 225, some 8)))))
theorem jm_97_221 (G : jx_Gv) : jx_mo (jb_97_221 G).1 := ⟨mo_aload _, trivial⟩
def jb_97_225 (G : jx_Gv) : jx_B := ([jo_istore 3, jo_aload 0, jo_const (.int (123 : Int32))], .inr (.inr (.inr (.inl (86, 2, 232, some 8)))))
theorem jm_97_225 (G : jx_Gv) : jx_mo (jb_97_225 G).1 := ⟨mo_istore _, mo_aload _, mo_const _, trivial⟩
def jb_97_232 (G : jx_Gv) : jx_B := ([jo_pop, jo_aload 0, jo_getI 8 7], .inl (jc_i (fun x => decide (x = 0)), 247, 240))
theorem jm_97_232 (G : jx_Gv) : jx_mo (jb_97_232 G).1 := ⟨mo_pop, mo_aload _, mo_getI _ _, trivial⟩
def jb_97_240 (G : jx_Gv) : jx_B := ([jo_aload 0, jo_getA 8 14, jo_iload 2, jo_iload 3, jo_iast 0], .inr (.inl 247))
theorem jm_97_240 (G : jx_Gv) : jx_mo (jb_97_240 G).1 := ⟨mo_aload _, mo_getA _ _, mo_iload _, mo_iload _, mo_iast _, trivial⟩
def jb_97_247 (G : jx_Gv) : jx_B := ([jo_aload 0, jo_iload 2], .inr (.inr (.inr (.inl (96, 2, 252, some 8)))))
theorem jm_97_247 (G : jx_Gv) : jx_mo (jb_97_247 G).1 := ⟨mo_aload _, mo_iload _, trivial⟩
def jb_97_252 (G : jx_Gv) : jx_B := ([], .inr (.inl 260))
theorem jm_97_252 (G : jx_Gv) : jx_mo (jb_97_252 G).1 := trivial
def jb_97_255 (G : jx_Gv) : jx_B := ([jo_aload 0, jo_const (.int (0 : Int32)), jo_putZ 8 7], .inr (.inl 260))
theorem jm_97_255 (G : jx_Gv) : jx_mo (jb_97_255 G).1 := ⟨mo_aload _, mo_const _, mo_putZ _ _, trivial⟩
def jb_97_260 (G : jx_Gv) : jx_B := ([], .inr (.inr (.inr (.inr jr_v))))
theorem jm_97_260 (G : jx_Gv) : jx_mo (jb_97_260 G).1 := trivial
def jbs_97 (G : jx_Gv) : List (Nat × jx_B) := [(0, jb_97_0 G), (8, jb_97_8 G), (15, jb_97_15 G), (16, jb_97_16 G), (27, jb_97_27 G), (32, jb_97_32 G), (36, jb_97_36 G), (43, jb_97_43 G), (52, jb_97_52 G), (60, jb_97_60 G), (69, jb_97_69 G), (75, jb_97_75 G), (83, jb_97_83 G), (91, jb_97_91 G), (103, jb_97_103 G), (106, jb_97_106 G), (111, jb_97_111 G), (116, jb_97_116 G), (120, jb_97_120 G), (127, jb_97_127 G), (132, jb_97_132 G), (140, jb_97_140 G), (145, jb_97_145 G), (151, jb_97_151 G), (159, jb_97_159 G), (167, jb_97_167 G), (179, jb_97_179 G), (182, jb_97_182 G), (187, jb_97_187 G), (192, jb_97_192 G), (198, jb_97_198 G), (204, jb_97_204 G), (208, jb_97_208 G), (213, jb_97_213 G), (217, jb_97_217 G), (218, jb_97_218 G), (221, jb_97_221 G), (225, jb_97_225 G), (232, jb_97_232 G), (240, jb_97_240 G), (247, jb_97_247 G), (252, jb_97_252 G), (255, jb_97_255 G), (260, jb_97_260 G)]
theorem jms_97 (G : jx_Gv) : ∀ e ∈ jbs_97 G, jx_mo e.2.1 := List.forall_mem_cons.mpr ⟨jm_97_0 G, List.forall_mem_cons.mpr ⟨jm_97_8 G, List.forall_mem_cons.mpr ⟨jm_97_15 G, List.forall_mem_cons.mpr ⟨jm_97_16 G, List.forall_mem_cons.mpr ⟨jm_97_27 G, List.forall_mem_cons.mpr ⟨jm_97_32 G, List.forall_mem_cons.mpr ⟨jm_97_36 G, List.forall_mem_cons.mpr ⟨jm_97_43 G, List.forall_mem_cons.mpr ⟨jm_97_52 G, List.forall_mem_cons.mpr ⟨jm_97_60 G, List.forall_mem_cons.mpr ⟨jm_97_69 G, List.forall_mem_cons.mpr ⟨jm_97_75 G, List.forall_mem_cons.mpr ⟨jm_97_83 G, List.forall_mem_cons.mpr ⟨jm_97_91 G, List.forall_mem_cons.mpr ⟨jm_97_103 G, List.forall_mem_cons.mpr ⟨jm_97_106 G, List.forall_mem_cons.mpr ⟨jm_97_111 G, List.forall_mem_cons.mpr ⟨jm_97_116 G, List.forall_mem_cons.mpr ⟨jm_97_120 G, List.forall_mem_cons.mpr ⟨jm_97_127 G, List.forall_mem_cons.mpr ⟨jm_97_132 G, List.forall_mem_cons.mpr ⟨jm_97_140 G, List.forall_mem_cons.mpr ⟨jm_97_145 G, List.forall_mem_cons.mpr ⟨jm_97_151 G, List.forall_mem_cons.mpr ⟨jm_97_159 G, List.forall_mem_cons.mpr ⟨jm_97_167 G, List.forall_mem_cons.mpr ⟨jm_97_179 G, List.forall_mem_cons.mpr ⟨jm_97_182 G, List.forall_mem_cons.mpr ⟨jm_97_187 G, List.forall_mem_cons.mpr ⟨jm_97_192 G, List.forall_mem_cons.mpr ⟨jm_97_198 G, List.forall_mem_cons.mpr ⟨jm_97_204 G, List.forall_mem_cons.mpr ⟨jm_97_208 G, List.forall_mem_cons.mpr ⟨jm_97_213 G, List.forall_mem_cons.mpr ⟨jm_97_217 G, List.forall_mem_cons.mpr ⟨jm_97_218 G, List.forall_mem_cons.mpr ⟨jm_97_221 G, List.forall_mem_cons.mpr ⟨jm_97_225 G, List.forall_mem_cons.mpr ⟨jm_97_232 G, List.forall_mem_cons.mpr ⟨jm_97_240 G, List.forall_mem_cons.mpr ⟨jm_97_247 G, List.forall_mem_cons.mpr ⟨jm_97_252 G, List.forall_mem_cons.mpr ⟨jm_97_255 G, List.forall_mem_cons.mpr ⟨jm_97_260 G, fun _ h => absurd h List.not_mem_nil⟩⟩⟩⟩⟩⟩⟩⟩⟩⟩⟩⟩⟩⟩⟩⟩⟩⟩⟩⟩⟩⟩⟩⟩⟩⟩⟩⟩⟩⟩⟩⟩⟩⟩⟩⟩⟩⟩⟩⟩⟩⟩⟩⟩
def jb_98_0 (G : jx_Gv) : jx_B := ([jo_aload 0, jo_const (.int (1 : Int32)), jo_putZ 8 32, jo_aload 0, jo_aload 0, jo_getI 8 11, jo_putI 8 33, jo_const (.int (0 : Int32)), jo_istore 1], .inr (.inl 15))
theorem jm_98_0 (G : jx_Gv) : jx_mo (jb_98_0 G).1 := ⟨mo_aload _, mo_const _, mo_putZ _ _, mo_aload _, mo_aload _, mo_getI _ _, mo_putI _ _, mo_const _, mo_istore _, trivial⟩
def jb_98_15 (G : jx_Gv) : jx_B := ([jo_iload 1, jo_aload 0, jo_getI 8 11], .inl (jc_ii (fun x y => decide (y ≤ x)), 173, 23))
theorem jm_98_15 (G : jx_Gv) : jx_mo (jb_98_15 G).1 := ⟨mo_iload _, mo_aload _, mo_getI _ _, trivial⟩
def jb_98_23 (G : jx_Gv) : jx_B := ([jo_aload 0, jo_getA 8 34, jo_iload 1, jo_aload 0, jo_getA 8 12, jo_iload 1, jo_iald 0, jo_iast 0, jo_aload 0, jo_getA 8 35, jo_iload 1, jo_aload 0, jo_getA 8 13, jo_iload 1, jo_iald 0, jo_iast 0, jo_aload 0, jo_getA 8 36, jo_iload 1, jo_aload 0, jo_getA 8 14, jo_iload 1, jo_iald 0, jo_iast 0], .inr (.inl 59))
theorem jm_98_23 (G : jx_Gv) : jx_mo (jb_98_23 G).1 := ⟨mo_aload _, mo_getA _ _, mo_iload _, mo_aload _, mo_getA _ _, mo_iload _, mo_iald _, mo_iast _, mo_aload _, mo_getA _ _, mo_iload _, mo_aload _, mo_getA _ _, mo_iload _, mo_iald _, mo_iast _, mo_aload _, mo_getA _ _, mo_iload _, mo_aload _, mo_getA _ _, mo_iload _, mo_iald _, mo_iast _, trivial⟩
def jb_98_59 (G : jx_Gv) : jx_B := ([jo_aload 0, jo_getA 8 37, jo_iload 1, jo_aload 0, jo_getA 8 15, jo_iload 1, jo_iald 0, jo_iast 0, jo_aload 0, jo_getA 8 38, jo_iload 1, jo_aload 0, jo_getA 8 16, jo_iload 1, jo_iald 0, jo_iast 0, jo_aload 0, jo_getA 8 39, jo_iload 1, jo_aload 0, jo_getA 8 17, jo_iload 1, jo_iald 0, jo_iast 0], .inr (.inl 95))
theorem jm_98_59 (G : jx_Gv) : jx_mo (jb_98_59 G).1 := ⟨mo_aload _, mo_getA _ _, mo_iload _, mo_aload _, mo_getA _ _, mo_iload _, mo_iald _, mo_iast _, mo_aload _, mo_getA _ _, mo_iload _, mo_aload _, mo_getA _ _, mo_iload _, mo_iald _, mo_iast _, mo_aload _, mo_getA _ _, mo_iload _, mo_aload _, mo_getA _ _, mo_iload _, mo_iald _, mo_iast _, trivial⟩
def jb_98_95 (G : jx_Gv) : jx_B := ([jo_aload 0, jo_getA 8 40, jo_iload 1, jo_aload 0, jo_getA 8 18, jo_iload 1, jo_iald 0, jo_iast 0, jo_aload 0, jo_getA 8 41, jo_iload 1, jo_aload 0, jo_getA 8 19, jo_iload 1, jo_iald 0, jo_iast 0, jo_aload 0, jo_getA 8 42, jo_iload 1, jo_aload 0, jo_getA 8 20, jo_iload 1, jo_iald 0, jo_iast 0], .inr (.inl 131))
theorem jm_98_95 (G : jx_Gv) : jx_mo (jb_98_95 G).1 := ⟨mo_aload _, mo_getA _ _, mo_iload _, mo_aload _, mo_getA _ _, mo_iload _, mo_iald _, mo_iast _, mo_aload _, mo_getA _ _, mo_iload _, mo_aload _, mo_getA _ _, mo_iload _, mo_iald _, mo_iast _, mo_aload _, mo_getA _ _, mo_iload _, mo_aload _, mo_getA _ _, mo_iload _, mo_iald _, mo_iast _, trivial⟩
def jb_98_131 (G : jx_Gv) : jx_B := ([jo_aload 0, jo_getA 8 43, jo_iload 1, jo_aload 0, jo_getA 8 21, jo_iload 1, jo_iald 0, jo_iast 0, jo_aload 0, jo_getA 8 44, jo_iload 1, jo_aload 0, jo_getA 8 22, jo_iload 1, jo_iald 0, jo_iast 0, jo_aload 0, jo_getA 8 45, jo_iload 1, jo_aload 0, jo_getA 8 23, jo_iload 1, jo_iald 0, jo_iast 0], .inr (.inl 167))
theorem jm_98_131 (G : jx_Gv) : jx_mo (jb_98_131 G).1 := ⟨mo_aload _, mo_getA _ _, mo_iload _, mo_aload _, mo_getA _ _, mo_iload _, mo_iald _, mo_iast _, mo_aload _, mo_getA _ _, mo_iload _, mo_aload _, mo_getA _ _, mo_iload _, mo_iald _, mo_iast _, mo_aload _, mo_getA _ _, mo_iload _, mo_aload _, mo_getA _ _, mo_iload _, mo_iald _, mo_iast _, trivial⟩
def jb_98_167 (G : jx_Gv) : jx_B := ([jo_iinc 1 (1 : Int32)], .inr (.inl 15))
theorem jm_98_167 (G : jx_Gv) : jx_mo (jb_98_167 G).1 := ⟨mo_iinc _ _, trivial⟩
def jb_98_173 (G : jx_Gv) : jx_B := ([jo_const (.int (0 : Int32)), jo_istore 1], .inr (.inl 175))
theorem jm_98_173 (G : jx_Gv) : jx_mo (jb_98_173 G).1 := ⟨mo_const _, mo_istore _, trivial⟩
def jb_98_175 (G : jx_Gv) : jx_B := ([jo_iload 1, jo_aload 0, jo_getI 8 24], .inl (jc_ii (fun x y => decide (y ≤ x)), 225, 183))
theorem jm_98_175 (G : jx_Gv) : jx_mo (jb_98_175 G).1 := ⟨mo_iload _, mo_aload _, mo_getI _ _, trivial⟩
def jb_98_183 (G : jx_Gv) : jx_B := ([jo_aload 0, jo_getA 8 46, jo_iload 1, jo_aload 0, jo_getA 8 25, jo_iload 1, jo_iald 0, jo_iast 0, jo_aload 0, jo_getA 8 47, jo_iload 1, jo_aload 0, jo_getA 8 26, jo_iload 1, jo_iald 0, jo_iast 0, jo_aload 0, jo_getA 8 48, jo_iload 1, jo_aload 0, jo_getA 8 27, jo_iload 1, jo_iald 0, jo_iast 0], .inr (.inl 219))
theorem jm_98_183 (G : jx_Gv) : jx_mo (jb_98_183 G).1 := ⟨mo_aload _, mo_getA _ _, mo_iload _, mo_aload _, mo_getA _ _, mo_iload _, mo_iald _, mo_iast _, mo_aload _, mo_getA _ _, mo_iload _, mo_aload _, mo_getA _ _, mo_iload _, mo_iald _, mo_iast _, mo_aload _, mo_getA _ _, mo_iload _, mo_aload _, mo_getA _ _, mo_iload _, mo_iald _, mo_iast _, trivial⟩
def jb_98_219 (G : jx_Gv) : jx_B := ([jo_iinc 1 (1 : Int32)], .inr (.inl 175))
theorem jm_98_219 (G : jx_Gv) : jx_mo (jb_98_219 G).1 := ⟨mo_iinc _ _, trivial⟩
def jb_98_225 (G : jx_Gv) : jx_B := ([jo_const (.int (0 : Int32)), jo_istore 1], .inr (.inl 227))
theorem jm_98_225 (G : jx_Gv) : jx_mo (jb_98_225 G).1 := ⟨mo_const _, mo_istore _, trivial⟩
def jb_98_227 (G : jx_Gv) : jx_B := ([jo_iload 1, jo_aload 0, jo_getI 8 28], .inl (jc_ii (fun x y => decide (y ≤ x)), 253, 235))
theorem jm_98_227 (G : jx_Gv) : jx_mo (jb_98_227 G).1 := ⟨mo_iload _, mo_aload _, mo_getI _ _, trivial⟩
def jb_98_235 (G : jx_Gv) : jx_B := ([jo_aload 0, jo_getA 8 49, jo_iload 1, jo_aload 0, jo_getA 8 29, jo_iload 1, jo_iald 0, jo_iast 0, jo_iinc 1 (1 : Int32)], .inr (.inl 227))
theorem jm_98_235 (G : jx_Gv) : jx_mo (jb_98_235 G).1 := ⟨mo_aload _, mo_getA _ _, mo_iload _, mo_aload _, mo_getA _ _, mo_iload _, mo_iald _, mo_iast _, mo_iinc _ _, trivial⟩
def jb_98_253 (G : jx_Gv) : jx_B := ([jo_const (.int (0 : Int32)), jo_istore 1], .inr (.inl 255))
theorem jm_98_253 (G : jx_Gv) : jx_mo (jb_98_253 G).1 := ⟨mo_const _, mo_istore _, trivial⟩
def jb_98_255 (G : jx_Gv) : jx_B := ([jo_iload 1, jo_aload 0, jo_getI 8 11], .inl (jc_ii (fun x y => decide (y < x)), 281, 263))
theorem jm_98_255 (G : jx_Gv) : jx_mo (jb_98_255 G).1 := ⟨mo_iload _, mo_aload _, mo_getI _ _, trivial⟩
def jb_98_263 (G : jx_Gv) : jx_B := ([jo_aload 0, jo_getA 8 50, jo_iload 1, jo_aload 0, jo_getA 8 30, jo_iload 1, jo_iald 0, jo_iast 0, jo_iinc 1 (1 : Int32)], .inr (.inl 255))
theorem jm_98_263 (G : jx_Gv) : jx_mo (jb_98_263 G).1 := ⟨mo_aload _, mo_getA _ _, mo_iload _, mo_aload _, mo_getA _ _, mo_iload _, mo_iald _, mo_iast _, mo_iinc _ _, trivial⟩
def jb_98_281 (G : jx_Gv) : jx_B := ([], .inr (.inr (.inr (.inr jr_v))))
theorem jm_98_281 (G : jx_Gv) : jx_mo (jb_98_281 G).1 := trivial
def jbs_98 (G : jx_Gv) : List (Nat × jx_B) := [(0, jb_98_0 G), (15, jb_98_15 G), (23, jb_98_23 G), (59, jb_98_59 G), (95, jb_98_95 G), (131, jb_98_131 G), (167, jb_98_167 G), (173, jb_98_173 G), (175, jb_98_175 G), (183, jb_98_183 G), (219, jb_98_219 G), (225, jb_98_225 G), (227, jb_98_227 G), (235, jb_98_235 G), (253, jb_98_253 G), (255, jb_98_255 G), (263, jb_98_263 G), (281, jb_98_281 G)]
theorem jms_98 (G : jx_Gv) : ∀ e ∈ jbs_98 G, jx_mo e.2.1 := List.forall_mem_cons.mpr ⟨jm_98_0 G, List.forall_mem_cons.mpr ⟨jm_98_15 G, List.forall_mem_cons.mpr ⟨jm_98_23 G, List.forall_mem_cons.mpr ⟨jm_98_59 G, List.forall_mem_cons.mpr ⟨jm_98_95 G, List.forall_mem_cons.mpr ⟨jm_98_131 G, List.forall_mem_cons.mpr ⟨jm_98_167 G, List.forall_mem_cons.mpr ⟨jm_98_173 G, List.forall_mem_cons.mpr ⟨jm_98_175 G, List.forall_mem_cons.mpr ⟨jm_98_183 G, List.forall_mem_cons.mpr ⟨jm_98_219 G, List.forall_mem_cons.mpr ⟨jm_98_225 G, List.forall_mem_cons.mpr ⟨jm_98_227 G, List.forall_mem_cons.mpr ⟨jm_98_235 G, List.forall_mem_cons.mpr ⟨jm_98_253 G, List.forall_mem_cons.mpr ⟨jm_98_255 G, List.forall_mem_cons.mpr ⟨jm_98_263 G, List.forall_mem_cons.mpr ⟨jm_98_281 G, fun _ h => absurd h List.not_mem_nil⟩⟩⟩⟩⟩⟩⟩⟩⟩⟩⟩⟩⟩⟩⟩⟩⟩⟩
def jb_99_0 (G : jx_Gv) : jx_B := ([jo_aload 0, jo_getA 8 52, jo_iload 1, jo_aload 0, jo_getI 8 33, jo_iast 0, jo_const (.int (0 : Int32)), jo_istore 2], .inr (.inl 12))
theorem jm_99_0 (G : jx_Gv) : jx_mo (jb_99_0 G).1 := ⟨mo_aload _, mo_getA _ _, mo_iload _, mo_aload _, mo_getI _ _, mo_iast _, mo_const _, mo_istore _, trivial⟩
def jb_99_12 (G : jx_Gv) : jx_B := ([jo_iload 2, jo_aload 0, jo_getI 8 33], .inl (jc_ii (fun x y => decide (y ≤ x)), 43, 20))
theorem jm_99_12 (G : jx_Gv) : jx_mo (jb_99_12 G).1 := ⟨mo_iload _, mo_aload _, mo_getI _ _, trivial⟩
def jb_99_20 (G : jx_Gv) : jx_B := ([jo_aload 0, jo_getA 8 53, jo_const (.int (120 : Int32)), jo_iload 1, jo_ii (· * ·), jo_iload 2, jo_ii (· + ·), jo_aload 0, jo_getA 8 35, jo_iload 2, jo_iald 0, jo_iast 0, jo_iinc 2 (1 : Int32)], .inr (.inl 12))
theorem jm_99_20 (G : jx_Gv) : jx_mo (jb_99_20 G).1 := ⟨mo_aload _, mo_getA _ _, mo_const _, mo_iload _, mo_ii _, mo_iload _, mo_ii _, mo_aload _, mo_getA _ _, mo_iload _, mo_iald _, mo_iast _, mo_iinc _ _, trivial⟩
def jb_99_43 (G : jx_Gv) : jx_B := ([jo_const (.int (0 : Int32)), jo_istore 2], .inr (.inl 45))
theorem jm_99_43 (G : jx_Gv) : jx_mo (jb_99_43 G).1 := ⟨mo_const _, mo_istore _, trivial⟩
def jb_99_45 (G : jx_Gv) : jx_B := ([jo_iload 2, jo_aload 0, jo_getI 8 33], .inl (jc_ii (fun x y => decide (y < x)), 76, 53))
theorem jm_99_45 (G : jx_Gv) : jx_mo (jb_99_45 G).1 := ⟨mo_iload _, mo_aload _, mo_getI _ _, trivial⟩
def jb_99_53 (G : jx_Gv) : jx_B := ([jo_aload 0, jo_getA 8 54, jo_const (.int (121 : Int32)), jo_iload 1, jo_ii (· * ·), jo_iload 2, jo_ii (· + ·), jo_aload 0, jo_getA 8 50, jo_iload 2, jo_iald 0, jo_iast 0, jo_iinc 2 (1 : Int32)], .inr (.inl 45))
theorem jm_99_53 (G : jx_Gv) : jx_mo (jb_99_53 G).1 := ⟨mo_aload _, mo_getA _ _, mo_const _, mo_iload _, mo_ii _, mo_iload _, mo_ii _, mo_aload _, mo_getA _ _, mo_iload _, mo_iald _, mo_iast _, mo_iinc _ _, trivial⟩
def jb_99_76 (G : jx_Gv) : jx_B := ([jo_const (.int (0 : Int32)), jo_istore 2], .inr (.inl 78))
theorem jm_99_76 (G : jx_Gv) : jx_mo (jb_99_76 G).1 := ⟨mo_const _, mo_istore _, trivial⟩
def jb_99_78 (G : jx_Gv) : jx_B := ([jo_iload 2, jo_aload 0, jo_getA 8 50, jo_aload 0, jo_getI 8 33, jo_iald 0], .inl (jc_ii (fun x y => decide (y ≤ x)), 115, 91))
theorem jm_99_78 (G : jx_Gv) : jx_mo (jb_99_78 G).1 := ⟨mo_iload _, mo_aload _, mo_getA _ _, mo_aload _, mo_getI _ _, mo_iald _, trivial⟩
def jb_99_91 (G : jx_Gv) : jx_B := ([jo_aload 0, jo_getA 8 55, jo_const (.int (6000 : Int32)), jo_iload 1, jo_ii (· * ·), jo_iload 2, jo_ii (· + ·), jo_aload 0, jo_getA 8 49, jo_iload 2, jo_iald 0, jo_iast 0, jo_iinc 2 (1 : Int32)], .inr (.inl 78))
theorem jm_99_91 (G : jx_Gv) : jx_mo (jb_99_91 G).1 := ⟨mo_aload _, mo_getA _ _, mo_const _, mo_iload _, mo_ii _, mo_iload _, mo_ii _, mo_aload _, mo_getA _ _, mo_iload _, mo_iald _, mo_iast _, mo_iinc _ _, trivial⟩
def jb_99_115 (G : jx_Gv) : jx_B := ([], .inr (.inr (.inr (.inr jr_v))))
theorem jm_99_115 (G : jx_Gv) : jx_mo (jb_99_115 G).1 := trivial
def jbs_99 (G : jx_Gv) : List (Nat × jx_B) := [(0, jb_99_0 G), (12, jb_99_12 G), (20, jb_99_20 G), (43, jb_99_43 G), (45, jb_99_45 G), (53, jb_99_53 G), (76, jb_99_76 G), (78, jb_99_78 G), (91, jb_99_91 G), (115, jb_99_115 G)]
theorem jms_99 (G : jx_Gv) : ∀ e ∈ jbs_99 G, jx_mo e.2.1 := List.forall_mem_cons.mpr ⟨jm_99_0 G, List.forall_mem_cons.mpr ⟨jm_99_12 G, List.forall_mem_cons.mpr ⟨jm_99_20 G, List.forall_mem_cons.mpr ⟨jm_99_43 G, List.forall_mem_cons.mpr ⟨jm_99_45 G, List.forall_mem_cons.mpr ⟨jm_99_53 G, List.forall_mem_cons.mpr ⟨jm_99_76 G, List.forall_mem_cons.mpr ⟨jm_99_78 G, List.forall_mem_cons.mpr ⟨jm_99_91 G, List.forall_mem_cons.mpr ⟨jm_99_115 G, fun _ h => absurd h List.not_mem_nil⟩⟩⟩⟩⟩⟩⟩⟩⟩⟩
def jb_100_0 (G : jx_Gv) : jx_B := ([jo_aload 0, jo_getA 8 34, jo_iload 1, jo_iald 0, jo_const (.int (4 : Int32))], .inl (jc_ii (fun x y => decide (x = y)), 20, 10))
theorem jm_100_0 (G : jx_Gv) : jx_mo (jb_100_0 G).1 := ⟨mo_aload _, mo_getA _ _, mo_iload _, mo_iald _, mo_const _, trivial⟩
def jb_100_10 (G : jx_Gv) : jx_B := ([jo_aload 0, jo_getA 8 34, jo_iload 1, jo_iald 0, jo_const (.int (5 : Int32))], .inl (jc_ii (fun x y => decide (¬ x = y)), 24, 20))
theorem jm_100_10 (G : jx_Gv) : jx_mo (jb_100_10 G).1 := ⟨mo_aload _, mo_getA _ _, mo_iload _, mo_iald _, mo_const _, trivial⟩
def jb_100_20 (G : jx_Gv) : jx_B := ([jo_const (.int (1 : Int32))], .inr (.inl 25))
theorem jm_100_20 (G : jx_Gv) : jx_mo (jb_100_20 G).1 := ⟨mo_const _, trivial⟩
def jb_100_24 (G : jx_Gv) : jx_B := ([jo_const (.int (0 : Int32))], .inr (.inl 25))
theorem jm_100_24 (G : jx_Gv) : jx_mo (jb_100_24 G).1 := ⟨mo_const _, trivial⟩
def jb_100_25 (G : jx_Gv) : jx_B := ([], .inr (.inr (.inr (.inr jr_z))))
theorem jm_100_25 (G : jx_Gv) : jx_mo (jb_100_25 G).1 := trivial
def jbs_100 (G : jx_Gv) : List (Nat × jx_B) := [(0, jb_100_0 G), (10, jb_100_10 G), (20, jb_100_20 G), (24, jb_100_24 G), (25, jb_100_25 G)]
theorem jms_100 (G : jx_Gv) : ∀ e ∈ jbs_100 G, jx_mo e.2.1 := List.forall_mem_cons.mpr ⟨jm_100_0 G, List.forall_mem_cons.mpr ⟨jm_100_10 G, List.forall_mem_cons.mpr ⟨jm_100_20 G, List.forall_mem_cons.mpr ⟨jm_100_24 G, List.forall_mem_cons.mpr ⟨jm_100_25 G, fun _ h => absurd h List.not_mem_nil⟩⟩⟩⟩⟩
def jb_101_0 (G : jx_Gv) : jx_B := ([jo_aload 0, jo_getA 8 34, jo_iload 1, jo_iald 0, jo_const (.int (7 : Int32))], .inl (jc_ii (fun x y => decide (x = y)), 22, 11))
theorem jm_101_0 (G : jx_Gv) : jx_mo (jb_101_0 G).1 := ⟨mo_aload _, mo_getA _ _, mo_iload _, mo_iald _, mo_const _, trivial⟩
def jb_101_11 (G : jx_Gv) : jx_B := ([jo_aload 0, jo_getA 8 34, jo_iload 1, jo_iald 0, jo_const (.int (8 : Int32))], .inl (jc_ii (fun x y => decide (¬ x = y)), 26, 22))
theorem jm_101_11 (G : jx_Gv) : jx_mo (jb_101_11 G).1 := ⟨mo_aload _, mo_getA _ _, mo_iload _, mo_iald _, mo_const _, trivial⟩
def jb_101_22 (G : jx_Gv) : jx_B := ([jo_const (.int (1 : Int32))], .inr (.inl 27))
theorem jm_101_22 (G : jx_Gv) : jx_mo (jb_101_22 G).1 := ⟨mo_const _, trivial⟩
def jb_101_26 (G : jx_Gv) : jx_B := ([jo_const (.int (0 : Int32))], .inr (.inl 27))
theorem jm_101_26 (G : jx_Gv) : jx_mo (jb_101_26 G).1 := ⟨mo_const _, trivial⟩
def jb_101_27 (G : jx_Gv) : jx_B := ([], .inr (.inr (.inr (.inr jr_z))))
theorem jm_101_27 (G : jx_Gv) : jx_mo (jb_101_27 G).1 := trivial
def jbs_101 (G : jx_Gv) : List (Nat × jx_B) := [(0, jb_101_0 G), (11, jb_101_11 G), (22, jb_101_22 G), (26, jb_101_26 G), (27, jb_101_27 G)]
theorem jms_101 (G : jx_Gv) : ∀ e ∈ jbs_101 G, jx_mo e.2.1 := List.forall_mem_cons.mpr ⟨jm_101_0 G, List.forall_mem_cons.mpr ⟨jm_101_11 G, List.forall_mem_cons.mpr ⟨jm_101_22 G, List.forall_mem_cons.mpr ⟨jm_101_26 G, List.forall_mem_cons.mpr ⟨jm_101_27 G, fun _ h => absurd h List.not_mem_nil⟩⟩⟩⟩⟩
def jb_102_0 (G : jx_Gv) : jx_B := ([jo_iload 2], .inr (.inr (.inl (jx_sw [((0 : Int32), 52), ((1 : Int32), 68), ((2 : Int32), 84), ((3 : Int32), 100), ((4 : Int32), 106), ((5 : Int32), 112), ((6 : Int32), 129), ((7 : Int32), 146), ((8 : Int32), 163)] 180))))
theorem jm_102_0 (G : jx_Gv) : jx_mo (jb_102_0 G).1 := ⟨mo_iload _, trivial⟩
def jb_102_52 (G : jx_Gv) : jx_B := ([jo_aload 0, jo_getA 8 34, jo_iload 1, jo_iald 0, jo_const (.int (1 : Int32))], .inl (jc_ii (fun x y => decide (¬ x = y)), 66, 62))
theorem jm_102_52 (G : jx_Gv) : jx_mo (jb_102_52 G).1 := ⟨mo_aload _, mo_getA _ _, mo_iload _, mo_iald _, mo_const _, trivial⟩
def jb_102_62 (G : jx_Gv) : jx_B := ([jo_const (.int (1 : Int32))], .inr (.inl 67))
theorem jm_102_62 (G : jx_Gv) : jx_mo (jb_102_62 G).1 := ⟨mo_const _, trivial⟩
def jb_102_66 (G : jx_Gv) : jx_B := ([jo_const (.int (0 : Int32))], .inr (.inl 67))
theorem jm_102_66 (G : jx_Gv) : jx_mo (jb_102_66 G).1 := ⟨mo_const _, trivial⟩
def jb_102_67 (G : jx_Gv) : jx_B := ([], .inr (.inr (.inr (.inr jr_z))))
theorem jm_102_67 (G : jx_Gv) : jx_mo (jb_102_67 G).1 := trivial
def jb_102_68 (G : jx_Gv) : jx_B := ([jo_aload 0, jo_getA 8 34, jo_iload 1, jo_iald 0, jo_const (.int (2 : Int32))], .inl (jc_ii (fun x y => decide (¬ x = y)), 82, 78))
theorem jm_102_68 (G : jx_Gv) : jx_mo (jb_102_68 G).1 := ⟨mo_aload _, mo_getA _ _, mo_iload _, mo_iald _, mo_const _, trivial⟩
def jb_102_78 (G : jx_Gv) : jx_B := ([jo_const (.int (1 : Int32))], .inr (.inl 83))
theorem jm_102_78 (G : jx_Gv) : jx_mo (jb_102_78 G).1 := ⟨mo_const _, trivial⟩
def jb_102_82 (G : jx_Gv) : jx_B := ([jo_const (.int (0 : Int32))], .inr (.inl 83))
theorem jm_102_82 (G : jx_Gv) : jx_mo (jb_102_82 G).1 := ⟨mo_const _, trivial⟩
def jb_102_83 (G : jx_Gv) : jx_B := ([], .inr (.inr (.inr (.inr jr_z))))
theorem jm_102_83 (G : jx_Gv) : jx_mo (jb_102_83 G).1 := trivial
def jb_102_84 (G : jx_Gv) : jx_B := ([jo_aload 0, jo_getA 8 34, jo_iload 1, jo_iald 0, jo_const (.int (3 : Int32))], .inl (jc_ii (fun x y => decide (¬ x = y)), 98, 94))
theorem jm_102_84 (G : jx_Gv) : jx_mo (jb_102_84 G).1 := ⟨mo_aload _, mo_getA _ _, mo_iload _, mo_iald _, mo_const _, trivial⟩
def jb_102_94 (G : jx_Gv) : jx_B := ([jo_const (.int (1 : Int32))], .inr (.inl 99))
theorem jm_102_94 (G : jx_Gv) : jx_mo (jb_102_94 G).1 := ⟨mo_const _, trivial⟩
def jb_102_98 (G : jx_Gv) : jx_B := ([jo_const (.int (0 : Int32))], .inr (.inl 99))
theorem jm_102_98 (G : jx_Gv) : jx_mo (jb_102_98 G).1 := ⟨mo_const _, trivial⟩
def jb_102_99 (G : jx_Gv) : jx_B := ([], .inr (.inr (.inr (.inr jr_z))))
theorem jm_102_99 (G : jx_Gv) : jx_mo (jb_102_99 G).1 := trivial
def jb_102_100 (G : jx_Gv) : jx_B := ([jo_aload 0, jo_iload 1], .inr (.inr (.inr (.inl (100, 2, 105, some 8)))))
theorem jm_102_100 (G : jx_Gv) : jx_mo (jb_102_100 G).1 := ⟨mo_aload _, mo_iload _, trivial⟩
def jb_102_105 (G : jx_Gv) : jx_B := ([], .inr (.inr (.inr (.inr jr_z))))
theorem jm_102_105 (G : jx_Gv) : jx_mo (jb_102_105 G).1 := trivial
def jb_102_106 (G : jx_Gv) : jx_B := ([jo_aload 0, jo_iload 1], .inr (.inr (.inr (.inl (101, 2, 111, some 8)))))
theorem jm_102_106 (G : jx_Gv) : jx_mo (jb_102_106 G).1 := ⟨mo_aload _, mo_iload _, trivial⟩
def jb_102_111 (G : jx_Gv) : jx_B := ([], .inr (.inr (.inr (.inr jr_z))))
theorem jm_102_111 (G : jx_Gv) : jx_mo (jb_102_111 G).1 := trivial
def jb_102_112 (G : jx_Gv) : jx_B := ([jo_aload 0, jo_getA 8 34, jo_iload 1, jo_iald 0, jo_const (.int (10 : Int32))], .inl (jc_ii (fun x y => decide (¬ x = y)), 127, 123))
theorem jm_102_112 (G : jx_Gv) : jx_mo (jb_102_112 G).1 := ⟨mo_aload _, mo_getA _ _, mo_iload _, mo_iald _, mo_const _, trivial⟩
def jb_102_123 (G : jx_Gv) : jx_B := ([jo_const (.int (1 : Int32))], .inr (.inl 128))
theorem jm_102_123 (G : jx_Gv) : jx_mo (jb_102_123 G).1 := ⟨mo_const _, trivial⟩
def jb_102_127 (G : jx_Gv) : jx_B := ([jo_const (.int (0 : Int32))], .inr (.inl 128))
theorem jm_102_127 (G : jx_Gv) : jx_mo (jb_102_127 G).1 := ⟨mo_const _, trivial⟩
def jb_102_128 (G : jx_Gv) : jx_B := ([], .inr (.inr (.inr (.inr jr_z))))
theorem jm_102_128 (G : jx_Gv) : jx_mo (jb_102_128 G).1 := trivial
def jb_102_129 (G : jx_Gv) : jx_B := ([jo_aload 0, jo_getA 8 34, jo_iload 1, jo_iald 0, jo_const (.int (9 : Int32))], .inl (jc_ii (fun x y => decide (¬ x = y)), 144, 140))
theorem jm_102_129 (G : jx_Gv) : jx_mo (jb_102_129 G).1 := ⟨mo_aload _, mo_getA _ _, mo_iload _, mo_iald _, mo_const _, trivial⟩
def jb_102_140 (G : jx_Gv) : jx_B := ([jo_const (.int (1 : Int32))], .inr (.inl 145))
theorem jm_102_140 (G : jx_Gv) : jx_mo (jb_102_140 G).1 := ⟨mo_const _, trivial⟩
def jb_102_144 (G : jx_Gv) : jx_B := ([jo_const (.int (0 : Int32))], .inr (.inl 145))
theorem jm_102_144 (G : jx_Gv) : jx_mo (jb_102_144 G).1 := ⟨mo_const _, trivial⟩
def jb_102_145 (G : jx_Gv) : jx_B := ([], .inr (.inr (.inr (.inr jr_z))))
theorem jm_102_145 (G : jx_Gv) : jx_mo (jb_102_145 G).1 := trivial
def jb_102_146 (G : jx_Gv) : jx_B := ([jo_aload 0, jo_getA 8 34, jo_iload 1, jo_iald 0, jo_const (.int (11 : Int32))], .inl (jc_ii (fun x y => decide (¬ x = y)), 161, 157))
theorem jm_102_146 (G : jx_Gv) : jx_mo (jb_102_146 G).1 := ⟨mo_aload _, mo_getA _ _, mo_iload _, mo_iald _, mo_const _, trivial⟩
def jb_102_157 (G : jx_Gv) : jx_B := ([jo_const (.int (1 : Int32))], .inr (.inl 162))
theorem jm_102_157 (G : jx_Gv) : jx_mo (jb_102_157 G).1 := ⟨mo_const _, trivial⟩
def jb_102_161 (G : jx_Gv) : jx_B := ([jo_const (.int (0 : Int32))], .inr (.inl 162))
theorem jm_102_161 (G : jx_Gv) : jx_mo (jb_102_161 G).1 := ⟨mo_const _, trivial⟩
def jb_102_162 (G : jx_Gv) : jx_B := ([], .inr (.inr (.inr (.inr jr_z))))
theorem jm_102_162 (G : jx_Gv) : jx_mo (jb_102_162 G).1 := trivial
def jb_102_163 (G : jx_Gv) : jx_B := ([jo_aload 0, jo_getA 8 34, jo_iload 1, jo_iald 0, jo_const (.int (12 : Int32))], .inl (jc_ii (fun x y => decide (¬ x = y)), 178, 174))
theorem jm_102_163 (G : jx_Gv) : jx_mo (jb_102_163 G).1 := ⟨mo_aload _, mo_getA _ _, mo_iload _, mo_iald _, mo_const _, trivial⟩
def jb_102_174 (G : jx_Gv) : jx_B := ([jo_const (.int (1 : Int32))], .inr (.inl 179))
theorem jm_102_174 (G : jx_Gv) : jx_mo (jb_102_174 G).1 := ⟨mo_const _, trivial⟩
def jb_102_178 (G : jx_Gv) : jx_B := ([jo_const (.int (0 : Int32))], .inr (.inl 179))
theorem jm_102_178 (G : jx_Gv) : jx_mo (jb_102_178 G).1 := ⟨mo_const _, trivial⟩
def jb_102_179 (G : jx_Gv) : jx_B := ([], .inr (.inr (.inr (.inr jr_z))))
theorem jm_102_179 (G : jx_Gv) : jx_mo (jb_102_179 G).1 := trivial
def jb_102_180 (G : jx_Gv) : jx_B := ([jo_aload 0, jo_getA 8 34, jo_iload 1, jo_iald 0, jo_const (.int (6 : Int32))], .inl (jc_ii (fun x y => decide (¬ x = y)), 195, 191))
theorem jm_102_180 (G : jx_Gv) : jx_mo (jb_102_180 G).1 := ⟨mo_aload _, mo_getA _ _, mo_iload _, mo_iald _, mo_const _, trivial⟩
def jb_102_191 (G : jx_Gv) : jx_B := ([jo_const (.int (1 : Int32))], .inr (.inl 196))
theorem jm_102_191 (G : jx_Gv) : jx_mo (jb_102_191 G).1 := ⟨mo_const _, trivial⟩
def jb_102_195 (G : jx_Gv) : jx_B := ([jo_const (.int (0 : Int32))], .inr (.inl 196))
theorem jm_102_195 (G : jx_Gv) : jx_mo (jb_102_195 G).1 := ⟨mo_const _, trivial⟩
def jb_102_196 (G : jx_Gv) : jx_B := ([], .inr (.inr (.inr (.inr jr_z))))
theorem jm_102_196 (G : jx_Gv) : jx_mo (jb_102_196 G).1 := trivial
def jbs_102 (G : jx_Gv) : List (Nat × jx_B) := [(0, jb_102_0 G), (52, jb_102_52 G), (62, jb_102_62 G), (66, jb_102_66 G), (67, jb_102_67 G), (68, jb_102_68 G), (78, jb_102_78 G), (82, jb_102_82 G), (83, jb_102_83 G), (84, jb_102_84 G), (94, jb_102_94 G), (98, jb_102_98 G), (99, jb_102_99 G), (100, jb_102_100 G), (105, jb_102_105 G), (106, jb_102_106 G), (111, jb_102_111 G), (112, jb_102_112 G), (123, jb_102_123 G), (127, jb_102_127 G), (128, jb_102_128 G), (129, jb_102_129 G), (140, jb_102_140 G), (144, jb_102_144 G), (145, jb_102_145 G), (146, jb_102_146 G), (157, jb_102_157 G), (161, jb_102_161 G), (162, jb_102_162 G), (163, jb_102_163 G), (174, jb_102_174 G), (178, jb_102_178 G), (179, jb_102_179 G), (180, jb_102_180 G), (191, jb_102_191 G), (195, jb_102_195 G), (196, jb_102_196 G)]
theorem jms_102 (G : jx_Gv) : ∀ e ∈ jbs_102 G, jx_mo e.2.1 := List.forall_mem_cons.mpr ⟨jm_102_0 G, List.forall_mem_cons.mpr ⟨jm_102_52 G, List.forall_mem_cons.mpr ⟨jm_102_62 G, List.forall_mem_cons.mpr ⟨jm_102_66 G, List.forall_mem_cons.mpr ⟨jm_102_67 G, List.forall_mem_cons.mpr ⟨jm_102_68 G, List.forall_mem_cons.mpr ⟨jm_102_78 G, List.forall_mem_cons.mpr ⟨jm_102_82 G, List.forall_mem_cons.mpr ⟨jm_102_83 G, List.forall_mem_cons.mpr ⟨jm_102_84 G, List.forall_mem_cons.mpr ⟨jm_102_94 G, List.forall_mem_cons.mpr ⟨jm_102_98 G, List.forall_mem_cons.mpr ⟨jm_102_99 G, List.forall_mem_cons.mpr ⟨jm_102_100 G, List.forall_mem_cons.mpr ⟨jm_102_105 G, List.forall_mem_cons.mpr ⟨jm_102_106 G, List.forall_mem_cons.mpr ⟨jm_102_111 G, List.forall_mem_cons.mpr ⟨jm_102_112 G, List.forall_mem_cons.mpr ⟨jm_102_123 G, List.forall_mem_cons.mpr ⟨jm_102_127 G, List.forall_mem_cons.mpr ⟨jm_102_128 G, List.forall_mem_cons.mpr ⟨jm_102_129 G, List.forall_mem_cons.mpr ⟨jm_102_140 G, List.forall_mem_cons.mpr ⟨jm_102_144 G, List.forall_mem_cons.mpr ⟨jm_102_145 G, List.forall_mem_cons.mpr ⟨jm_102_146 G, List.forall_mem_cons.mpr ⟨jm_102_157 G, List.forall_mem_cons.mpr ⟨jm_102_161 G, List.forall_mem_cons.mpr ⟨jm_102_162 G, List.forall_mem_cons.mpr ⟨jm_102_163 G, List.forall_mem_cons.mpr ⟨jm_102_174 G, List.forall_mem_cons.mpr ⟨jm_102_178 G, List.forall_mem_cons.mpr ⟨jm_102_179 G, List.forall_mem_cons.mpr ⟨jm_102_180 G, List.forall_mem_cons.mpr ⟨jm_102_191 G, List.forall_mem_cons.mpr ⟨jm_102_195 G, List.forall_mem_cons.mpr ⟨jm_102_196 G, fun _ h => absurd h List.not_mem_nil⟩⟩⟩⟩⟩⟩⟩⟩⟩⟩⟩⟩⟩⟩⟩⟩⟩⟩⟩⟩⟩⟩⟩⟩⟩⟩⟩⟩⟩⟩⟩⟩⟩⟩⟩⟩⟩
def jb_103_0 (G : jx_Gv) : jx_B := ([jo_const (.int (0 : Int32)), jo_istore 3, jo_const (.int (0 : Int32)), jo_istore 4], .inr (.inl 5))
theorem jm_103_0 (G : jx_Gv) : jx_mo (jb_103_0 G).1 := ⟨mo_const _, mo_istore _, mo_const _, mo_istore _, trivial⟩
def jb_103_5 (G : jx_Gv) : jx_B := ([jo_iload 4, jo_aload 0, jo_getI 8 33], .inl (jc_ii (fun x y => decide (y ≤ x)), 55, 14))
theorem jm_103_5 (G : jx_Gv) : jx_mo (jb_103_5 G).1 := ⟨mo_iload _, mo_aload _, mo_getI _ _, trivial⟩
def jb_103_14 (G : jx_Gv) : jx_B := ([jo_iload 3, jo_aload 0, jo_iload 4, jo_iload 1], .inr (.inr (.inr (.inl (102, 3, 22, some 8)))))
theorem jm_103_14 (G : jx_Gv) : jx_mo (jb_103_14 G).1 := ⟨mo_iload _, mo_aload _, mo_iload _, mo_iload _, trivial⟩
def jb_103_22 (G : jx_Gv) : jx_B := ([], .inl (jc_i (fun x => decide (x = 0)), 46, 25))
theorem jm_103_22 (G : jx_Gv) : jx_mo (jb_103_22 G).1 := trivial
def jb_103_25 (G : jx_Gv) : jx_B := ([jo_iload 1, jo_const (.int (8 : Int32))], .inl (jc_ii (fun x y => decide (x = y)), 42, 31))
theorem jm_103_25 (G : jx_Gv) : jx_mo (jb_103_25 G).1 := ⟨mo_iload _, mo_const _, trivial⟩
def jb_103_31 (G : jx_Gv) : jx_B := ([jo_aload 0, jo_getA 8 35, jo_iload 4, jo_iald 0, jo_iload 2], .inl (jc_ii (fun x y => decide (¬ x = y)), 46, 42))
theorem jm_103_31 (G : jx_Gv) : jx_mo (jb_103_31 G).1 := ⟨mo_aload _, mo_getA _ _, mo_iload _, mo_iald _, mo_iload _, trivial⟩
def jb_103_42 (G : jx_Gv) : jx_B := ([jo_const (.int (1 : Int32))], .inr (.inl 47))
theorem jm_103_42 (G : jx_Gv) : jx_mo (jb_103_42 G).1 := ⟨mo_const _, trivial⟩
def jb_103_46 (G : jx_Gv) : jx_B := ([jo_const (.int (0 : Int32))], .inr (.inl 47))
theorem jm_103_46 (G : jx_Gv) : jx_mo (jb_103_46 G).1 := ⟨mo_const _, trivial⟩
def jb_103_47 (G : jx_Gv) : jx_B := ([jo_ii (· + ·), jo_istore 3, jo_iinc 4 (1 : Int32)], .inr (.inl 5))
theorem jm_103_47 (G : jx_Gv) : jx_mo (jb_103_47 G).1 := ⟨mo_ii _, mo_istore _, mo_iinc _ _, trivial⟩
def jb_103_55 (G : jx_Gv) : jx_B := ([jo_iload 3], .inr (.inr (.inr (.inr jr_i))))
theorem jm_103_55 (G : jx_Gv) : jx_mo (jb_103_55 G).1 := ⟨mo_iload _, trivial⟩
def jbs_103 (G : jx_Gv) : List (Nat × jx_B) := [(0, jb_103_0 G), (5, jb_103_5 G), (14, jb_103_14 G), (22, jb_103_22 G), (25, jb_103_25 G), (31, jb_103_31 G), (42, jb_103_42 G), (46, jb_103_46 G), (47, jb_103_47 G), (55, jb_103_55 G)]
theorem jms_103 (G : jx_Gv) : ∀ e ∈ jbs_103 G, jx_mo e.2.1 := List.forall_mem_cons.mpr ⟨jm_103_0 G, List.forall_mem_cons.mpr ⟨jm_103_5 G, List.forall_mem_cons.mpr ⟨jm_103_14 G, List.forall_mem_cons.mpr ⟨jm_103_22 G, List.forall_mem_cons.mpr ⟨jm_103_25 G, List.forall_mem_cons.mpr ⟨jm_103_31 G, List.forall_mem_cons.mpr ⟨jm_103_42 G, List.forall_mem_cons.mpr ⟨jm_103_46 G, List.forall_mem_cons.mpr ⟨jm_103_47 G, List.forall_mem_cons.mpr ⟨jm_103_55 G, fun _ h => absurd h List.not_mem_nil⟩⟩⟩⟩⟩⟩⟩⟩⟩⟩
def jb_104_0 (G : jx_Gv) : jx_B := ([jo_aload 0, jo_const (.int (3 : Int32)), jo_const (.int (-1 : Int32))], .inr (.inr (.inr (.inl (103, 3, 6, some 8)))))
theorem jm_104_0 (G : jx_Gv) : jx_mo (jb_104_0 G).1 := ⟨mo_aload _, mo_const _, mo_const _, trivial⟩
def jb_104_6 (G : jx_Gv) : jx_B := ([], .inr (.inr (.inr (.inr jr_i))))
theorem jm_104_6 (G : jx_Gv) : jx_mo (jb_104_6 G).1 := trivial
def jbs_104 (G : jx_Gv) : List (Nat × jx_B) := [(0, jb_104_0 G), (6, jb_104_6 G)]
theorem jms_104 (G : jx_Gv) : ∀ e ∈ jbs_104 G, jx_mo e.2.1 := List.forall_mem_cons.mpr ⟨jm_104_0 G, List.forall_mem_cons.mpr ⟨jm_104_6 G, fun _ h => absurd h List.not_mem_nil⟩⟩
def jb_105_0 (G : jx_Gv) : jx_B := ([jo_aload 0, jo_const (.int (0 : Int32)), jo_putI 8 2, jo_aload 0, jo_const (.int (1 : Int32)), jo_putI 8 3, jo_aload 0, jo_const (.int (1 : Int32)), jo_putZ 8 7, jo_aload 0, jo_const (.int (0 : Int32)), jo_putI 8 8, jo_aload 0, jo_const (.int (0 : Int32)), jo_putI 8 11, jo_aload 0, jo_const (.int (0 : Int32)), jo_putI 8 24, jo_aload 0, jo_const (.int (0 : Int32)), jo_putI 8 28, jo_aload 0, jo_const (.int (-1 : Int32)), jo_putI 8 31], .inr (.inl 40))
theorem jm_105_0 (G : jx_Gv) : jx_mo (jb_105_0 G).1 := ⟨mo_aload _, mo_const _, mo_putI _ _, mo_aload _, mo_const _, mo_putI _ _, mo_aload _, mo_const _, mo_putZ _ _, mo_aload _, mo_const _, mo_putI _ _, mo_aload _, mo_const _, mo_putI _ _, mo_aload _, mo_const _, mo_putI _ _, mo_aload _, mo_const _, mo_putI _ _, mo_aload _, mo_const _, mo_putI _ _, trivial⟩
def jb_105_40 (G : jx_Gv) : jx_B := ([jo_aload 0], .inr (.inr (.inr (.inl (77, 1, 44, some 8)))))
theorem jm_105_40 (G : jx_Gv) : jx_mo (jb_105_40 G).1 := ⟨mo_aload _, trivial⟩
def jb_105_44 (G : jx_Gv) : jx_B := ([jo_aload 0, jo_getI 8 7], .inl (jc_i (fun x => decide (x = 0)), 65, 51))
theorem jm_105_44 (G : jx_Gv) : jx_mo (jb_105_44 G).1 := ⟨mo_aload _, mo_getI _ _, trivial⟩
def jb_105_51 (G : jx_Gv) : jx_B := ([jo_aload 0, jo_getI 8 4], .inl (jc_i (fun x => decide (x = 0)), 65, 58))
theorem jm_105_51 (G : jx_Gv) : jx_mo (jb_105_51 G).1 := ⟨mo_aload _, mo_getI _ _, trivial⟩
def jb_105_58 (G : jx_Gv) : jx_B := ([jo_aload 0], .inr (.inr (.inr (.inl (97, 1, 62, some 8)))))
theorem jm_105_58 (G : jx_Gv) : jx_mo (jb_105_58 G).1 := ⟨mo_aload _, trivial⟩
def jb_105_62 (G : jx_Gv) : jx_B := ([], .inr (.inl 44))
theorem jm_105_62 (G : jx_Gv) : jx_mo (jb_105_62 G).1 := trivial
def jb_105_65 (G : jx_Gv) : jx_B := ([jo_aload 0, jo_getI 8 6, jo_istore 1, jo_aload 0, jo_const (.int (0 : Int32)), jo_putI 8 0, jo_aload 0, jo_getI 8 7], .inl (jc_i (fun x => decide (¬ x = 0)), 85, 82))
theorem jm_105_65 (G : jx_Gv) : jx_mo (jb_105_65 G).1 := ⟨mo_aload _, mo_getI _ _, mo_istore _, mo_aload _, mo_const _, mo_putI _ _, mo_aload _, mo_getI _ _, trivial⟩
def jb_105_82 (G : jx_Gv) : jx_B := ([jo_iload 1, jo_i1 (fun x => -x)], .inr (.inr (.inr (.inr jr_i))))
theorem jm_105_82 (G : jx_Gv) : jx_mo (jb_105_82 G).1 := ⟨mo_iload _, mo_i1 _, trivial⟩
def jb_105_85 (G : jx_Gv) : jx_B := ([jo_aload 0, jo_getA 8 30, jo_aload 0, jo_getI 8 11, jo_aload 0, jo_getI 8 28, jo_iast 0, jo_aload 0], .inr (.inr (.inr (.inl (98, 1, 102, some 8)))))
theorem jm_105_85 (G : jx_Gv) : jx_mo (jb_105_85 G).1 := ⟨mo_aload _, mo_getA _ _, mo_aload _, mo_getI _ _, mo_aload _, mo_getI _ _, mo_iast _, mo_aload _, trivial⟩
def jb_105_102 (G : jx_Gv) : jx_B := ([jo_aload 0, jo_dup, jo_getI 8 51, jo_const (.int (1 : Int32)), jo_ii (· + ·), jo_putI 8 51, jo_aload 0, jo_getI 8 51, jo_const (.int (8 : Int32))], .inl (jc_ii (fun x y => decide (y < x)), 131, 121))
theorem jm_105_102 (G : jx_Gv) : jx_mo (jb_105_102 G).1 := ⟨mo_aload _, mo_dup, mo_getI _ _, mo_const _, mo_ii _, mo_putI _ _, mo_aload _, mo_getI _ _, mo_const _, trivial⟩
def jb_105_121 (G : jx_Gv) : jx_B := ([jo_aload 0, jo_aload 0, jo_getI 8 51, jo_const (.int (1 : Int32)), jo_ii (· - ·)], .inr (.inr (.inr (.inl (99, 2, 131, some 8)))))
theorem jm_105_121 (G : jx_Gv) : jx_mo (jb_105_121 G).1 := ⟨mo_aload _, mo_aload _, mo_getI _ _, mo_const _, mo_ii _, trivial⟩
def jb_105_131 (G : jx_Gv) : jx_B := ([jo_aload 0], .inr (.inr (.inr (.inl (104, 1, 135, some 8)))))
theorem jm_105_131 (G : jx_Gv) : jx_mo (jb_105_131 G).1 := ⟨mo_aload _, trivial⟩
def jb_105_135 (G : jx_Gv) : jx_B := ([], .inr (.inr (.inr (.inr jr_i))))
theorem jm_105_135 (G : jx_Gv) : jx_mo (jb_105_135 G).1 := trivial
def jbs_105 (G : jx_Gv) : List (Nat × jx_B) := [(0, jb_105_0 G), (40, jb_105_40 G), (44, jb_105_44 G), (51, jb_105_51 G), (58, jb_105_58 G), (62, jb_105_62 G), (65, jb_105_65 G), (82, jb_105_82 G), (85, jb_105_85 G), (102, jb_105_102 G), (121, jb_105_121 G), (131, jb_105_131 G), (135, jb_105_135 G)]
theorem jms_105 (G : jx_Gv) : ∀ e ∈ jbs_105 G, jx_mo e.2.1 := List.forall_mem_cons.mpr ⟨jm_105_0 G, List.forall_mem_cons.mpr ⟨jm_105_40 G, List.forall_mem_cons.mpr ⟨jm_105_44 G, List.forall_mem_cons.mpr ⟨jm_105_51 G, List.forall_mem_cons.mpr ⟨jm_105_58 G, List.forall_mem_cons.mpr ⟨jm_105_62 G, List.forall_mem_cons.mpr ⟨jm_105_65 G, List.forall_mem_cons.mpr ⟨jm_105_82 G, List.forall_mem_cons.mpr ⟨jm_105_85 G, List.forall_mem_cons.mpr ⟨jm_105_102 G, List.forall_mem_cons.mpr ⟨jm_105_121 G, List.forall_mem_cons.mpr ⟨jm_105_131 G, List.forall_mem_cons.mpr ⟨jm_105_135 G, fun _ h => absurd h List.not_mem_nil⟩⟩⟩⟩⟩⟩⟩⟩⟩⟩⟩⟩⟩
def jb_106_0 (G : jx_Gv) : jx_B := ([jo_aload 0, jo_getI 0 6], .inl (jc_i (fun x => decide (x < 0)), 19, 7))
theorem jm_106_0 (G : jx_Gv) : jx_mo (jb_106_0 G).1 := ⟨mo_aload _, mo_getI _ _, trivial⟩
def jb_106_7 (G : jx_Gv) : jx_B := ([jo_aload 0, jo_getI 0 6, jo_aload 0, jo_getA 0 4, jo_alen 4], .inl (jc_ii (fun x y => decide (x < y)), 23, 19))
theorem jm_106_7 (G : jx_Gv) : jx_mo (jb_106_7 G).1 := ⟨mo_aload _, mo_getI _ _, mo_aload _, mo_getA _ _, mo_alen _, trivial⟩
def jb_106_19 (G : jx_Gv) : jx_B := ([jo_const .null], .inr (.inl 32))
theorem jm_106_19 (G : jx_Gv) : jx_mo (jb_106_19 G).1 := ⟨mo_const _, trivial⟩
def jb_106_23 (G : jx_Gv) : jx_B := ([jo_aload 0, jo_getA 0 4, jo_aload 0, jo_getI 0 6, jo_aald 4], .inr (.inl 32))
theorem jm_106_23 (G : jx_Gv) : jx_mo (jb_106_23 G).1 := ⟨mo_aload _, mo_getA _ _, mo_aload _, mo_getI _ _, mo_aald _, trivial⟩
def jb_106_32 (G : jx_Gv) : jx_B := ([], .inr (.inr (.inr (.inr jr_a))))
theorem jm_106_32 (G : jx_Gv) : jx_mo (jb_106_32 G).1 := trivial
def jbs_106 (G : jx_Gv) : List (Nat × jx_B) := [(0, jb_106_0 G), (7, jb_106_7 G), (19, jb_106_19 G), (23, jb_106_23 G), (32, jb_106_32 G)]
theorem jms_106 (G : jx_Gv) : ∀ e ∈ jbs_106 G, jx_mo e.2.1 := List.forall_mem_cons.mpr ⟨jm_106_0 G, List.forall_mem_cons.mpr ⟨jm_106_7 G, List.forall_mem_cons.mpr ⟨jm_106_19 G, List.forall_mem_cons.mpr ⟨jm_106_23 G, List.forall_mem_cons.mpr ⟨jm_106_32 G, fun _ h => absurd h List.not_mem_nil⟩⟩⟩⟩⟩
def jb_107_0 (G : jx_Gv) : jx_B := ([jo_const (.int (0 : Int32)), jo_istore 4, jo_const (.int (1 : Int32)), jo_istore 5], .inr (.inl 6))
theorem jm_107_0 (G : jx_Gv) : jx_mo (jb_107_0 G).1 := ⟨mo_const _, mo_istore _, mo_const _, mo_istore _, trivial⟩
def jb_107_6 (G : jx_Gv) : jx_B := ([jo_iload 5, jo_aload 0, jo_getI 7 10], .inl (jc_ii (fun x y => decide (y < x)), 44, 15))
theorem jm_107_6 (G : jx_Gv) : jx_mo (jb_107_6 G).1 := ⟨mo_iload _, mo_aload _, mo_getI _ _, trivial⟩
def jb_107_15 (G : jx_Gv) : jx_B := ([jo_aload 0, jo_iload 5, jo_iload 1, jo_iload 2], .inr (.inr (.inr (.inl (65, 4, 23, some 7)))))
theorem jm_107_15 (G : jx_Gv) : jx_mo (jb_107_15 G).1 := ⟨mo_aload _, mo_iload _, mo_iload _, mo_iload _, trivial⟩
def jb_107_23 (G : jx_Gv) : jx_B := ([], .inl (jc_i (fun x => decide (x = 0)), 38, 26))
theorem jm_107_23 (G : jx_Gv) : jx_mo (jb_107_23 G).1 := trivial
def jb_107_26 (G : jx_Gv) : jx_B := ([jo_iinc 4 (1 : Int32), jo_iload 4, jo_iload 3], .inl (jc_ii (fun x y => decide (¬ x = y)), 38, 35))
theorem jm_107_26 (G : jx_Gv) : jx_mo (jb_107_26 G).1 := ⟨mo_iinc _ _, mo_iload _, mo_iload _, trivial⟩
def jb_107_35 (G : jx_Gv) : jx_B := ([jo_iload 5], .inr (.inr (.inr (.inr jr_i))))
theorem jm_107_35 (G : jx_Gv) : jx_mo (jb_107_35 G).1 := ⟨mo_iload _, trivial⟩
def jb_107_38 (G : jx_Gv) : jx_B := ([jo_iinc 5 (1 : Int32)], .inr (.inl 6))
theorem jm_107_38 (G : jx_Gv) : jx_mo (jb_107_38 G).1 := ⟨mo_iinc _ _, trivial⟩
def jb_107_44 (G : jx_Gv) : jx_B := ([jo_const (.int (0 : Int32))], .inr (.inr (.inr (.inr jr_i))))
theorem jm_107_44 (G : jx_Gv) : jx_mo (jb_107_44 G).1 := ⟨mo_const _, trivial⟩
def jbs_107 (G : jx_Gv) : List (Nat × jx_B) := [(0, jb_107_0 G), (6, jb_107_6 G), (15, jb_107_15 G), (23, jb_107_23 G), (26, jb_107_26 G), (35, jb_107_35 G), (38, jb_107_38 G), (44, jb_107_44 G)]
theorem jms_107 (G : jx_Gv) : ∀ e ∈ jbs_107 G, jx_mo e.2.1 := List.forall_mem_cons.mpr ⟨jm_107_0 G, List.forall_mem_cons.mpr ⟨jm_107_6 G, List.forall_mem_cons.mpr ⟨jm_107_15 G, List.forall_mem_cons.mpr ⟨jm_107_23 G, List.forall_mem_cons.mpr ⟨jm_107_26 G, List.forall_mem_cons.mpr ⟨jm_107_35 G, List.forall_mem_cons.mpr ⟨jm_107_38 G, List.forall_mem_cons.mpr ⟨jm_107_44 G, fun _ h => absurd h List.not_mem_nil⟩⟩⟩⟩⟩⟩⟩⟩
def jb_108_0 (G : jx_Gv) : jx_B := ([jo_aload 0], .inl (jc_nonn, 8, 4))
theorem jm_108_0 (G : jx_Gv) : jx_mo (jb_108_0 G).1 := ⟨mo_aload _, trivial⟩
def jb_108_4 (G : jx_Gv) : jx_B := ([jo_const (.int (0 : Int32))], .inr (.inl 17))
theorem jm_108_4 (G : jx_Gv) : jx_mo (jb_108_4 G).1 := ⟨mo_const _, trivial⟩
def jb_108_8 (G : jx_Gv) : jx_B := ([jo_aload 0, jo_const (.int (8208 : Int32)), jo_const (.int (0 : Int32)), jo_iload 1], .inr (.inr (.inr (.inl (107, 4, 17, some 7)))))
theorem jm_108_8 (G : jx_Gv) : jx_mo (jb_108_8 G).1 := ⟨mo_aload _, mo_const _, mo_const _, mo_iload _, trivial⟩
def jb_108_17 (G : jx_Gv) : jx_B := ([], .inr (.inr (.inr (.inr jr_i))))
theorem jm_108_17 (G : jx_Gv) : jx_mo (jb_108_17 G).1 := trivial
def jbs_108 (G : jx_Gv) : List (Nat × jx_B) := [(0, jb_108_0 G), (4, jb_108_4 G), (8, jb_108_8 G), (17, jb_108_17 G)]
theorem jms_108 (G : jx_Gv) : ∀ e ∈ jbs_108 G, jx_mo e.2.1 := List.forall_mem_cons.mpr ⟨jm_108_0 G, List.forall_mem_cons.mpr ⟨jm_108_4 G, List.forall_mem_cons.mpr ⟨jm_108_8 G, List.forall_mem_cons.mpr ⟨jm_108_17 G, fun _ h => absurd h List.not_mem_nil⟩⟩⟩⟩
def jb_109_0 (G : jx_Gv) : jx_B := ([jo_aload 0], .inr (.inr (.inr (.inl (106, 1, 4, some 0)))))
theorem jm_109_0 (G : jx_Gv) : jx_mo (jb_109_0 G).1 := ⟨mo_aload _, trivial⟩
def jb_109_4 (G : jx_Gv) : jx_B := ([jo_astore 3, jo_aload 3, jo_iload 1], .inr (.inr (.inr (.inl (108, 2, 10, none)))))
theorem jm_109_4 (G : jx_Gv) : jx_mo (jb_109_4 G).1 := ⟨mo_astore _, mo_aload _, mo_iload _, trivial⟩
def jb_109_10 (G : jx_Gv) : jx_B := ([jo_istore 4, jo_aload 3], .inl (jc_null, 21, 16))
theorem jm_109_10 (G : jx_Gv) : jx_mo (jb_109_10 G).1 := ⟨mo_istore _, mo_aload _, trivial⟩
def jb_109_16 (G : jx_Gv) : jx_B := ([jo_iload 4], .inl (jc_i (fun x => decide (¬ x = 0)), 23, 21))
theorem jm_109_16 (G : jx_Gv) : jx_mo (jb_109_16 G).1 := ⟨mo_iload _, trivial⟩
def jb_109_21 (G : jx_Gv) : jx_B := ([jo_const (.int (-1 : Int32))], .inr (.inr (.inr (.inr jr_i))))
theorem jm_109_21 (G : jx_Gv) : jx_mo (jb_109_21 G).1 := ⟨mo_const _, trivial⟩
def jb_109_23 (G : jx_Gv) : jx_B := ([jo_iload 2], .inr (.inr (.inl (jx_sw [((0 : Int32), 64), ((1 : Int32), 72), ((2 : Int32), 90), ((3 : Int32), 99), ((4 : Int32), 109), ((5 : Int32), 119)] 128))))
theorem jm_109_23 (G : jx_Gv) : jx_mo (jb_109_23 G).1 := ⟨mo_iload _, trivial⟩
def jb_109_64 (G : jx_Gv) : jx_B := ([jo_aload 3, jo_iload 4, jo_const (.int (1 : Int32))], .inr (.inr (.inr (.inl (64, 3, 71, some 7)))))
theorem jm_109_64 (G : jx_Gv) : jx_mo (jb_109_64 G).1 := ⟨mo_aload _, mo_iload _, mo_const _, trivial⟩
def jb_109_71 (G : jx_Gv) : jx_B := ([], .inr (.inr (.inr (.inr jr_i))))
theorem jm_109_71 (G : jx_Gv) : jx_mo (jb_109_71 G).1 := trivial
def jb_109_72 (G : jx_Gv) : jx_B := ([jo_aload 3, jo_iload 4], .inr (.inr (.inr (.inl (47, 2, 78, some 7)))))
theorem jm_109_72 (G : jx_Gv) : jx_mo (jb_109_72 G).1 := ⟨mo_aload _, mo_iload _, trivial⟩
def jb_109_78 (G : jx_Gv) : jx_B := ([jo_const (.int (8192 : Int32))], .inl (jc_ii (fun x y => decide (¬ x = y)), 88, 84))
theorem jm_109_78 (G : jx_Gv) : jx_mo (jb_109_78 G).1 := ⟨mo_const _, trivial⟩
def jb_109_84 (G : jx_Gv) : jx_B := ([jo_const (.int (1 : Int32))], .inr (.inl 89))
theorem jm_109_84 (G : jx_Gv) : jx_mo (jb_109_84 G).1 := ⟨mo_const _, trivial⟩
def jb_109_88 (G : jx_Gv) : jx_B := ([jo_const (.int (0 : Int32))], .inr (.inl 89))
theorem jm_109_88 (G : jx_Gv) : jx_mo (jb_109_88 G).1 := ⟨mo_const _, trivial⟩
def jb_109_89 (G : jx_Gv) : jx_B := ([], .inr (.inr (.inr (.inr jr_i))))
theorem jm_109_89 (G : jx_Gv) : jx_mo (jb_109_89 G).1 := trivial
def jb_109_90 (G : jx_Gv) : jx_B := ([jo_aload 3, jo_const (.int (96 : Int32)), jo_iload 4], .inr (.inr (.inr (.inl (69, 3, 98, some 7)))))
theorem jm_109_90 (G : jx_Gv) : jx_mo (jb_109_90 G).1 := ⟨mo_aload _, mo_const _, mo_iload _, trivial⟩
def jb_109_98 (G : jx_Gv) : jx_B := ([], .inr (.inr (.inr (.inr jr_i))))
theorem jm_109_98 (G : jx_Gv) : jx_mo (jb_109_98 G).1 := trivial
def jb_109_99 (G : jx_Gv) : jx_B := ([jo_aload 3, jo_const (.int (256 : Int32)), jo_iload 4], .inr (.inr (.inr (.inl (69, 3, 108, some 7)))))
theorem jm_109_99 (G : jx_Gv) : jx_mo (jb_109_99 G).1 := ⟨mo_aload _, mo_const _, mo_iload _, trivial⟩
def jb_109_108 (G : jx_Gv) : jx_B := ([], .inr (.inr (.inr (.inr jr_i))))
theorem jm_109_108 (G : jx_Gv) : jx_mo (jb_109_108 G).1 := trivial
def jb_109_109 (G : jx_Gv) : jx_B := ([jo_aload 3, jo_const (.int (128 : Int32)), jo_iload 4], .inr (.inr (.inr (.inl (69, 3, 118, some 7)))))
theorem jm_109_109 (G : jx_Gv) : jx_mo (jb_109_109 G).1 := ⟨mo_aload _, mo_const _, mo_iload _, trivial⟩
def jb_109_118 (G : jx_Gv) : jx_B := ([], .inr (.inr (.inr (.inr jr_i))))
theorem jm_109_118 (G : jx_Gv) : jx_mo (jb_109_118 G).1 := trivial
def jb_109_119 (G : jx_Gv) : jx_B := ([jo_aload 3, jo_const (.int (65536 : Int32)), jo_iload 4], .inr (.inr (.inr (.inl (69, 3, 127, some 7)))))
theorem jm_109_119 (G : jx_Gv) : jx_mo (jb_109_119 G).1 := ⟨mo_aload _, mo_const _, mo_iload _, trivial⟩
def jb_109_127 (G : jx_Gv) : jx_B := ([], .inr (.inr (.inr (.inr jr_i))))
theorem jm_109_127 (G : jx_Gv) : jx_mo (jb_109_127 G).1 := trivial
def jb_109_128 (G : jx_Gv) : jx_B := ([jo_const (.int (-2 : Int32))], .inr (.inr (.inr (.inr jr_i))))
theorem jm_109_128 (G : jx_Gv) : jx_mo (jb_109_128 G).1 := ⟨mo_const _, trivial⟩
def jbs_109 (G : jx_Gv) : List (Nat × jx_B) := [(0, jb_109_0 G), (4, jb_109_4 G), (10, jb_109_10 G), (16, jb_109_16 G), (21, jb_109_21 G), (23, jb_109_23 G), (64, jb_109_64 G), (71, jb_109_71 G), (72, jb_109_72 G), (78, jb_109_78 G), (84, jb_109_84 G), (88, jb_109_88 G), (89, jb_109_89 G), (90, jb_109_90 G), (98, jb_109_98 G), (99, jb_109_99 G), (108, jb_109_108 G), (109, jb_109_109 G), (118, jb_109_118 G), (119, jb_109_119 G), (127, jb_109_127 G), (128, jb_109_128 G)]
theorem jms_109 (G : jx_Gv) : ∀ e ∈ jbs_109 G, jx_mo e.2.1 := List.forall_mem_cons.mpr ⟨jm_109_0 G, List.forall_mem_cons.mpr ⟨jm_109_4 G, List.forall_mem_cons.mpr ⟨jm_109_10 G, List.forall_mem_cons.mpr ⟨jm_109_16 G, List.forall_mem_cons.mpr ⟨jm_109_21 G, List.forall_mem_cons.mpr ⟨jm_109_23 G, List.forall_mem_cons.mpr ⟨jm_109_64 G, List.forall_mem_cons.mpr ⟨jm_109_71 G, List.forall_mem_cons.mpr ⟨jm_109_72 G, List.forall_mem_cons.mpr ⟨jm_109_78 G, List.forall_mem_cons.mpr ⟨jm_109_84 G, List.forall_mem_cons.mpr ⟨jm_109_88 G, List.forall_mem_cons.mpr ⟨jm_109_89 G, List.forall_mem_cons.mpr ⟨jm_109_90 G, List.forall_mem_cons.mpr ⟨jm_109_98 G, List.forall_mem_cons.mpr ⟨jm_109_99 G, List.forall_mem_cons.mpr ⟨jm_109_108 G, List.forall_mem_cons.mpr ⟨jm_109_109 G, List.forall_mem_cons.mpr ⟨jm_109_118 G, List.forall_mem_cons.mpr ⟨jm_109_119 G, List.forall_mem_cons.mpr ⟨jm_109_127 G, List.forall_mem_cons.mpr ⟨jm_109_128 G, fun _ h => absurd h List.not_mem_nil⟩⟩⟩⟩⟩⟩⟩⟩⟩⟩⟩⟩⟩⟩⟩⟩⟩⟩⟩⟩⟩⟩
def jb_110_0 (G : jx_Gv) : jx_B := ([jo_iload 3, jo_istore 4, jo_const (.int (0 : Int32)), jo_istore 5], .inr (.inl 6))
theorem jm_110_0 (G : jx_Gv) : jx_mo (jb_110_0 G).1 := ⟨mo_iload _, mo_istore _, mo_const _, mo_istore _, trivial⟩
def jb_110_6 (G : jx_Gv) : jx_B := ([jo_iload 5, jo_aload 0, jo_getI 8 33], .inl (jc_ii (fun x y => decide (y ≤ x)), 73, 15))
theorem jm_110_6 (G : jx_Gv) : jx_mo (jb_110_6 G).1 := ⟨mo_iload _, mo_aload _, mo_getI _ _, trivial⟩
def jb_110_15 (G : jx_Gv) : jx_B := ([jo_aload 0, jo_getI 8 32], .inl (jc_i (fun x => decide (x = 0)), 73, 22))
theorem jm_110_15 (G : jx_Gv) : jx_mo (jb_110_15 G).1 := ⟨mo_aload _, mo_getI _ _, trivial⟩
def jb_110_22 (G : jx_Gv) : jx_B := ([jo_iload 3], .inl (jc_i (fun x => decide (x ≤ 0)), 73, 26))
theorem jm_110_22 (G : jx_Gv) : jx_mo (jb_110_22 G).1 := ⟨mo_iload _, trivial⟩
def jb_110_26 (G : jx_Gv) : jx_B := ([jo_aload 0, jo_iload 5, jo_iload 1], .inr (.inr (.inr (.inl (102, 3, 33, some 8)))))
theorem jm_110_26 (G : jx_Gv) : jx_mo (jb_110_26 G).1 := ⟨mo_aload _, mo_iload _, mo_iload _, trivial⟩
def jb_110_33 (G : jx_Gv) : jx_B := ([], .inl (jc_i (fun x => decide (x = 0)), 67, 36))
theorem jm_110_33 (G : jx_Gv) : jx_mo (jb_110_33 G).1 := trivial
def jb_110_36 (G : jx_Gv) : jx_B := ([jo_iload 1, jo_const (.int (8 : Int32))], .inl (jc_ii (fun x y => decide (x = y)), 56, 42))
theorem jm_110_36 (G : jx_Gv) : jx_mo (jb_110_36 G).1 := ⟨mo_iload _, mo_const _, trivial⟩
def jb_110_42 (G : jx_Gv) : jx_B := ([jo_aload 0, jo_getA 8 35, jo_iload 5, jo_iald 0, jo_iload 2], .inl (jc_ii (fun x y => decide (x = y)), 56, 53))
theorem jm_110_42 (G : jx_Gv) : jx_mo (jb_110_42 G).1 := ⟨mo_aload _, mo_getA _ _, mo_iload _, mo_iald _, mo_iload _, trivial⟩
def jb_110_53 (G : jx_Gv) : jx_B := ([], .inr (.inl 67))
theorem jm_110_53 (G : jx_Gv) : jx_mo (jb_110_53 G).1 := trivial
def jb_110_56 (G : jx_Gv) : jx_B := ([jo_iinc 4 (-1 : Int32), jo_iload 4], .inl (jc_i (fun x => decide (¬ x = 0)), 67, 64))
theorem jm_110_56 (G : jx_Gv) : jx_mo (jb_110_56 G).1 := ⟨mo_iinc _ _, mo_iload _, trivial⟩
def jb_110_64 (G : jx_Gv) : jx_B := ([jo_iload 5], .inr (.inr (.inr (.inr jr_i))))
theorem jm_110_64 (G : jx_Gv) : jx_mo (jb_110_64 G).1 := ⟨mo_iload _, trivial⟩
def jb_110_67 (G : jx_Gv) : jx_B := ([jo_iinc 5 (1 : Int32)], .inr (.inl 6))
theorem jm_110_67 (G : jx_Gv) : jx_mo (jb_110_67 G).1 := ⟨mo_iinc _ _, trivial⟩
def jb_110_73 (G : jx_Gv) : jx_B := ([jo_const (.int (-1 : Int32))], .inr (.inr (.inr (.inr jr_i))))
theorem jm_110_73 (G : jx_Gv) : jx_mo (jb_110_73 G).1 := ⟨mo_const _, trivial⟩
def jbs_110 (G : jx_Gv) : List (Nat × jx_B) := [(0, jb_110_0 G), (6, jb_110_6 G), (15, jb_110_15 G), (22, jb_110_22 G), (26, jb_110_26 G), (33, jb_110_33 G), (36, jb_110_36 G), (42, jb_110_42 G), (53, jb_110_53 G), (56, jb_110_56 G), (64, jb_110_64 G), (67, jb_110_67 G), (73, jb_110_73 G)]
theorem jms_110 (G : jx_Gv) : ∀ e ∈ jbs_110 G, jx_mo e.2.1 := List.forall_mem_cons.mpr ⟨jm_110_0 G, List.forall_mem_cons.mpr ⟨jm_110_6 G, List.forall_mem_cons.mpr ⟨jm_110_15 G, List.forall_mem_cons.mpr ⟨jm_110_22 G, List.forall_mem_cons.mpr ⟨jm_110_26 G, List.forall_mem_cons.mpr ⟨jm_110_33 G, List.forall_mem_cons.mpr ⟨jm_110_36 G, List.forall_mem_cons.mpr ⟨jm_110_42 G, List.forall_mem_cons.mpr ⟨jm_110_53 G, List.forall_mem_cons.mpr ⟨jm_110_56 G, List.forall_mem_cons.mpr ⟨jm_110_64 G, List.forall_mem_cons.mpr ⟨jm_110_67 G, List.forall_mem_cons.mpr ⟨jm_110_73 G, fun _ h => absurd h List.not_mem_nil⟩⟩⟩⟩⟩⟩⟩⟩⟩⟩⟩⟩⟩
def jb_111_0 (G : jx_Gv) : jx_B := ([jo_aload 0, jo_const (.int (3 : Int32)), jo_const (.int (-1 : Int32)), jo_iload 1], .inr (.inr (.inr (.inl (110, 4, 7, some 8)))))
theorem jm_111_0 (G : jx_Gv) : jx_mo (jb_111_0 G).1 := ⟨mo_aload _, mo_const _, mo_const _, mo_iload _, trivial⟩
def jb_111_7 (G : jx_Gv) : jx_B := ([jo_istore 3, jo_iload 3], .inl (jc_i (fun x => decide (0 ≤ x)), 14, 12))
theorem jm_111_7 (G : jx_Gv) : jx_mo (jb_111_7 G).1 := ⟨mo_istore _, mo_iload _, trivial⟩
def jb_111_12 (G : jx_Gv) : jx_B := ([jo_const (.int (-1 : Int32))], .inr (.inr (.inr (.inr jr_i))))
theorem jm_111_12 (G : jx_Gv) : jx_mo (jb_111_12 G).1 := ⟨mo_const _, trivial⟩
def jb_111_14 (G : jx_Gv) : jx_B := ([jo_iload 2], .inr (.inr (.inl (jx_sw [((0 : Int32), 52), ((1 : Int32), 59), ((2 : Int32), 75), ((3 : Int32), 82), ((4 : Int32), 89), ((5 : Int32), 97)] 105))))
theorem jm_111_14 (G : jx_Gv) : jx_mo (jb_111_14 G).1 := ⟨mo_iload _, trivial⟩
def jb_111_52 (G : jx_Gv) : jx_B := ([jo_aload 0, jo_getA 8 36, jo_iload 3, jo_iald 0], .inr (.inr (.inr (.inr jr_i))))
theorem jm_111_52 (G : jx_Gv) : jx_mo (jb_111_52 G).1 := ⟨mo_aload _, mo_getA _ _, mo_iload _, mo_iald _, trivial⟩
def jb_111_59 (G : jx_Gv) : jx_B := ([jo_aload 0, jo_getA 8 34, jo_iload 3, jo_iald 0, jo_const (.int (5 : Int32))], .inl (jc_ii (fun x y => decide (¬ x = y)), 73, 69))
theorem jm_111_59 (G : jx_Gv) : jx_mo (jb_111_59 G).1 := ⟨mo_aload _, mo_getA _ _, mo_iload _, mo_iald _, mo_const _, trivial⟩
def jb_111_69 (G : jx_Gv) : jx_B := ([jo_const (.int (1 : Int32))], .inr (.inl 74))
theorem jm_111_69 (G : jx_Gv) : jx_mo (jb_111_69 G).1 := ⟨mo_const _, trivial⟩
def jb_111_73 (G : jx_Gv) : jx_B := ([jo_const (.int (0 : Int32))], .inr (.inl 74))
theorem jm_111_73 (G : jx_Gv) : jx_mo (jb_111_73 G).1 := ⟨mo_const _, trivial⟩
def jb_111_74 (G : jx_Gv) : jx_B := ([], .inr (.inr (.inr (.inr jr_i))))
theorem jm_111_74 (G : jx_Gv) : jx_mo (jb_111_74 G).1 := trivial
def jb_111_75 (G : jx_Gv) : jx_B := ([jo_aload 0, jo_const (.int (4 : Int32)), jo_iload 3], .inr (.inr (.inr (.inl (103, 3, 81, some 8)))))
theorem jm_111_75 (G : jx_Gv) : jx_mo (jb_111_75 G).1 := ⟨mo_aload _, mo_const _, mo_iload _, trivial⟩
def jb_111_81 (G : jx_Gv) : jx_B := ([], .inr (.inr (.inr (.inr jr_i))))
theorem jm_111_81 (G : jx_Gv) : jx_mo (jb_111_81 G).1 := trivial
def jb_111_82 (G : jx_Gv) : jx_B := ([jo_aload 0, jo_const (.int (5 : Int32)), jo_iload 3], .inr (.inr (.inr (.inl (103, 3, 88, some 8)))))
theorem jm_111_82 (G : jx_Gv) : jx_mo (jb_111_82 G).1 := ⟨mo_aload _, mo_const _, mo_iload _, trivial⟩
def jb_111_88 (G : jx_Gv) : jx_B := ([], .inr (.inr (.inr (.inr jr_i))))
theorem jm_111_88 (G : jx_Gv) : jx_mo (jb_111_88 G).1 := trivial
def jb_111_89 (G : jx_Gv) : jx_B := ([jo_aload 0, jo_const (.int (6 : Int32)), jo_iload 3], .inr (.inr (.inr (.inl (103, 3, 96, some 8)))))
theorem jm_111_89 (G : jx_Gv) : jx_mo (jb_111_89 G).1 := ⟨mo_aload _, mo_const _, mo_iload _, trivial⟩
def jb_111_96 (G : jx_Gv) : jx_B := ([], .inr (.inr (.inr (.inr jr_i))))
theorem jm_111_96 (G : jx_Gv) : jx_mo (jb_111_96 G).1 := trivial
def jb_111_97 (G : jx_Gv) : jx_B := ([jo_aload 0, jo_const (.int (7 : Int32)), jo_iload 3], .inr (.inr (.inr (.inl (103, 3, 104, some 8)))))
theorem jm_111_97 (G : jx_Gv) : jx_mo (jb_111_97 G).1 := ⟨mo_aload _, mo_const _, mo_iload _, trivial⟩
def jb_111_104 (G : jx_Gv) : jx_B := ([], .inr (.inr (.inr (.inr jr_i))))
theorem jm_111_104 (G : jx_Gv) : jx_mo (jb_111_104 G).1 := trivial
def jb_111_105 (G : jx_Gv) : jx_B := ([jo_const (.int (-2 : Int32))], .inr (.inr (.inr (.inr jr_i))))
theorem jm_111_105 (G : jx_Gv) : jx_mo (jb_111_105 G).1 := ⟨mo_const _, trivial⟩
def jbs_111 (G : jx_Gv) : List (Nat × jx_B) := [(0, jb_111_0 G), (7, jb_111_7 G), (12, jb_111_12 G), (14, jb_111_14 G), (52, jb_111_52 G), (59, jb_111_59 G), (69, jb_111_69 G), (73, jb_111_73 G), (74, jb_111_74 G), (75, jb_111_75 G), (81, jb_111_81 G), (82, jb_111_82 G), (88, jb_111_88 G), (89, jb_111_89 G), (96, jb_111_96 G), (97, jb_111_97 G), (104, jb_111_104 G), (105, jb_111_105 G)]
theorem jms_111 (G : jx_Gv) : ∀ e ∈ jbs_111 G, jx_mo e.2.1 := List.forall_mem_cons.mpr ⟨jm_111_0 G, List.forall_mem_cons.mpr ⟨jm_111_7 G, List.forall_mem_cons.mpr ⟨jm_111_12 G, List.forall_mem_cons.mpr ⟨jm_111_14 G, List.forall_mem_cons.mpr ⟨jm_111_52 G, List.forall_mem_cons.mpr ⟨jm_111_59 G, List.forall_mem_cons.mpr ⟨jm_111_69 G, List.forall_mem_cons.mpr ⟨jm_111_73 G, List.forall_mem_cons.mpr ⟨jm_111_74 G, List.forall_mem_cons.mpr ⟨jm_111_75 G, List.forall_mem_cons.mpr ⟨jm_111_81 G, List.forall_mem_cons.mpr ⟨jm_111_82 G, List.forall_mem_cons.mpr ⟨jm_111_88 G, List.forall_mem_cons.mpr ⟨jm_111_89 G, List.forall_mem_cons.mpr ⟨jm_111_96 G, List.forall_mem_cons.mpr ⟨jm_111_97 G, List.forall_mem_cons.mpr ⟨jm_111_104 G, List.forall_mem_cons.mpr ⟨jm_111_105 G, fun _ h => absurd h List.not_mem_nil⟩⟩⟩⟩⟩⟩⟩⟩⟩⟩⟩⟩⟩⟩⟩⟩⟩⟩
def jb_112_0 (G : jx_Gv) : jx_B := ([jo_aload 0, jo_iload 1], .inr (.inr (.inr (.inl (108, 2, 5, none)))))
theorem jm_112_0 (G : jx_Gv) : jx_mo (jb_112_0 G).1 := ⟨mo_aload _, mo_iload _, trivial⟩
def jb_112_5 (G : jx_Gv) : jx_B := ([jo_istore 4, jo_aload 0], .inl (jc_null, 16, 11))
theorem jm_112_5 (G : jx_Gv) : jx_mo (jb_112_5 G).1 := ⟨mo_istore _, mo_aload _, trivial⟩
def jb_112_11 (G : jx_Gv) : jx_B := ([jo_iload 4], .inl (jc_i (fun x => decide (¬ x = 0)), 20, 16))
theorem jm_112_11 (G : jx_Gv) : jx_mo (jb_112_11 G).1 := ⟨mo_iload _, trivial⟩
def jb_112_16 (G : jx_Gv) : jx_B := ([jo_const (.int (0 : Int32))], .inr (.inl 28))
theorem jm_112_16 (G : jx_Gv) : jx_mo (jb_112_16 G).1 := ⟨mo_const _, trivial⟩
def jb_112_20 (G : jx_Gv) : jx_B := ([jo_aload 0, jo_iload 2, jo_iload 4, jo_iload 3], .inr (.inr (.inr (.inl (107, 4, 28, some 7)))))
theorem jm_112_20 (G : jx_Gv) : jx_mo (jb_112_20 G).1 := ⟨mo_aload _, mo_iload _, mo_iload _, mo_iload _, trivial⟩
def jb_112_28 (G : jx_Gv) : jx_B := ([], .inr (.inr (.inr (.inr jr_i))))
theorem jm_112_28 (G : jx_Gv) : jx_mo (jb_112_28 G).1 := trivial
def jbs_112 (G : jx_Gv) : List (Nat × jx_B) := [(0, jb_112_0 G), (5, jb_112_5 G), (11, jb_112_11 G), (16, jb_112_16 G), (20, jb_112_20 G), (28, jb_112_28 G)]
theorem jms_112 (G : jx_Gv) : ∀ e ∈ jbs_112 G, jx_mo e.2.1 := List.forall_mem_cons.mpr ⟨jm_112_0 G, List.forall_mem_cons.mpr ⟨jm_112_5 G, List.forall_mem_cons.mpr ⟨jm_112_11 G, List.forall_mem_cons.mpr ⟨jm_112_16 G, List.forall_mem_cons.mpr ⟨jm_112_20 G, List.forall_mem_cons.mpr ⟨jm_112_28 G, fun _ h => absurd h List.not_mem_nil⟩⟩⟩⟩⟩⟩
def jb_113_0 (G : jx_Gv) : jx_B := ([jo_iload 1, jo_const (.int (1 : Int32))], .inl (jc_ii (fun x y => decide (x < y)), 13, 5))
theorem jm_113_0 (G : jx_Gv) : jx_mo (jb_113_0 G).1 := ⟨mo_iload _, mo_const _, trivial⟩
def jb_113_5 (G : jx_Gv) : jx_B := ([jo_iload 1, jo_aload 0, jo_getI 7 10], .inl (jc_ii (fun x y => decide (x ≤ y)), 17, 13))
theorem jm_113_5 (G : jx_Gv) : jx_mo (jb_113_5 G).1 := ⟨mo_iload _, mo_aload _, mo_getI _ _, trivial⟩
def jb_113_13 (G : jx_Gv) : jx_B := ([jo_const (.int (0 : Int32))], .inr (.inl 23))
theorem jm_113_13 (G : jx_Gv) : jx_mo (jb_113_13 G).1 := ⟨mo_const _, trivial⟩
def jb_113_17 (G : jx_Gv) : jx_B := ([jo_aload 0, jo_getA 7 9, jo_iload 1, jo_iald 0], .inr (.inl 23))
theorem jm_113_17 (G : jx_Gv) : jx_mo (jb_113_17 G).1 := ⟨mo_aload _, mo_getA _ _, mo_iload _, mo_iald _, trivial⟩
def jb_113_23 (G : jx_Gv) : jx_B := ([], .inr (.inr (.inr (.inr jr_i))))
theorem jm_113_23 (G : jx_Gv) : jx_mo (jb_113_23 G).1 := trivial
def jbs_113 (G : jx_Gv) : List (Nat × jx_B) := [(0, jb_113_0 G), (5, jb_113_5 G), (13, jb_113_13 G), (17, jb_113_17 G), (23, jb_113_23 G)]
theorem jms_113 (G : jx_Gv) : ∀ e ∈ jbs_113 G, jx_mo e.2.1 := List.forall_mem_cons.mpr ⟨jm_113_0 G, List.forall_mem_cons.mpr ⟨jm_113_5 G, List.forall_mem_cons.mpr ⟨jm_113_13 G, List.forall_mem_cons.mpr ⟨jm_113_17 G, List.forall_mem_cons.mpr ⟨jm_113_23 G, fun _ h => absurd h List.not_mem_nil⟩⟩⟩⟩⟩
def jb_114_0 (G : jx_Gv) : jx_B := ([jo_iload 3], .inl (jc_i (fun x => decide (¬ x = 0)), 8, 4))
theorem jm_114_0 (G : jx_Gv) : jx_mo (jb_114_0 G).1 := ⟨mo_iload _, trivial⟩
def jb_114_4 (G : jx_Gv) : jx_B := ([jo_const (.int (0 : Int32))], .inr (.inl 15))
theorem jm_114_4 (G : jx_Gv) : jx_mo (jb_114_4 G).1 := ⟨mo_const _, trivial⟩
def jb_114_8 (G : jx_Gv) : jx_B := ([jo_aload 0, jo_iload 3, jo_iload 1, jo_iload 2], .inr (.inr (.inr (.inl (68, 4, 15, some 7)))))
theorem jm_114_8 (G : jx_Gv) : jx_mo (jb_114_8 G).1 := ⟨mo_aload _, mo_iload _, mo_iload _, mo_iload _, trivial⟩
def jb_114_15 (G : jx_Gv) : jx_B := ([], .inr (.inr (.inr (.inr jr_i))))
theorem jm_114_15 (G : jx_Gv) : jx_mo (jb_114_15 G).1 := trivial
def jbs_114 (G : jx_Gv) : List (Nat × jx_B) := [(0, jb_114_0 G), (4, jb_114_4 G), (8, jb_114_8 G), (15, jb_114_15 G)]
theorem jms_114 (G : jx_Gv) : ∀ e ∈ jbs_114 G, jx_mo e.2.1 := List.forall_mem_cons.mpr ⟨jm_114_0 G, List.forall_mem_cons.mpr ⟨jm_114_4 G, List.forall_mem_cons.mpr ⟨jm_114_8 G, List.forall_mem_cons.mpr ⟨jm_114_15 G, fun _ h => absurd h List.not_mem_nil⟩⟩⟩⟩
def jb_115_0 (G : jx_Gv) : jx_B := ([jo_aload 0], .inr (.inr (.inr (.inl (106, 1, 4, some 0)))))
theorem jm_115_0 (G : jx_Gv) : jx_mo (jb_115_0 G).1 := ⟨mo_aload _, trivial⟩
def jb_115_4 (G : jx_Gv) : jx_B := ([jo_astore 4, jo_aload 4, jo_iload 1, jo_const (.int (96 : Int32)), jo_iload 2], .inr (.inr (.inr (.inl (112, 4, 15, none)))))
theorem jm_115_4 (G : jx_Gv) : jx_mo (jb_115_4 G).1 := ⟨mo_astore _, mo_aload _, mo_iload _, mo_const _, mo_iload _, trivial⟩
def jb_115_15 (G : jx_Gv) : jx_B := ([jo_istore 5, jo_aload 4], .inl (jc_null, 27, 22))
theorem jm_115_15 (G : jx_Gv) : jx_mo (jb_115_15 G).1 := ⟨mo_istore _, mo_aload _, trivial⟩
def jb_115_22 (G : jx_Gv) : jx_B := ([jo_iload 5], .inl (jc_i (fun x => decide (¬ x = 0)), 29, 27))
theorem jm_115_22 (G : jx_Gv) : jx_mo (jb_115_22 G).1 := ⟨mo_iload _, trivial⟩
def jb_115_27 (G : jx_Gv) : jx_B := ([jo_const (.int (-1 : Int32))], .inr (.inr (.inr (.inr jr_i))))
theorem jm_115_27 (G : jx_Gv) : jx_mo (jb_115_27 G).1 := ⟨mo_const _, trivial⟩
def jb_115_29 (G : jx_Gv) : jx_B := ([jo_iload 3], .inr (.inr (.inl (jx_sw [((0 : Int32), 56), ((1 : Int32), 65), ((2 : Int32), 83)] 98))))
theorem jm_115_29 (G : jx_Gv) : jx_mo (jb_115_29 G).1 := ⟨mo_iload _, trivial⟩
def jb_115_56 (G : jx_Gv) : jx_B := ([jo_aload 4, jo_iload 5, jo_const (.int (1 : Int32))], .inr (.inr (.inr (.inl (64, 3, 64, some 7)))))
theorem jm_115_56 (G : jx_Gv) : jx_mo (jb_115_56 G).1 := ⟨mo_aload _, mo_iload _, mo_const _, trivial⟩
def jb_115_64 (G : jx_Gv) : jx_B := ([], .inr (.inr (.inr (.inr jr_i))))
theorem jm_115_64 (G : jx_Gv) : jx_mo (jb_115_64 G).1 := trivial
def jb_115_65 (G : jx_Gv) : jx_B := ([jo_aload 4, jo_iload 5], .inr (.inr (.inr (.inl (47, 2, 72, some 7)))))
theorem jm_115_65 (G : jx_Gv) : jx_mo (jb_115_65 G).1 := ⟨mo_aload _, mo_iload _, trivial⟩
def jb_115_72 (G : jx_Gv) : jx_B := ([jo_const (.int (32 : Int32))], .inl (jc_ii (fun x y => decide (¬ x = y)), 81, 77))
theorem jm_115_72 (G : jx_Gv) : jx_mo (jb_115_72 G).1 := ⟨mo_const _, trivial⟩
def jb_115_77 (G : jx_Gv) : jx_B := ([jo_const (.int (1 : Int32))], .inr (.inl 82))
theorem jm_115_77 (G : jx_Gv) : jx_mo (jb_115_77 G).1 := ⟨mo_const _, trivial⟩
def jb_115_81 (G : jx_Gv) : jx_B := ([jo_const (.int (0 : Int32))], .inr (.inl 82))
theorem jm_115_81 (G : jx_Gv) : jx_mo (jb_115_81 G).1 := ⟨mo_const _, trivial⟩
def jb_115_82 (G : jx_Gv) : jx_B := ([], .inr (.inr (.inr (.inr jr_i))))
theorem jm_115_82 (G : jx_Gv) : jx_mo (jb_115_82 G).1 := trivial
def jb_115_83 (G : jx_Gv) : jx_B := ([jo_aload 4, jo_const (.int (4 : Int32)), jo_const (.int (0 : Int32)), jo_aload 4, jo_iload 5], .inr (.inr (.inr (.inl (113, 2, 94, some 7)))))
theorem jm_115_83 (G : jx_Gv) : jx_mo (jb_115_83 G).1 := ⟨mo_aload _, mo_const _, mo_const _, mo_aload _, mo_iload _, trivial⟩
def jb_115_94 (G : jx_Gv) : jx_B := ([], .inr (.inr (.inr (.inl (114, 4, 97, some 7)))))
theorem jm_115_94 (G : jx_Gv) : jx_mo (jb_115_94 G).1 := trivial
def jb_115_97 (G : jx_Gv) : jx_B := ([], .inr (.inr (.inr (.inr jr_i))))
theorem jm_115_97 (G : jx_Gv) : jx_mo (jb_115_97 G).1 := trivial
def jb_115_98 (G : jx_Gv) : jx_B := ([jo_const (.int (-2 : Int32))], .inr (.inr (.inr (.inr jr_i))))
theorem jm_115_98 (G : jx_Gv) : jx_mo (jb_115_98 G).1 := ⟨mo_const _, trivial⟩
def jbs_115 (G : jx_Gv) : List (Nat × jx_B) := [(0, jb_115_0 G), (4, jb_115_4 G), (15, jb_115_15 G), (22, jb_115_22 G), (27, jb_115_27 G), (29, jb_115_29 G), (56, jb_115_56 G), (64, jb_115_64 G), (65, jb_115_65 G), (72, jb_115_72 G), (77, jb_115_77 G), (81, jb_115_81 G), (82, jb_115_82 G), (83, jb_115_83 G), (94, jb_115_94 G), (97, jb_115_97 G), (98, jb_115_98 G)]
theorem jms_115 (G : jx_Gv) : ∀ e ∈ jbs_115 G, jx_mo e.2.1 := List.forall_mem_cons.mpr ⟨jm_115_0 G, List.forall_mem_cons.mpr ⟨jm_115_4 G, List.forall_mem_cons.mpr ⟨jm_115_15 G, List.forall_mem_cons.mpr ⟨jm_115_22 G, List.forall_mem_cons.mpr ⟨jm_115_27 G, List.forall_mem_cons.mpr ⟨jm_115_29 G, List.forall_mem_cons.mpr ⟨jm_115_56 G, List.forall_mem_cons.mpr ⟨jm_115_64 G, List.forall_mem_cons.mpr ⟨jm_115_65 G, List.forall_mem_cons.mpr ⟨jm_115_72 G, List.forall_mem_cons.mpr ⟨jm_115_77 G, List.forall_mem_cons.mpr ⟨jm_115_81 G, List.forall_mem_cons.mpr ⟨jm_115_82 G, List.forall_mem_cons.mpr ⟨jm_115_83 G, List.forall_mem_cons.mpr ⟨jm_115_94 G, List.forall_mem_cons.mpr ⟨jm_115_97 G, List.forall_mem_cons.mpr ⟨jm_115_98 G, fun _ h => absurd h List.not_mem_nil⟩⟩⟩⟩⟩⟩⟩⟩⟩⟩⟩⟩⟩⟩⟩⟩⟩
def jb_116_0 (G : jx_Gv) : jx_B := ([jo_const (.int (0 : Int32)), jo_istore 4], .inr (.inl 3))
theorem jm_116_0 (G : jx_Gv) : jx_mo (jb_116_0 G).1 := ⟨mo_const _, mo_istore _, trivial⟩
def jb_116_3 (G : jx_Gv) : jx_B := ([jo_iload 4, jo_aload 0, jo_getI 8 33], .inl (jc_ii (fun x y => decide (y ≤ x)), 53, 12))
theorem jm_116_3 (G : jx_Gv) : jx_mo (jb_116_3 G).1 := ⟨mo_iload _, mo_aload _, mo_getI _ _, trivial⟩
def jb_116_12 (G : jx_Gv) : jx_B := ([jo_aload 0, jo_iload 4, jo_iload 1], .inr (.inr (.inr (.inl (102, 3, 19, some 8)))))
theorem jm_116_12 (G : jx_Gv) : jx_mo (jb_116_12 G).1 := ⟨mo_aload _, mo_iload _, mo_iload _, trivial⟩
def jb_116_19 (G : jx_Gv) : jx_B := ([], .inl (jc_i (fun x => decide (x = 0)), 47, 22))
theorem jm_116_19 (G : jx_Gv) : jx_mo (jb_116_19 G).1 := trivial
def jb_116_22 (G : jx_Gv) : jx_B := ([jo_aload 0, jo_getA 8 35, jo_iload 4, jo_iald 0, jo_iload 2], .inl (jc_ii (fun x y => decide (¬ x = y)), 47, 33))
theorem jm_116_22 (G : jx_Gv) : jx_mo (jb_116_22 G).1 := ⟨mo_aload _, mo_getA _ _, mo_iload _, mo_iald _, mo_iload _, trivial⟩
def jb_116_33 (G : jx_Gv) : jx_B := ([jo_aload 0, jo_getA 8 36, jo_iload 4, jo_iald 0, jo_iload 3], .inl (jc_ii (fun x y => decide (¬ x = y)), 47, 44))
theorem jm_116_33 (G : jx_Gv) : jx_mo (jb_116_33 G).1 := ⟨mo_aload _, mo_getA _ _, mo_iload _, mo_iald _, mo_iload _, trivial⟩
def jb_116_44 (G : jx_Gv) : jx_B := ([jo_iload 4], .inr (.inr (.inr (.inr jr_i))))
theorem jm_116_44 (G : jx_Gv) : jx_mo (jb_116_44 G).1 := ⟨mo_iload _, trivial⟩
def jb_116_47 (G : jx_Gv) : jx_B := ([jo_iinc 4 (1 : Int32)], .inr (.inl 3))
theorem jm_116_47 (G : jx_Gv) : jx_mo (jb_116_47 G).1 := ⟨mo_iinc _ _, trivial⟩
def jb_116_53 (G : jx_Gv) : jx_B := ([jo_const (.int (-1 : Int32))], .inr (.inr (.inr (.inr jr_i))))
theorem jm_116_53 (G : jx_Gv) : jx_mo (jb_116_53 G).1 := ⟨mo_const _, trivial⟩
def jbs_116 (G : jx_Gv) : List (Nat × jx_B) := [(0, jb_116_0 G), (3, jb_116_3 G), (12, jb_116_12 G), (19, jb_116_19 G), (22, jb_116_22 G), (33, jb_116_33 G), (44, jb_116_44 G), (47, jb_116_47 G), (53, jb_116_53 G)]
theorem jms_116 (G : jx_Gv) : ∀ e ∈ jbs_116 G, jx_mo e.2.1 := List.forall_mem_cons.mpr ⟨jm_116_0 G, List.forall_mem_cons.mpr ⟨jm_116_3 G, List.forall_mem_cons.mpr ⟨jm_116_12 G, List.forall_mem_cons.mpr ⟨jm_116_19 G, List.forall_mem_cons.mpr ⟨jm_116_22 G, List.forall_mem_cons.mpr ⟨jm_116_33 G, List.forall_mem_cons.mpr ⟨jm_116_44 G, List.forall_mem_cons.mpr ⟨jm_116_47 G, List.forall_mem_cons.mpr ⟨jm_116_53 G, fun _ h => absurd h List.not_mem_nil⟩⟩⟩⟩⟩⟩⟩⟩⟩
def jb_117_0 (G : jx_Gv) : jx_B := ([jo_iload 1], .inl (jc_i (fun x => decide (0 ≤ x)), 8, 4))
theorem jm_117_0 (G : jx_Gv) : jx_mo (jb_117_0 G).1 := ⟨mo_iload _, trivial⟩
def jb_117_4 (G : jx_Gv) : jx_B := ([jo_const (.int (-1 : Int32))], .inr (.inl 20))
theorem jm_117_4 (G : jx_Gv) : jx_mo (jb_117_4 G).1 := ⟨mo_const _, trivial⟩
def jb_117_8 (G : jx_Gv) : jx_B := ([jo_aload 0, jo_const (.int (2 : Int32)), jo_const (.int (-1 : Int32)), jo_aload 0, jo_getA 8 37, jo_iload 1, jo_iald 0], .inr (.inr (.inr (.inl (116, 4, 20, some 8)))))
theorem jm_117_8 (G : jx_Gv) : jx_mo (jb_117_8 G).1 := ⟨mo_aload _, mo_const _, mo_const _, mo_aload _, mo_getA _ _, mo_iload _, mo_iald _, trivial⟩
def jb_117_20 (G : jx_Gv) : jx_B := ([], .inr (.inr (.inr (.inr jr_i))))
theorem jm_117_20 (G : jx_Gv) : jx_mo (jb_117_20 G).1 := trivial
def jbs_117 (G : jx_Gv) : List (Nat × jx_B) := [(0, jb_117_0 G), (4, jb_117_4 G), (8, jb_117_8 G), (20, jb_117_20 G)]
theorem jms_117 (G : jx_Gv) : ∀ e ∈ jbs_117 G, jx_mo e.2.1 := List.forall_mem_cons.mpr ⟨jm_117_0 G, List.forall_mem_cons.mpr ⟨jm_117_4 G, List.forall_mem_cons.mpr ⟨jm_117_8 G, List.forall_mem_cons.mpr ⟨jm_117_20 G, fun _ h => absurd h List.not_mem_nil⟩⟩⟩⟩
def jb_118_0 (G : jx_Gv) : jx_B := ([jo_const (.int (0 : Int32)), jo_istore 3, jo_const (.int (0 : Int32)), jo_istore 4], .inr (.inl 5))
theorem jm_118_0 (G : jx_Gv) : jx_mo (jb_118_0 G).1 := ⟨mo_const _, mo_istore _, mo_const _, mo_istore _, trivial⟩
def jb_118_5 (G : jx_Gv) : jx_B := ([jo_iload 4, jo_iload 2], .inl (jc_ii (fun x y => decide (y < x)), 51, 11))
theorem jm_118_5 (G : jx_Gv) : jx_mo (jb_118_5 G).1 := ⟨mo_iload _, mo_iload _, trivial⟩
def jb_118_11 (G : jx_Gv) : jx_B := ([jo_iload 3, jo_aload 0, jo_iload 4, jo_iload 1], .inr (.inr (.inr (.inl (102, 3, 19, some 8)))))
theorem jm_118_11 (G : jx_Gv) : jx_mo (jb_118_11 G).1 := ⟨mo_iload _, mo_aload _, mo_iload _, mo_iload _, trivial⟩
def jb_118_19 (G : jx_Gv) : jx_B := ([], .inl (jc_i (fun x => decide (x = 0)), 42, 22))
theorem jm_118_19 (G : jx_Gv) : jx_mo (jb_118_19 G).1 := trivial
def jb_118_22 (G : jx_Gv) : jx_B := ([jo_aload 0, jo_getA 8 35, jo_iload 4, jo_iald 0, jo_aload 0, jo_getA 8 35, jo_iload 2, jo_iald 0], .inl (jc_ii (fun x y => decide (¬ x = y)), 42, 38))
theorem jm_118_22 (G : jx_Gv) : jx_mo (jb_118_22 G).1 := ⟨mo_aload _, mo_getA _ _, mo_iload _, mo_iald _, mo_aload _, mo_getA _ _, mo_iload _, mo_iald _, trivial⟩
def jb_118_38 (G : jx_Gv) : jx_B := ([jo_const (.int (1 : Int32))], .inr (.inl 43))
theorem jm_118_38 (G : jx_Gv) : jx_mo (jb_118_38 G).1 := ⟨mo_const _, trivial⟩
def jb_118_42 (G : jx_Gv) : jx_B := ([jo_const (.int (0 : Int32))], .inr (.inl 43))
theorem jm_118_42 (G : jx_Gv) : jx_mo (jb_118_42 G).1 := ⟨mo_const _, trivial⟩
def jb_118_43 (G : jx_Gv) : jx_B := ([jo_ii (· + ·), jo_istore 3, jo_iinc 4 (1 : Int32)], .inr (.inl 5))
theorem jm_118_43 (G : jx_Gv) : jx_mo (jb_118_43 G).1 := ⟨mo_ii _, mo_istore _, mo_iinc _ _, trivial⟩
def jb_118_51 (G : jx_Gv) : jx_B := ([jo_iload 3], .inr (.inr (.inr (.inr jr_i))))
theorem jm_118_51 (G : jx_Gv) : jx_mo (jb_118_51 G).1 := ⟨mo_iload _, trivial⟩
def jbs_118 (G : jx_Gv) : List (Nat × jx_B) := [(0, jb_118_0 G), (5, jb_118_5 G), (11, jb_118_11 G), (19, jb_118_19 G), (22, jb_118_22 G), (38, jb_118_38 G), (42, jb_118_42 G), (43, jb_118_43 G), (51, jb_118_51 G)]
theorem jms_118 (G : jx_Gv) : ∀ e ∈ jbs_118 G, jx_mo e.2.1 := List.forall_mem_cons.mpr ⟨jm_118_0 G, List.forall_mem_cons.mpr ⟨jm_118_5 G, List.forall_mem_cons.mpr ⟨jm_118_11 G, List.forall_mem_cons.mpr ⟨jm_118_19 G, List.forall_mem_cons.mpr ⟨jm_118_22 G, List.forall_mem_cons.mpr ⟨jm_118_38 G, List.forall_mem_cons.mpr ⟨jm_118_42 G, List.forall_mem_cons.mpr ⟨jm_118_43 G, List.forall_mem_cons.mpr ⟨jm_118_51 G, fun _ h => absurd h List.not_mem_nil⟩⟩⟩⟩⟩⟩⟩⟩⟩
def jb_119_0 (G : jx_Gv) : jx_B := ([jo_aload 0, jo_const (.int (3 : Int32)), jo_const (.int (-1 : Int32)), jo_iload 1], .inr (.inr (.inr (.inl (110, 4, 7, some 8)))))
theorem jm_119_0 (G : jx_Gv) : jx_mo (jb_119_0 G).1 := ⟨mo_aload _, mo_const _, mo_const _, mo_iload _, trivial⟩
def jb_119_7 (G : jx_Gv) : jx_B := ([jo_istore 4, jo_iload 4], .inl (jc_i (fun x => decide (0 ≤ x)), 18, 14))
theorem jm_119_7 (G : jx_Gv) : jx_mo (jb_119_7 G).1 := ⟨mo_istore _, mo_iload _, trivial⟩
def jb_119_14 (G : jx_Gv) : jx_B := ([jo_const (.int (-1 : Int32))], .inr (.inl 26))
theorem jm_119_14 (G : jx_Gv) : jx_mo (jb_119_14 G).1 := ⟨mo_const _, trivial⟩
def jb_119_18 (G : jx_Gv) : jx_B := ([jo_aload 0, jo_const (.int (4 : Int32)), jo_iload 4, jo_iload 2], .inr (.inr (.inr (.inl (110, 4, 26, some 8)))))
theorem jm_119_18 (G : jx_Gv) : jx_mo (jb_119_18 G).1 := ⟨mo_aload _, mo_const _, mo_iload _, mo_iload _, trivial⟩
def jb_119_26 (G : jx_Gv) : jx_B := ([jo_istore 5, jo_iload 5], .inl (jc_i (fun x => decide (0 ≤ x)), 35, 33))
theorem jm_119_26 (G : jx_Gv) : jx_mo (jb_119_26 G).1 := ⟨mo_istore _, mo_iload _, trivial⟩
def jb_119_33 (G : jx_Gv) : jx_B := ([jo_const (.int (-1 : Int32))], .inr (.inr (.inr (.inr jr_i))))
theorem jm_119_33 (G : jx_Gv) : jx_mo (jb_119_33 G).1 := ⟨mo_const _, trivial⟩
def jb_119_35 (G : jx_Gv) : jx_B := ([jo_iload 3], .inl (jc_i (fun x => decide (¬ x = 0)), 49, 39))
theorem jm_119_35 (G : jx_Gv) : jx_mo (jb_119_35 G).1 := ⟨mo_iload _, trivial⟩
def jb_119_39 (G : jx_Gv) : jx_B := ([jo_aload 0, jo_getA 8 36, jo_iload 5, jo_iald 0], .inr (.inl 95))
theorem jm_119_39 (G : jx_Gv) : jx_mo (jb_119_39 G).1 := ⟨mo_aload _, mo_getA _ _, mo_iload _, mo_iald _, trivial⟩
def jb_119_49 (G : jx_Gv) : jx_B := ([jo_iload 3, jo_const (.int (1 : Int32))], .inl (jc_ii (fun x y => decide (¬ x = y)), 74, 54))
theorem jm_119_49 (G : jx_Gv) : jx_mo (jb_119_49 G).1 := ⟨mo_iload _, mo_const _, trivial⟩
def jb_119_54 (G : jx_Gv) : jx_B := ([jo_aload 0, jo_getA 8 34, jo_iload 5, jo_iald 0, jo_const (.int (7 : Int32))], .inl (jc_ii (fun x y => decide (¬ x = y)), 70, 66))
theorem jm_119_54 (G : jx_Gv) : jx_mo (jb_119_54 G).1 := ⟨mo_aload _, mo_getA _ _, mo_iload _, mo_iald _, mo_const _, trivial⟩
def jb_119_66 (G : jx_Gv) : jx_B := ([jo_const (.int (1 : Int32))], .inr (.inl 95))
theorem jm_119_66 (G : jx_Gv) : jx_mo (jb_119_66 G).1 := ⟨mo_const _, trivial⟩
def jb_119_70 (G : jx_Gv) : jx_B := ([jo_const (.int (0 : Int32))], .inr (.inl 95))
theorem jm_119_70 (G : jx_Gv) : jx_mo (jb_119_70 G).1 := ⟨mo_const _, trivial⟩
def jb_119_74 (G : jx_Gv) : jx_B := ([jo_iload 3, jo_const (.int (2 : Int32))], .inl (jc_ii (fun x y => decide (¬ x = y)), 93, 79))
theorem jm_119_74 (G : jx_Gv) : jx_mo (jb_119_74 G).1 := ⟨mo_iload _, mo_const _, trivial⟩
def jb_119_79 (G : jx_Gv) : jx_B := ([jo_aload 0, jo_const (.int (2 : Int32)), jo_aload 0, jo_iload 5], .inr (.inr (.inr (.inl (117, 2, 87, some 8)))))
theorem jm_119_79 (G : jx_Gv) : jx_mo (jb_119_79 G).1 := ⟨mo_aload _, mo_const _, mo_aload _, mo_iload _, trivial⟩
def jb_119_87 (G : jx_Gv) : jx_B := ([], .inr (.inr (.inr (.inl (118, 3, 90, some 8)))))
theorem jm_119_87 (G : jx_Gv) : jx_mo (jb_119_87 G).1 := trivial
def jb_119_90 (G : jx_Gv) : jx_B := ([], .inr (.inl 95))
theorem jm_119_90 (G : jx_Gv) : jx_mo (jb_119_90 G).1 := trivial
def jb_119_93 (G : jx_Gv) : jx_B := ([jo_const (.int (-2 : Int32))], .inr (.inl 95))
theorem jm_119_93 (G : jx_Gv) : jx_mo (jb_119_93 G).1 := ⟨mo_const _, trivial⟩
def jb_119_95 (G : jx_Gv) : jx_B := ([], .inr (.inr (.inr (.inr jr_i))))
theorem jm_119_95 (G : jx_Gv) : jx_mo (jb_119_95 G).1 := trivial
def jbs_119 (G : jx_Gv) : List (Nat × jx_B) := [(0, jb_119_0 G), (7, jb_119_7 G), (14, jb_119_14 G), (18, jb_119_18 G), (26, jb_119_26 G), (33, jb_119_33 G), (35, jb_119_35 G), (39, jb_119_39 G), (49, jb_119_49 G), (54, jb_119_54 G), (66, jb_119_66 G), (70, jb_119_70 G), (74, jb_119_74 G), (79, jb_119_79 G), (87, jb_119_87 G), (90, jb_119_90 G), (93, jb_119_93 G), (95, jb_119_95 G)]
theorem jms_119 (G : jx_Gv) : ∀ e ∈ jbs_119 G, jx_mo e.2.1 := List.forall_mem_cons.mpr ⟨jm_119_0 G, List.forall_mem_cons.mpr ⟨jm_119_7 G, List.forall_mem_cons.mpr ⟨jm_119_14 G, List.forall_mem_cons.mpr ⟨jm_119_18 G, List.forall_mem_cons.mpr ⟨jm_119_26 G, List.forall_mem_cons.mpr ⟨jm_119_33 G, List.forall_mem_cons.mpr ⟨jm_119_35 G, List.forall_mem_cons.mpr ⟨jm_119_39 G, List.forall_mem_cons.mpr ⟨jm_119_49 G, List.forall_mem_cons.mpr ⟨jm_119_54 G, List.forall_mem_cons.mpr ⟨jm_119_66 G, List.forall_mem_cons.mpr ⟨jm_119_70 G, List.forall_mem_cons.mpr ⟨jm_119_74 G, List.forall_mem_cons.mpr ⟨jm_119_79 G, List.forall_mem_cons.mpr ⟨jm_119_87 G, List.forall_mem_cons.mpr ⟨jm_119_90 G, List.forall_mem_cons.mpr ⟨jm_119_93 G, List.forall_mem_cons.mpr ⟨jm_119_95 G, fun _ h => absurd h List.not_mem_nil⟩⟩⟩⟩⟩⟩⟩⟩⟩⟩⟩⟩⟩⟩⟩⟩⟩⟩
def jb_120_0 (G : jx_Gv) : jx_B := ([jo_iload 1, jo_const (.int (1 : Int32))], .inl (jc_ii (fun x y => decide (x < y)), 27, 5))
theorem jm_120_0 (G : jx_Gv) : jx_mo (jb_120_0 G).1 := ⟨mo_iload _, mo_const _, trivial⟩
def jb_120_5 (G : jx_Gv) : jx_B := ([jo_iload 1, jo_aload 0, jo_getI 7 10], .inl (jc_ii (fun x y => decide (y < x)), 27, 13))
theorem jm_120_5 (G : jx_Gv) : jx_mo (jb_120_5 G).1 := ⟨mo_iload _, mo_aload _, mo_getI _ _, trivial⟩
def jb_120_13 (G : jx_Gv) : jx_B := ([jo_iload 2], .inl (jc_i (fun x => decide (x < 0)), 27, 17))
theorem jm_120_13 (G : jx_Gv) : jx_mo (jb_120_13 G).1 := ⟨mo_iload _, trivial⟩
def jb_120_17 (G : jx_Gv) : jx_B := ([jo_iload 2, jo_aload 0, jo_getA 7 8, jo_iload 1, jo_iald 0], .inl (jc_ii (fun x y => decide (x < y)), 30, 27))
theorem jm_120_17 (G : jx_Gv) : jx_mo (jb_120_17 G).1 := ⟨mo_iload _, mo_aload _, mo_getA _ _, mo_iload _, mo_iald _, trivial⟩
def jb_120_27 (G : jx_Gv) : jx_B := ([jo_const (.int (6 : Int32))], .inr (.inr (.inr (.inr jr_i))))
theorem jm_120_27 (G : jx_Gv) : jx_mo (jb_120_27 G).1 := ⟨mo_const _, trivial⟩
def jb_120_30 (G : jx_Gv) : jx_B := ([jo_aload 0, jo_getA 7 0, jo_aload 0, jo_getA 7 7, jo_iload 1, jo_iald 0, jo_iload 2, jo_ii (· + ·), jo_iald 2], .inr (.inr (.inr (.inr jr_i))))
theorem jm_120_30 (G : jx_Gv) : jx_mo (jb_120_30 G).1 := ⟨mo_aload _, mo_getA _ _, mo_aload _, mo_getA _ _, mo_iload _, mo_iald _, mo_iload _, mo_ii _, mo_iald _, trivial⟩
def jbs_120 (G : jx_Gv) : List (Nat × jx_B) := [(0, jb_120_0 G), (5, jb_120_5 G), (13, jb_120_13 G), (17, jb_120_17 G), (27, jb_120_27 G), (30, jb_120_30 G)]
theorem jms_120 (G : jx_Gv) : ∀ e ∈ jbs_120 G, jx_mo e.2.1 := List.forall_mem_cons.mpr ⟨jm_120_0 G, List.forall_mem_cons.mpr ⟨jm_120_5 G, List.forall_mem_cons.mpr ⟨jm_120_13 G, List.forall_mem_cons.mpr ⟨jm_120_17 G, List.forall_mem_cons.mpr ⟨jm_120_27 G, List.forall_mem_cons.mpr ⟨jm_120_30 G, fun _ h => absurd h List.not_mem_nil⟩⟩⟩⟩⟩⟩
def jb_121_0 (G : jx_Gv) : jx_B := ([jo_aload 0, jo_iload 1, jo_iload 2], .inr (.inr (.inr (.inl (120, 3, 6, some 7)))))
theorem jm_121_0 (G : jx_Gv) : jx_mo (jb_121_0 G).1 := ⟨mo_aload _, mo_iload _, mo_iload _, trivial⟩
def jb_121_6 (G : jx_Gv) : jx_B := ([jo_const (.int (1 : Int32))], .inl (jc_ii (fun x y => decide (¬ x = y)), 19, 10))
theorem jm_121_6 (G : jx_Gv) : jx_mo (jb_121_6 G).1 := ⟨mo_const _, trivial⟩
def jb_121_10 (G : jx_Gv) : jx_B := ([jo_aload 0, jo_iload 1, jo_iload 2], .inr (.inr (.inr (.inl (64, 3, 16, some 7)))))
theorem jm_121_10 (G : jx_Gv) : jx_mo (jb_121_10 G).1 := ⟨mo_aload _, mo_iload _, mo_iload _, trivial⟩
def jb_121_16 (G : jx_Gv) : jx_B := ([], .inr (.inl 20))
theorem jm_121_16 (G : jx_Gv) : jx_mo (jb_121_16 G).1 := trivial
def jb_121_19 (G : jx_Gv) : jx_B := ([jo_const (.int (0 : Int32))], .inr (.inl 20))
theorem jm_121_19 (G : jx_Gv) : jx_mo (jb_121_19 G).1 := ⟨mo_const _, trivial⟩
def jb_121_20 (G : jx_Gv) : jx_B := ([], .inr (.inr (.inr (.inr jr_i))))
theorem jm_121_20 (G : jx_Gv) : jx_mo (jb_121_20 G).1 := trivial
def jbs_121 (G : jx_Gv) : List (Nat × jx_B) := [(0, jb_121_0 G), (6, jb_121_6 G), (10, jb_121_10 G), (16, jb_121_16 G), (19, jb_121_19 G), (20, jb_121_20 G)]
theorem jms_121 (G : jx_Gv) : ∀ e ∈ jbs_121 G, jx_mo e.2.1 := List.forall_mem_cons.mpr ⟨jm_121_0 G, List.forall_mem_cons.mpr ⟨jm_121_6 G, List.forall_mem_cons.mpr ⟨jm_121_10 G, List.forall_mem_cons.mpr ⟨jm_121_16 G, List.forall_mem_cons.mpr ⟨jm_121_19 G, List.forall_mem_cons.mpr ⟨jm_121_20 G, fun _ h => absurd h List.not_mem_nil⟩⟩⟩⟩⟩⟩
def jb_122_0 (G : jx_Gv) : jx_B := ([jo_iload 1, jo_const (.int (1 : Int32))], .inl (jc_ii (fun x y => decide (x < y)), 13, 5))
theorem jm_122_0 (G : jx_Gv) : jx_mo (jb_122_0 G).1 := ⟨mo_iload _, mo_const _, trivial⟩
def jb_122_5 (G : jx_Gv) : jx_B := ([jo_iload 1, jo_aload 0, jo_getI 7 10], .inl (jc_ii (fun x y => decide (x ≤ y)), 17, 13))
theorem jm_122_5 (G : jx_Gv) : jx_mo (jb_122_5 G).1 := ⟨mo_iload _, mo_aload _, mo_getI _ _, trivial⟩
def jb_122_13 (G : jx_Gv) : jx_B := ([jo_const (.int (0 : Int32))], .inr (.inl 23))
theorem jm_122_13 (G : jx_Gv) : jx_mo (jb_122_13 G).1 := ⟨mo_const _, trivial⟩
def jb_122_17 (G : jx_Gv) : jx_B := ([jo_aload 0, jo_getA 7 6, jo_iload 1, jo_iald 0], .inr (.inl 23))
theorem jm_122_17 (G : jx_Gv) : jx_mo (jb_122_17 G).1 := ⟨mo_aload _, mo_getA _ _, mo_iload _, mo_iald _, trivial⟩
def jb_122_23 (G : jx_Gv) : jx_B := ([], .inr (.inr (.inr (.inr jr_i))))
theorem jm_122_23 (G : jx_Gv) : jx_mo (jb_122_23 G).1 := trivial
def jbs_122 (G : jx_Gv) : List (Nat × jx_B) := [(0, jb_122_0 G), (5, jb_122_5 G), (13, jb_122_13 G), (17, jb_122_17 G), (23, jb_122_23 G)]
theorem jms_122 (G : jx_Gv) : ∀ e ∈ jbs_122 G, jx_mo e.2.1 := List.forall_mem_cons.mpr ⟨jm_122_0 G, List.forall_mem_cons.mpr ⟨jm_122_5 G, List.forall_mem_cons.mpr ⟨jm_122_13 G, List.forall_mem_cons.mpr ⟨jm_122_17 G, List.forall_mem_cons.mpr ⟨jm_122_23 G, fun _ h => absurd h List.not_mem_nil⟩⟩⟩⟩⟩
def jb_123_0 (G : jx_Gv) : jx_B := ([jo_aload 0, jo_const (.int (96 : Int32)), jo_aload 0, jo_iload 1], .inr (.inr (.inr (.inl (122, 2, 8, some 7)))))
theorem jm_123_0 (G : jx_Gv) : jx_mo (jb_123_0 G).1 := ⟨mo_aload _, mo_const _, mo_aload _, mo_iload _, trivial⟩
def jb_123_8 (G : jx_Gv) : jx_B := ([jo_aload 0, jo_iload 1, jo_iload 2, jo_const (.int (1 : Int32)), jo_ii (· + ·)], .inr (.inr (.inr (.inl (64, 3, 16, some 7)))))
theorem jm_123_8 (G : jx_Gv) : jx_mo (jb_123_8 G).1 := ⟨mo_aload _, mo_iload _, mo_iload _, mo_const _, mo_ii _, trivial⟩
def jb_123_16 (G : jx_Gv) : jx_B := ([], .inr (.inr (.inr (.inl (66, 4, 19, some 7)))))
theorem jm_123_16 (G : jx_Gv) : jx_mo (jb_123_16 G).1 := trivial
def jb_123_19 (G : jx_Gv) : jx_B := ([], .inr (.inr (.inr (.inr jr_i))))
theorem jm_123_19 (G : jx_Gv) : jx_mo (jb_123_19 G).1 := trivial
def jbs_123 (G : jx_Gv) : List (Nat × jx_B) := [(0, jb_123_0 G), (8, jb_123_8 G), (16, jb_123_16 G), (19, jb_123_19 G)]
theorem jms_123 (G : jx_Gv) : ∀ e ∈ jbs_123 G, jx_mo e.2.1 := List.forall_mem_cons.mpr ⟨jm_123_0 G, List.forall_mem_cons.mpr ⟨jm_123_8 G, List.forall_mem_cons.mpr ⟨jm_123_16 G, List.forall_mem_cons.mpr ⟨jm_123_19 G, fun _ h => absurd h List.not_mem_nil⟩⟩⟩⟩
def jb_124_0 (G : jx_Gv) : jx_B := ([jo_aload 0, jo_iload 1, jo_const (.int (2 : Int32))], .inr (.inr (.inr (.inl (121, 3, 6, some 7)))))
theorem jm_124_0 (G : jx_Gv) : jx_mo (jb_124_0 G).1 := ⟨mo_aload _, mo_iload _, mo_const _, trivial⟩
def jb_124_6 (G : jx_Gv) : jx_B := ([jo_const (.int (1024 : Int32))], .inl (jc_ii (fun x y => decide (x = y)), 14, 12))
theorem jm_124_6 (G : jx_Gv) : jx_mo (jb_124_6 G).1 := ⟨mo_const _, trivial⟩
def jb_124_12 (G : jx_Gv) : jx_B := ([jo_const (.int (0 : Int32))], .inr (.inr (.inr (.inr jr_i))))
theorem jm_124_12 (G : jx_Gv) : jx_mo (jb_124_12 G).1 := ⟨mo_const _, trivial⟩
def jb_124_14 (G : jx_Gv) : jx_B := ([jo_aload 0, jo_const (.int (96 : Int32)), jo_aload 0, jo_iload 1], .inr (.inr (.inr (.inl (122, 2, 22, some 7)))))
theorem jm_124_14 (G : jx_Gv) : jx_mo (jb_124_14 G).1 := ⟨mo_aload _, mo_const _, mo_aload _, mo_iload _, trivial⟩
def jb_124_22 (G : jx_Gv) : jx_B := ([jo_aload 0, jo_iload 1, jo_const (.int (2 : Int32))], .inr (.inr (.inr (.inl (123, 3, 28, some 7)))))
theorem jm_124_22 (G : jx_Gv) : jx_mo (jb_124_22 G).1 := ⟨mo_aload _, mo_iload _, mo_const _, trivial⟩
def jb_124_28 (G : jx_Gv) : jx_B := ([], .inr (.inr (.inr (.inl (114, 4, 31, some 7)))))
theorem jm_124_28 (G : jx_Gv) : jx_mo (jb_124_28 G).1 := trivial
def jb_124_31 (G : jx_Gv) : jx_B := ([], .inr (.inr (.inr (.inr jr_i))))
theorem jm_124_31 (G : jx_Gv) : jx_mo (jb_124_31 G).1 := trivial
def jbs_124 (G : jx_Gv) : List (Nat × jx_B) := [(0, jb_124_0 G), (6, jb_124_6 G), (12, jb_124_12 G), (14, jb_124_14 G), (22, jb_124_22 G), (28, jb_124_28 G), (31, jb_124_31 G)]
theorem jms_124 (G : jx_Gv) : ∀ e ∈ jbs_124 G, jx_mo e.2.1 := List.forall_mem_cons.mpr ⟨jm_124_0 G, List.forall_mem_cons.mpr ⟨jm_124_6 G, List.forall_mem_cons.mpr ⟨jm_124_12 G, List.forall_mem_cons.mpr ⟨jm_124_14 G, List.forall_mem_cons.mpr ⟨jm_124_22 G, List.forall_mem_cons.mpr ⟨jm_124_28 G, List.forall_mem_cons.mpr ⟨jm_124_31 G, fun _ h => absurd h List.not_mem_nil⟩⟩⟩⟩⟩⟩⟩
def jb_125_0 (G : jx_Gv) : jx_B := ([jo_iload 1, jo_const (.int (1 : Int32))], .inl (jc_ii (fun x y => decide (x < y)), 13, 5))
theorem jm_125_0 (G : jx_Gv) : jx_mo (jb_125_0 G).1 := ⟨mo_iload _, mo_const _, trivial⟩
def jb_125_5 (G : jx_Gv) : jx_B := ([jo_iload 1, jo_aload 0, jo_getI 7 10], .inl (jc_ii (fun x y => decide (x ≤ y)), 17, 13))
theorem jm_125_5 (G : jx_Gv) : jx_mo (jb_125_5 G).1 := ⟨mo_iload _, mo_aload _, mo_getI _ _, trivial⟩
def jb_125_13 (G : jx_Gv) : jx_B := ([jo_const (.int (0 : Int32))], .inr (.inl 23))
theorem jm_125_13 (G : jx_Gv) : jx_mo (jb_125_13 G).1 := ⟨mo_const _, trivial⟩
def jb_125_17 (G : jx_Gv) : jx_B := ([jo_aload 0, jo_getA 7 8, jo_iload 1, jo_iald 0], .inr (.inl 23))
theorem jm_125_17 (G : jx_Gv) : jx_mo (jb_125_17 G).1 := ⟨mo_aload _, mo_getA _ _, mo_iload _, mo_iald _, trivial⟩
def jb_125_23 (G : jx_Gv) : jx_B := ([], .inr (.inr (.inr (.inr jr_i))))
theorem jm_125_23 (G : jx_Gv) : jx_mo (jb_125_23 G).1 := trivial
def jbs_125 (G : jx_Gv) : List (Nat × jx_B) := [(0, jb_125_0 G), (5, jb_125_5 G), (13, jb_125_13 G), (17, jb_125_17 G), (23, jb_125_23 G)]
theorem jms_125 (G : jx_Gv) : ∀ e ∈ jbs_125 G, jx_mo e.2.1 := List.forall_mem_cons.mpr ⟨jm_125_0 G, List.forall_mem_cons.mpr ⟨jm_125_5 G, List.forall_mem_cons.mpr ⟨jm_125_13 G, List.forall_mem_cons.mpr ⟨jm_125_17 G, List.forall_mem_cons.mpr ⟨jm_125_23 G, fun _ h => absurd h List.not_mem_nil⟩⟩⟩⟩⟩
def jb_126_0 (G : jx_Gv) : jx_B := ([jo_const (.int (0 : Int32)), jo_istore 3, jo_const (.int (0 : Int32)), jo_istore 4], .inr (.inl 5))
theorem jm_126_0 (G : jx_Gv) : jx_mo (jb_126_0 G).1 := ⟨mo_const _, mo_istore _, mo_const _, mo_istore _, trivial⟩
def jb_126_5 (G : jx_Gv) : jx_B := ([jo_iload 4, jo_aload 0, jo_iload 1], .inr (.inr (.inr (.inl (125, 2, 12, some 7)))))
theorem jm_126_5 (G : jx_Gv) : jx_mo (jb_126_5 G).1 := ⟨mo_iload _, mo_aload _, mo_iload _, trivial⟩
def jb_126_12 (G : jx_Gv) : jx_B := ([], .inl (jc_ii (fun x y => decide (y ≤ x)), 35, 15))
theorem jm_126_12 (G : jx_Gv) : jx_mo (jb_126_12 G).1 := trivial
def jb_126_15 (G : jx_Gv) : jx_B := ([jo_aload 0, jo_iload 1, jo_iload 4], .inr (.inr (.inr (.inl (121, 3, 22, some 7)))))
theorem jm_126_15 (G : jx_Gv) : jx_mo (jb_126_15 G).1 := ⟨mo_aload _, mo_iload _, mo_iload _, trivial⟩
def jb_126_22 (G : jx_Gv) : jx_B := ([jo_iload 2], .inl (jc_ii (fun x y => decide (¬ x = y)), 29, 26))
theorem jm_126_22 (G : jx_Gv) : jx_mo (jb_126_22 G).1 := ⟨mo_iload _, trivial⟩
def jb_126_26 (G : jx_Gv) : jx_B := ([jo_iinc 3 (1 : Int32)], .inr (.inl 29))
theorem jm_126_26 (G : jx_Gv) : jx_mo (jb_126_26 G).1 := ⟨mo_iinc _ _, trivial⟩
def jb_126_29 (G : jx_Gv) : jx_B := ([jo_iinc 4 (1 : Int32)], .inr (.inl 5))
theorem jm_126_29 (G : jx_Gv) : jx_mo (jb_126_29 G).1 := ⟨mo_iinc _ _, trivial⟩
def jb_126_35 (G : jx_Gv) : jx_B := ([jo_iload 3], .inr (.inr (.inr (.inr jr_i))))
theorem jm_126_35 (G : jx_Gv) : jx_mo (jb_126_35 G).1 := ⟨mo_iload _, trivial⟩
def jbs_126 (G : jx_Gv) : List (Nat × jx_B) := [(0, jb_126_0 G), (5, jb_126_5 G), (12, jb_126_12 G), (15, jb_126_15 G), (22, jb_126_22 G), (26, jb_126_26 G), (29, jb_126_29 G), (35, jb_126_35 G)]
theorem jms_126 (G : jx_Gv) : ∀ e ∈ jbs_126 G, jx_mo e.2.1 := List.forall_mem_cons.mpr ⟨jm_126_0 G, List.forall_mem_cons.mpr ⟨jm_126_5 G, List.forall_mem_cons.mpr ⟨jm_126_12 G, List.forall_mem_cons.mpr ⟨jm_126_15 G, List.forall_mem_cons.mpr ⟨jm_126_22 G, List.forall_mem_cons.mpr ⟨jm_126_26 G, List.forall_mem_cons.mpr ⟨jm_126_29 G, List.forall_mem_cons.mpr ⟨jm_126_35 G, fun _ h => absurd h List.not_mem_nil⟩⟩⟩⟩⟩⟩⟩⟩
def jb_127_0 (G : jx_Gv) : jx_B := ([jo_aload 0], .inr (.inr (.inr (.inl (106, 1, 4, some 0)))))
theorem jm_127_0 (G : jx_Gv) : jx_mo (jb_127_0 G).1 := ⟨mo_aload _, trivial⟩
def jb_127_4 (G : jx_Gv) : jx_B := ([jo_astore 4, jo_aload 4, jo_iload 1, jo_const (.int (256 : Int32)), jo_iload 2], .inr (.inr (.inr (.inl (112, 4, 16, none)))))
theorem jm_127_4 (G : jx_Gv) : jx_mo (jb_127_4 G).1 := ⟨mo_astore _, mo_aload _, mo_iload _, mo_const _, mo_iload _, trivial⟩
def jb_127_16 (G : jx_Gv) : jx_B := ([jo_istore 5, jo_aload 4], .inl (jc_null, 28, 23))
theorem jm_127_16 (G : jx_Gv) : jx_mo (jb_127_16 G).1 := ⟨mo_istore _, mo_aload _, trivial⟩
def jb_127_23 (G : jx_Gv) : jx_B := ([jo_iload 5], .inl (jc_i (fun x => decide (¬ x = 0)), 30, 28))
theorem jm_127_23 (G : jx_Gv) : jx_mo (jb_127_23 G).1 := ⟨mo_iload _, trivial⟩
def jb_127_28 (G : jx_Gv) : jx_B := ([jo_const (.int (-1 : Int32))], .inr (.inr (.inr (.inr jr_i))))
theorem jm_127_28 (G : jx_Gv) : jx_mo (jb_127_28 G).1 := ⟨mo_const _, trivial⟩
def jb_127_30 (G : jx_Gv) : jx_B := ([jo_iload 3], .inr (.inr (.inl (jx_sw [((0 : Int32), 64), ((1 : Int32), 73), ((2 : Int32), 100), ((3 : Int32), 108), ((4 : Int32), 119)] 130))))
theorem jm_127_30 (G : jx_Gv) : jx_mo (jb_127_30 G).1 := ⟨mo_iload _, trivial⟩
def jb_127_64 (G : jx_Gv) : jx_B := ([jo_aload 4, jo_iload 5, jo_const (.int (1 : Int32))], .inr (.inr (.inr (.inl (64, 3, 72, some 7)))))
theorem jm_127_64 (G : jx_Gv) : jx_mo (jb_127_64 G).1 := ⟨mo_aload _, mo_iload _, mo_const _, trivial⟩
def jb_127_72 (G : jx_Gv) : jx_B := ([], .inr (.inr (.inr (.inr jr_i))))
theorem jm_127_72 (G : jx_Gv) : jx_mo (jb_127_72 G).1 := trivial
def jb_127_73 (G : jx_Gv) : jx_B := ([jo_aload 4, jo_iload 5, jo_const (.int (2 : Int32))], .inr (.inr (.inr (.inl (121, 3, 81, some 7)))))
theorem jm_127_73 (G : jx_Gv) : jx_mo (jb_127_73 G).1 := ⟨mo_aload _, mo_iload _, mo_const _, trivial⟩
def jb_127_81 (G : jx_Gv) : jx_B := ([jo_const (.int (512 : Int32))], .inl (jc_ii (fun x y => decide (¬ x = y)), 98, 87))
theorem jm_127_81 (G : jx_Gv) : jx_mo (jb_127_81 G).1 := ⟨mo_const _, trivial⟩
def jb_127_87 (G : jx_Gv) : jx_B := ([jo_aload 4, jo_iload 5, jo_const (.int (3 : Int32))], .inr (.inr (.inr (.inl (64, 3, 95, some 7)))))
theorem jm_127_87 (G : jx_Gv) : jx_mo (jb_127_87 G).1 := ⟨mo_aload _, mo_iload _, mo_const _, trivial⟩
def jb_127_95 (G : jx_Gv) : jx_B := ([], .inr (.inl 99))
theorem jm_127_95 (G : jx_Gv) : jx_mo (jb_127_95 G).1 := trivial
def jb_127_98 (G : jx_Gv) : jx_B := ([jo_const (.int (0 : Int32))], .inr (.inl 99))
theorem jm_127_98 (G : jx_Gv) : jx_mo (jb_127_98 G).1 := ⟨mo_const _, trivial⟩
def jb_127_99 (G : jx_Gv) : jx_B := ([], .inr (.inr (.inr (.inr jr_i))))
theorem jm_127_99 (G : jx_Gv) : jx_mo (jb_127_99 G).1 := trivial
def jb_127_100 (G : jx_Gv) : jx_B := ([jo_aload 4, jo_iload 5], .inr (.inr (.inr (.inl (124, 2, 107, none)))))
theorem jm_127_100 (G : jx_Gv) : jx_mo (jb_127_100 G).1 := ⟨mo_aload _, mo_iload _, trivial⟩
def jb_127_107 (G : jx_Gv) : jx_B := ([], .inr (.inr (.inr (.inr jr_i))))
theorem jm_127_107 (G : jx_Gv) : jx_mo (jb_127_107 G).1 := trivial
def jb_127_108 (G : jx_Gv) : jx_B := ([jo_aload 4, jo_iload 5, jo_const (.int (2048 : Int32))], .inr (.inr (.inr (.inl (126, 3, 118, some 7)))))
theorem jm_127_108 (G : jx_Gv) : jx_mo (jb_127_108 G).1 := ⟨mo_aload _, mo_iload _, mo_const _, trivial⟩
def jb_127_118 (G : jx_Gv) : jx_B := ([], .inr (.inr (.inr (.inr jr_i))))
theorem jm_127_118 (G : jx_Gv) : jx_mo (jb_127_118 G).1 := trivial
def jb_127_119 (G : jx_Gv) : jx_B := ([jo_aload 4, jo_iload 5, jo_const (.int (4096 : Int32))], .inr (.inr (.inr (.inl (126, 3, 129, some 7)))))
theorem jm_127_119 (G : jx_Gv) : jx_mo (jb_127_119 G).1 := ⟨mo_aload _, mo_iload _, mo_const _, trivial⟩
def jb_127_129 (G : jx_Gv) : jx_B := ([], .inr (.inr (.inr (.inr jr_i))))
theorem jm_127_129 (G : jx_Gv) : jx_mo (jb_127_129 G).1 := trivial
def jb_127_130 (G : jx_Gv) : jx_B := ([jo_const (.int (-2 : Int32))], .inr (.inr (.inr (.inr jr_i))))
theorem jm_127_130 (G : jx_Gv) : jx_mo (jb_127_130 G).1 := ⟨mo_const _, trivial⟩
def jbs_127 (G : jx_Gv) : List (Nat × jx_B) := [(0, jb_127_0 G), (4, jb_127_4 G), (16, jb_127_16 G), (23, jb_127_23 G), (28, jb_127_28 G), (30, jb_127_30 G), (64, jb_127_64 G), (72, jb_127_72 G), (73, jb_127_73 G), (81, jb_127_81 G), (87, jb_127_87 G), (95, jb_127_95 G), (98, jb_127_98 G), (99, jb_127_99 G), (100, jb_127_100 G), (107, jb_127_107 G), (108, jb_127_108 G), (118, jb_127_118 G), (119, jb_127_119 G), (129, jb_127_129 G), (130, jb_127_130 G)]
theorem jms_127 (G : jx_Gv) : ∀ e ∈ jbs_127 G, jx_mo e.2.1 := List.forall_mem_cons.mpr ⟨jm_127_0 G, List.forall_mem_cons.mpr ⟨jm_127_4 G, List.forall_mem_cons.mpr ⟨jm_127_16 G, List.forall_mem_cons.mpr ⟨jm_127_23 G, List.forall_mem_cons.mpr ⟨jm_127_28 G, List.forall_mem_cons.mpr ⟨jm_127_30 G, List.forall_mem_cons.mpr ⟨jm_127_64 G, List.forall_mem_cons.mpr ⟨jm_127_72 G, List.forall_mem_cons.mpr ⟨jm_127_73 G, List.forall_mem_cons.mpr ⟨jm_127_81 G, List.forall_mem_cons.mpr ⟨jm_127_87 G, List.forall_mem_cons.mpr ⟨jm_127_95 G, List.forall_mem_cons.mpr ⟨jm_127_98 G, List.forall_mem_cons.mpr ⟨jm_127_99 G, List.forall_mem_cons.mpr ⟨jm_127_100 G, List.forall_mem_cons.mpr ⟨jm_127_107 G, List.forall_mem_cons.mpr ⟨jm_127_108 G, List.forall_mem_cons.mpr ⟨jm_127_118 G, List.forall_mem_cons.mpr ⟨jm_127_119 G, List.forall_mem_cons.mpr ⟨jm_127_129 G, List.forall_mem_cons.mpr ⟨jm_127_130 G, fun _ h => absurd h List.not_mem_nil⟩⟩⟩⟩⟩⟩⟩⟩⟩⟩⟩⟩⟩⟩⟩⟩⟩⟩⟩⟩⟩
def jb_128_0 (G : jx_Gv) : jx_B := ([jo_iload 1], .inl (jc_i (fun x => decide (0 ≤ x)), 8, 4))
theorem jm_128_0 (G : jx_Gv) : jx_mo (jb_128_0 G).1 := ⟨mo_iload _, trivial⟩
def jb_128_4 (G : jx_Gv) : jx_B := ([jo_const (.int (-1 : Int32))], .inr (.inl 15))
theorem jm_128_4 (G : jx_Gv) : jx_mo (jb_128_4 G).1 := ⟨mo_const _, trivial⟩
def jb_128_8 (G : jx_Gv) : jx_B := ([jo_aload 0, jo_const (.int (4 : Int32)), jo_iload 1, jo_iload 2], .inr (.inr (.inr (.inl (116, 4, 15, some 8)))))
theorem jm_128_8 (G : jx_Gv) : jx_mo (jb_128_8 G).1 := ⟨mo_aload _, mo_const _, mo_iload _, mo_iload _, trivial⟩
def jb_128_15 (G : jx_Gv) : jx_B := ([], .inr (.inr (.inr (.inr jr_i))))
theorem jm_128_15 (G : jx_Gv) : jx_mo (jb_128_15 G).1 := trivial
def jbs_128 (G : jx_Gv) : List (Nat × jx_B) := [(0, jb_128_0 G), (4, jb_128_4 G), (8, jb_128_8 G), (15, jb_128_15 G)]
theorem jms_128 (G : jx_Gv) : ∀ e ∈ jbs_128 G, jx_mo e.2.1 := List.forall_mem_cons.mpr ⟨jm_128_0 G, List.forall_mem_cons.mpr ⟨jm_128_4 G, List.forall_mem_cons.mpr ⟨jm_128_8 G, List.forall_mem_cons.mpr ⟨jm_128_15 G, fun _ h => absurd h List.not_mem_nil⟩⟩⟩⟩
def jb_129_0 (G : jx_Gv) : jx_B := ([jo_const (.int (0 : Int32)), jo_istore 3, jo_const (.int (0 : Int32)), jo_istore 4], .inr (.inl 5))
theorem jm_129_0 (G : jx_Gv) : jx_mo (jb_129_0 G).1 := ⟨mo_const _, mo_istore _, mo_const _, mo_istore _, trivial⟩
def jb_129_5 (G : jx_Gv) : jx_B := ([jo_iload 4, jo_aload 0, jo_getA 8 45, jo_iload 1, jo_iald 0], .inl (jc_ii (fun x y => decide (y ≤ x)), 48, 16))
theorem jm_129_5 (G : jx_Gv) : jx_mo (jb_129_5 G).1 := ⟨mo_iload _, mo_aload _, mo_getA _ _, mo_iload _, mo_iald _, trivial⟩
def jb_129_16 (G : jx_Gv) : jx_B := ([jo_iload 3, jo_aload 0, jo_getA 8 46, jo_aload 0, jo_getA 8 44, jo_iload 1, jo_iald 0, jo_iload 4, jo_ii (· + ·), jo_iald 0, jo_iload 2], .inl (jc_ii (fun x y => decide (¬ x = y)), 39, 35))
theorem jm_129_16 (G : jx_Gv) : jx_mo (jb_129_16 G).1 := ⟨mo_iload _, mo_aload _, mo_getA _ _, mo_aload _, mo_getA _ _, mo_iload _, mo_iald _, mo_iload _, mo_ii _, mo_iald _, mo_iload _, trivial⟩
def jb_129_35 (G : jx_Gv) : jx_B := ([jo_const (.int (1 : Int32))], .inr (.inl 40))
theorem jm_129_35 (G : jx_Gv) : jx_mo (jb_129_35 G).1 := ⟨mo_const _, trivial⟩
def jb_129_39 (G : jx_Gv) : jx_B := ([jo_const (.int (0 : Int32))], .inr (.inl 40))
theorem jm_129_39 (G : jx_Gv) : jx_mo (jb_129_39 G).1 := ⟨mo_const _, trivial⟩
def jb_129_40 (G : jx_Gv) : jx_B := ([jo_ii (· + ·), jo_istore 3, jo_iinc 4 (1 : Int32)], .inr (.inl 5))
theorem jm_129_40 (G : jx_Gv) : jx_mo (jb_129_40 G).1 := ⟨mo_ii _, mo_istore _, mo_iinc _ _, trivial⟩
def jb_129_48 (G : jx_Gv) : jx_B := ([jo_iload 3], .inr (.inr (.inr (.inr jr_i))))
theorem jm_129_48 (G : jx_Gv) : jx_mo (jb_129_48 G).1 := ⟨mo_iload _, trivial⟩
def jbs_129 (G : jx_Gv) : List (Nat × jx_B) := [(0, jb_129_0 G), (5, jb_129_5 G), (16, jb_129_16 G), (35, jb_129_35 G), (39, jb_129_39 G), (40, jb_129_40 G), (48, jb_129_48 G)]
theorem jms_129 (G : jx_Gv) : ∀ e ∈ jbs_129 G, jx_mo e.2.1 := List.forall_mem_cons.mpr ⟨jm_129_0 G, List.forall_mem_cons.mpr ⟨jm_129_5 G, List.forall_mem_cons.mpr ⟨jm_129_16 G, List.forall_mem_cons.mpr ⟨jm_129_35 G, List.forall_mem_cons.mpr ⟨jm_129_39 G, List.forall_mem_cons.mpr ⟨jm_129_40 G, List.forall_mem_cons.mpr ⟨jm_129_48 G, fun _ h => absurd h List.not_mem_nil⟩⟩⟩⟩⟩⟩⟩
def jb_130_0 (G : jx_Gv) : jx_B := ([jo_aload 0, jo_const (.int (3 : Int32)), jo_const (.int (-1 : Int32)), jo_iload 1], .inr (.inr (.inr (.inl (110, 4, 7, some 8)))))
theorem jm_130_0 (G : jx_Gv) : jx_mo (jb_130_0 G).1 := ⟨mo_aload _, mo_const _, mo_const _, mo_iload _, trivial⟩
def jb_130_7 (G : jx_Gv) : jx_B := ([jo_istore 4, jo_iload 4], .inl (jc_i (fun x => decide (0 ≤ x)), 18, 14))
theorem jm_130_7 (G : jx_Gv) : jx_mo (jb_130_7 G).1 := ⟨mo_istore _, mo_iload _, trivial⟩
def jb_130_14 (G : jx_Gv) : jx_B := ([jo_const (.int (-1 : Int32))], .inr (.inl 26))
theorem jm_130_14 (G : jx_Gv) : jx_mo (jb_130_14 G).1 := ⟨mo_const _, trivial⟩
def jb_130_18 (G : jx_Gv) : jx_B := ([jo_aload 0, jo_const (.int (5 : Int32)), jo_iload 4, jo_iload 2], .inr (.inr (.inr (.inl (110, 4, 26, some 8)))))
theorem jm_130_18 (G : jx_Gv) : jx_mo (jb_130_18 G).1 := ⟨mo_aload _, mo_const _, mo_iload _, mo_iload _, trivial⟩
def jb_130_26 (G : jx_Gv) : jx_B := ([jo_istore 5, jo_iload 5], .inl (jc_i (fun x => decide (0 ≤ x)), 35, 33))
theorem jm_130_26 (G : jx_Gv) : jx_mo (jb_130_26 G).1 := ⟨mo_istore _, mo_iload _, trivial⟩
def jb_130_33 (G : jx_Gv) : jx_B := ([jo_const (.int (-1 : Int32))], .inr (.inr (.inr (.inr jr_i))))
theorem jm_130_33 (G : jx_Gv) : jx_mo (jb_130_33 G).1 := ⟨mo_const _, trivial⟩
def jb_130_35 (G : jx_Gv) : jx_B := ([jo_iload 3], .inr (.inr (.inl (jx_sw [((0 : Int32), 72), ((1 : Int32), 80), ((2 : Int32), 103), ((3 : Int32), 142), ((4 : Int32), 150)] 158))))
theorem jm_130_35 (G : jx_Gv) : jx_mo (jb_130_35 G).1 := ⟨mo_iload _, trivial⟩
def jb_130_72 (G : jx_Gv) : jx_B := ([jo_aload 0, jo_getA 8 36, jo_iload 5, jo_iald 0], .inr (.inr (.inr (.inr jr_i))))
theorem jm_130_72 (G : jx_Gv) : jx_mo (jb_130_72 G).1 := ⟨mo_aload _, mo_getA _ _, mo_iload _, mo_iald _, trivial⟩
def jb_130_80 (G : jx_Gv) : jx_B := ([jo_aload 0, jo_getA 8 43, jo_iload 5, jo_iald 0, jo_const (.int (1 : Int32))], .inl (jc_ii (fun x y => decide (¬ x = y)), 101, 91))
theorem jm_130_80 (G : jx_Gv) : jx_mo (jb_130_80 G).1 := ⟨mo_aload _, mo_getA _ _, mo_iload _, mo_iald _, mo_const _, trivial⟩
def jb_130_91 (G : jx_Gv) : jx_B := ([jo_aload 0, jo_getA 8 41, jo_iload 5, jo_iald 0], .inr (.inl 102))
theorem jm_130_91 (G : jx_Gv) : jx_mo (jb_130_91 G).1 := ⟨mo_aload _, mo_getA _ _, mo_iload _, mo_iald _, trivial⟩
def jb_130_101 (G : jx_Gv) : jx_B := ([jo_const (.int (0 : Int32))], .inr (.inl 102))
theorem jm_130_101 (G : jx_Gv) : jx_mo (jb_130_101 G).1 := ⟨mo_const _, trivial⟩
def jb_130_102 (G : jx_Gv) : jx_B := ([], .inr (.inr (.inr (.inr jr_i))))
theorem jm_130_102 (G : jx_Gv) : jx_mo (jb_130_102 G).1 := trivial
def jb_130_103 (G : jx_Gv) : jx_B := ([jo_aload 0, jo_getA 8 43, jo_iload 5, jo_iald 0, jo_const (.int (2 : Int32))], .inl (jc_ii (fun x y => decide (¬ x = y)), 140, 114))
theorem jm_130_103 (G : jx_Gv) : jx_mo (jb_130_103 G).1 := ⟨mo_aload _, mo_getA _ _, mo_iload _, mo_iald _, mo_const _, trivial⟩
def jb_130_114 (G : jx_Gv) : jx_B := ([jo_aload 0, jo_const (.int (4 : Int32)), jo_aload 0, jo_iload 4, jo_aload 0, jo_getA 8 47, jo_aload 0, jo_getA 8 44, jo_iload 5, jo_iald 0, jo_iald 0], .inr (.inr (.inr (.inl (128, 3, 134, some 8)))))
theorem jm_130_114 (G : jx_Gv) : jx_mo (jb_130_114 G).1 := ⟨mo_aload _, mo_const _, mo_aload _, mo_iload _, mo_aload _, mo_getA _ _, mo_aload _, mo_getA _ _, mo_iload _, mo_iald _, mo_iald _, trivial⟩
def jb_130_134 (G : jx_Gv) : jx_B := ([], .inr (.inr (.inr (.inl (118, 3, 137, some 8)))))
theorem jm_130_134 (G : jx_Gv) : jx_mo (jb_130_134 G).1 := trivial
def jb_130_137 (G : jx_Gv) : jx_B := ([], .inr (.inl 141))
theorem jm_130_137 (G : jx_Gv) : jx_mo (jb_130_137 G).1 := trivial
def jb_130_140 (G : jx_Gv) : jx_B := ([jo_const (.int (0 : Int32))], .inr (.inl 141))
theorem jm_130_140 (G : jx_Gv) : jx_mo (jb_130_140 G).1 := ⟨mo_const _, trivial⟩
def jb_130_141 (G : jx_Gv) : jx_B := ([], .inr (.inr (.inr (.inr jr_i))))
theorem jm_130_141 (G : jx_Gv) : jx_mo (jb_130_141 G).1 := trivial
def jb_130_142 (G : jx_Gv) : jx_B := ([jo_aload 0, jo_iload 5, jo_const (.int (1 : Int32))], .inr (.inr (.inr (.inl (129, 3, 149, some 8)))))
theorem jm_130_142 (G : jx_Gv) : jx_mo (jb_130_142 G).1 := ⟨mo_aload _, mo_iload _, mo_const _, trivial⟩
def jb_130_149 (G : jx_Gv) : jx_B := ([], .inr (.inr (.inr (.inr jr_i))))
theorem jm_130_149 (G : jx_Gv) : jx_mo (jb_130_149 G).1 := trivial
def jb_130_150 (G : jx_Gv) : jx_B := ([jo_aload 0, jo_iload 5, jo_const (.int (2 : Int32))], .inr (.inr (.inr (.inl (129, 3, 157, some 8)))))
theorem jm_130_150 (G : jx_Gv) : jx_mo (jb_130_150 G).1 := ⟨mo_aload _, mo_iload _, mo_const _, trivial⟩
def jb_130_157 (G : jx_Gv) : jx_B := ([], .inr (.inr (.inr (.inr jr_i))))
theorem jm_130_157 (G : jx_Gv) : jx_mo (jb_130_157 G).1 := trivial
def jb_130_158 (G : jx_Gv) : jx_B := ([jo_const (.int (-2 : Int32))], .inr (.inr (.inr (.inr jr_i))))
theorem jm_130_158 (G : jx_Gv) : jx_mo (jb_130_158 G).1 := ⟨mo_const _, trivial⟩
def jbs_130 (G : jx_Gv) : List (Nat × jx_B) := [(0, jb_130_0 G), (7, jb_130_7 G), (14, jb_130_14 G), (18, jb_130_18 G), (26, jb_130_26 G), (33, jb_130_33 G), (35, jb_130_35 G), (72, jb_130_72 G), (80, jb_130_80 G), (91, jb_130_91 G), (101, jb_130_101 G), (102, jb_130_102 G), (103, jb_130_103 G), (114, jb_130_114 G), (134, jb_130_134 G), (137, jb_130_137 G), (140, jb_130_140 G), (141, jb_130_141 G), (142, jb_130_142 G), (149, jb_130_149 G), (150, jb_130_150 G), (157, jb_130_157 G), (158, jb_130_158 G)]
theorem jms_130 (G : jx_Gv) : ∀ e ∈ jbs_130 G, jx_mo e.2.1 := List.forall_mem_cons.mpr ⟨jm_130_0 G, List.forall_mem_cons.mpr ⟨jm_130_7 G, List.forall_mem_cons.mpr ⟨jm_130_14 G, List.forall_mem_cons.mpr ⟨jm_130_18 G, List.forall_mem_cons.mpr ⟨jm_130_26 G, List.forall_mem_cons.mpr ⟨jm_130_33 G, List.forall_mem_cons.mpr ⟨jm_130_35 G, List.forall_mem_cons.mpr ⟨jm_130_72 G, List.forall_mem_cons.mpr ⟨jm_130_80 G, List.forall_mem_cons.mpr ⟨jm_130_91 G, List.forall_mem_cons.mpr ⟨jm_130_101 G, List.forall_mem_cons.mpr ⟨jm_130_102 G, List.forall_mem_cons.mpr ⟨jm_130_103 G, List.forall_mem_cons.mpr ⟨jm_130_114 G, List.forall_mem_cons.mpr ⟨jm_130_134 G, List.forall_mem_cons.mpr ⟨jm_130_137 G, List.forall_mem_cons.mpr ⟨jm_130_140 G, List.forall_mem_cons.mpr ⟨jm_130_141 G, List.forall_mem_cons.mpr ⟨jm_130_142 G, List.forall_mem_cons.mpr ⟨jm_130_149 G, List.forall_mem_cons.mpr ⟨jm_130_150 G, List.forall_mem_cons.mpr ⟨jm_130_157 G, List.forall_mem_cons.mpr ⟨jm_130_158 G, fun _ h => absurd h List.not_mem_nil⟩⟩⟩⟩⟩⟩⟩⟩⟩⟩⟩⟩⟩⟩⟩⟩⟩⟩⟩⟩⟩⟩⟩
def jb_131_0 (G : jx_Gv) : jx_B := ([jo_aload 0, jo_const (.int (65536 : Int32)), jo_aload 0, jo_iload 1], .inr (.inr (.inr (.inl (122, 2, 8, some 7)))))
theorem jm_131_0 (G : jx_Gv) : jx_mo (jb_131_0 G).1 := ⟨mo_aload _, mo_const _, mo_aload _, mo_iload _, trivial⟩
def jb_131_8 (G : jx_Gv) : jx_B := ([jo_aload 0, jo_iload 1, jo_iload 2], .inr (.inr (.inr (.inl (64, 3, 14, some 7)))))
theorem jm_131_8 (G : jx_Gv) : jx_mo (jb_131_8 G).1 := ⟨mo_aload _, mo_iload _, mo_iload _, trivial⟩
def jb_131_14 (G : jx_Gv) : jx_B := ([], .inr (.inr (.inr (.inl (66, 4, 17, some 7)))))
theorem jm_131_14 (G : jx_Gv) : jx_mo (jb_131_14 G).1 := trivial
def jb_131_17 (G : jx_Gv) : jx_B := ([], .inr (.inr (.inr (.inr jr_i))))
theorem jm_131_17 (G : jx_Gv) : jx_mo (jb_131_17 G).1 := trivial
def jbs_131 (G : jx_Gv) : List (Nat × jx_B) := [(0, jb_131_0 G), (8, jb_131_8 G), (14, jb_131_14 G), (17, jb_131_17 G)]
theorem jms_131 (G : jx_Gv) : ∀ e ∈ jbs_131 G, jx_mo e.2.1 := List.forall_mem_cons.mpr ⟨jm_131_0 G, List.forall_mem_cons.mpr ⟨jm_131_8 G, List.forall_mem_cons.mpr ⟨jm_131_14 G, List.forall_mem_cons.mpr ⟨jm_131_17 G, fun _ h => absurd h List.not_mem_nil⟩⟩⟩⟩
def jb_132_0 (G : jx_Gv) : jx_B := ([jo_aload 0, jo_const (.int (65536 : Int32)), jo_aload 0, jo_iload 1], .inr (.inr (.inr (.inl (122, 2, 8, some 7)))))
theorem jm_132_0 (G : jx_Gv) : jx_mo (jb_132_0 G).1 := ⟨mo_aload _, mo_const _, mo_aload _, mo_iload _, trivial⟩
def jb_132_8 (G : jx_Gv) : jx_B := ([jo_aload 0, jo_iload 1, jo_iload 2], .inr (.inr (.inr (.inl (131, 3, 14, some 7)))))
theorem jm_132_8 (G : jx_Gv) : jx_mo (jb_132_8 G).1 := ⟨mo_aload _, mo_iload _, mo_iload _, trivial⟩
def jb_132_14 (G : jx_Gv) : jx_B := ([], .inr (.inr (.inr (.inl (114, 4, 17, some 7)))))
theorem jm_132_14 (G : jx_Gv) : jx_mo (jb_132_14 G).1 := trivial
def jb_132_17 (G : jx_Gv) : jx_B := ([], .inr (.inr (.inr (.inr jr_i))))
theorem jm_132_17 (G : jx_Gv) : jx_mo (jb_132_17 G).1 := trivial
def jbs_132 (G : jx_Gv) : List (Nat × jx_B) := [(0, jb_132_0 G), (8, jb_132_8 G), (14, jb_132_14 G), (17, jb_132_17 G)]
theorem jms_132 (G : jx_Gv) : ∀ e ∈ jbs_132 G, jx_mo e.2.1 := List.forall_mem_cons.mpr ⟨jm_132_0 G, List.forall_mem_cons.mpr ⟨jm_132_8 G, List.forall_mem_cons.mpr ⟨jm_132_14 G, List.forall_mem_cons.mpr ⟨jm_132_17 G, fun _ h => absurd h List.not_mem_nil⟩⟩⟩⟩
def jb_133_0 (G : jx_Gv) : jx_B := ([jo_aload 0, jo_const (.int (96 : Int32)), jo_aload 0, jo_iload 3], .inr (.inr (.inr (.inl (113, 2, 8, some 7)))))
theorem jm_133_0 (G : jx_Gv) : jx_mo (jb_133_0 G).1 := ⟨mo_aload _, mo_const _, mo_aload _, mo_iload _, trivial⟩
def jb_133_8 (G : jx_Gv) : jx_B := ([jo_aload 0, jo_iload 1, jo_iload 2, jo_const (.int (2 : Int32)), jo_ii (· + ·)], .inr (.inr (.inr (.inl (64, 3, 16, some 7)))))
theorem jm_133_8 (G : jx_Gv) : jx_mo (jb_133_8 G).1 := ⟨mo_aload _, mo_iload _, mo_iload _, mo_const _, mo_ii _, trivial⟩
def jb_133_16 (G : jx_Gv) : jx_B := ([], .inr (.inr (.inr (.inl (66, 4, 19, some 7)))))
theorem jm_133_16 (G : jx_Gv) : jx_mo (jb_133_16 G).1 := trivial
def jb_133_19 (G : jx_Gv) : jx_B := ([], .inr (.inr (.inr (.inr jr_i))))
theorem jm_133_19 (G : jx_Gv) : jx_mo (jb_133_19 G).1 := trivial
def jbs_133 (G : jx_Gv) : List (Nat × jx_B) := [(0, jb_133_0 G), (8, jb_133_8 G), (16, jb_133_16 G), (19, jb_133_19 G)]
theorem jms_133 (G : jx_Gv) : ∀ e ∈ jbs_133 G, jx_mo e.2.1 := List.forall_mem_cons.mpr ⟨jm_133_0 G, List.forall_mem_cons.mpr ⟨jm_133_8 G, List.forall_mem_cons.mpr ⟨jm_133_16 G, List.forall_mem_cons.mpr ⟨jm_133_19 G, fun _ h => absurd h List.not_mem_nil⟩⟩⟩⟩
def jb_134_0 (G : jx_Gv) : jx_B := ([jo_aload 0, jo_iload 1, jo_iload 2, jo_aload 0, jo_iload 1, jo_iload 2], .inr (.inr (.inr (.inl (131, 3, 9, some 7)))))
theorem jm_134_0 (G : jx_Gv) : jx_mo (jb_134_0 G).1 := ⟨mo_aload _, mo_iload _, mo_iload _, mo_aload _, mo_iload _, mo_iload _, trivial⟩
def jb_134_9 (G : jx_Gv) : jx_B := ([], .inr (.inr (.inr (.inl (133, 4, 12, some 7)))))
theorem jm_134_9 (G : jx_Gv) : jx_mo (jb_134_9 G).1 := trivial
def jb_134_12 (G : jx_Gv) : jx_B := ([jo_istore 3, jo_aload 0, jo_const (.int (96 : Int32)), jo_aload 0, jo_iload 3], .inr (.inr (.inr (.inl (122, 2, 21, some 7)))))
theorem jm_134_12 (G : jx_Gv) : jx_mo (jb_134_12 G).1 := ⟨mo_istore _, mo_aload _, mo_const _, mo_aload _, mo_iload _, trivial⟩
def jb_134_21 (G : jx_Gv) : jx_B := ([jo_iload 3], .inr (.inr (.inr (.inl (114, 4, 25, some 7)))))
theorem jm_134_21 (G : jx_Gv) : jx_mo (jb_134_21 G).1 := ⟨mo_iload _, trivial⟩
def jb_134_25 (G : jx_Gv) : jx_B := ([], .inr (.inr (.inr (.inr jr_i))))
theorem jm_134_25 (G : jx_Gv) : jx_mo (jb_134_25 G).1 := trivial
def jbs_134 (G : jx_Gv) : List (Nat × jx_B) := [(0, jb_134_0 G), (9, jb_134_9 G), (12, jb_134_12 G), (21, jb_134_21 G), (25, jb_134_25 G)]
theorem jms_134 (G : jx_Gv) : ∀ e ∈ jbs_134 G, jx_mo e.2.1 := List.forall_mem_cons.mpr ⟨jm_134_0 G, List.forall_mem_cons.mpr ⟨jm_134_9 G, List.forall_mem_cons.mpr ⟨jm_134_12 G, List.forall_mem_cons.mpr ⟨jm_134_21 G, List.forall_mem_cons.mpr ⟨jm_134_25 G, fun _ h => absurd h List.not_mem_nil⟩⟩⟩⟩⟩
def jb_135_0 (G : jx_Gv) : jx_B := ([jo_aload 0], .inr (.inr (.inr (.inl (106, 1, 4, some 0)))))
theorem jm_135_0 (G : jx_Gv) : jx_mo (jb_135_0 G).1 := ⟨mo_aload _, trivial⟩
def jb_135_4 (G : jx_Gv) : jx_B := ([jo_astore 3, jo_aload 3], .inl (jc_nonn, 13, 9))
theorem jm_135_4 (G : jx_Gv) : jx_mo (jb_135_4 G).1 := ⟨mo_astore _, mo_aload _, trivial⟩
def jb_135_9 (G : jx_Gv) : jx_B := ([jo_const (.int (0 : Int32))], .inr (.inl 22))
theorem jm_135_9 (G : jx_Gv) : jx_mo (jb_135_9 G).1 := ⟨mo_const _, trivial⟩
def jb_135_13 (G : jx_Gv) : jx_B := ([jo_aload 3, jo_const (.int (16384 : Int32)), jo_const (.int (-1 : Int32)), jo_iload 1], .inr (.inr (.inr (.inl (107, 4, 22, some 7)))))
theorem jm_135_13 (G : jx_Gv) : jx_mo (jb_135_13 G).1 := ⟨mo_aload _, mo_const _, mo_const _, mo_iload _, trivial⟩
def jb_135_22 (G : jx_Gv) : jx_B := ([jo_istore 4, jo_aload 3], .inl (jc_null, 33, 28))
theorem jm_135_22 (G : jx_Gv) : jx_mo (jb_135_22 G).1 := ⟨mo_istore _, mo_aload _, trivial⟩
def jb_135_28 (G : jx_Gv) : jx_B := ([jo_iload 4], .inl (jc_i (fun x => decide (¬ x = 0)), 35, 33))
theorem jm_135_28 (G : jx_Gv) : jx_mo (jb_135_28 G).1 := ⟨mo_iload _, trivial⟩
def jb_135_33 (G : jx_Gv) : jx_B := ([jo_const (.int (-1 : Int32))], .inr (.inr (.inr (.inr jr_i))))
theorem jm_135_33 (G : jx_Gv) : jx_mo (jb_135_33 G).1 := ⟨mo_const _, trivial⟩
def jb_135_35 (G : jx_Gv) : jx_B := ([jo_iload 2], .inr (.inr (.inl (jx_sw [((0 : Int32), 72), ((1 : Int32), 87), ((2 : Int32), 95), ((3 : Int32), 103), ((4 : Int32), 111)] 119))))
theorem jm_135_35 (G : jx_Gv) : jx_mo (jb_135_35 G).1 := ⟨mo_iload _, trivial⟩
def jb_135_72 (G : jx_Gv) : jx_B := ([jo_aload 3, jo_const (.int (8208 : Int32)), jo_const (.int (0 : Int32)), jo_aload 3, jo_iload 4], .inr (.inr (.inr (.inl (122, 2, 83, some 7)))))
theorem jm_135_72 (G : jx_Gv) : jx_mo (jb_135_72 G).1 := ⟨mo_aload _, mo_const _, mo_const _, mo_aload _, mo_iload _, trivial⟩
def jb_135_83 (G : jx_Gv) : jx_B := ([], .inr (.inr (.inr (.inl (114, 4, 86, some 7)))))
theorem jm_135_83 (G : jx_Gv) : jx_mo (jb_135_83 G).1 := trivial
def jb_135_86 (G : jx_Gv) : jx_B := ([], .inr (.inr (.inr (.inr jr_i))))
theorem jm_135_86 (G : jx_Gv) : jx_mo (jb_135_86 G).1 := trivial
def jb_135_87 (G : jx_Gv) : jx_B := ([jo_aload 3, jo_iload 4, jo_const (.int (1 : Int32))], .inr (.inr (.inr (.inl (132, 3, 94, none)))))
theorem jm_135_87 (G : jx_Gv) : jx_mo (jb_135_87 G).1 := ⟨mo_aload _, mo_iload _, mo_const _, trivial⟩
def jb_135_94 (G : jx_Gv) : jx_B := ([], .inr (.inr (.inr (.inr jr_i))))
theorem jm_135_94 (G : jx_Gv) : jx_mo (jb_135_94 G).1 := trivial
def jb_135_95 (G : jx_Gv) : jx_B := ([jo_aload 3, jo_iload 4, jo_const (.int (1 : Int32))], .inr (.inr (.inr (.inl (134, 3, 102, none)))))
theorem jm_135_95 (G : jx_Gv) : jx_mo (jb_135_95 G).1 := ⟨mo_aload _, mo_iload _, mo_const _, trivial⟩
def jb_135_102 (G : jx_Gv) : jx_B := ([], .inr (.inr (.inr (.inr jr_i))))
theorem jm_135_102 (G : jx_Gv) : jx_mo (jb_135_102 G).1 := trivial
def jb_135_103 (G : jx_Gv) : jx_B := ([jo_aload 3, jo_iload 4, jo_const (.int (5 : Int32))], .inr (.inr (.inr (.inl (132, 3, 110, none)))))
theorem jm_135_103 (G : jx_Gv) : jx_mo (jb_135_103 G).1 := ⟨mo_aload _, mo_iload _, mo_const _, trivial⟩
def jb_135_110 (G : jx_Gv) : jx_B := ([], .inr (.inr (.inr (.inr jr_i))))
theorem jm_135_110 (G : jx_Gv) : jx_mo (jb_135_110 G).1 := trivial
def jb_135_111 (G : jx_Gv) : jx_B := ([jo_aload 3, jo_iload 4, jo_const (.int (5 : Int32))], .inr (.inr (.inr (.inl (134, 3, 118, none)))))
theorem jm_135_111 (G : jx_Gv) : jx_mo (jb_135_111 G).1 := ⟨mo_aload _, mo_iload _, mo_const _, trivial⟩
def jb_135_118 (G : jx_Gv) : jx_B := ([], .inr (.inr (.inr (.inr jr_i))))
theorem jm_135_118 (G : jx_Gv) : jx_mo (jb_135_118 G).1 := trivial
def jb_135_119 (G : jx_Gv) : jx_B := ([jo_const (.int (-2 : Int32))], .inr (.inr (.inr (.inr jr_i))))
theorem jm_135_119 (G : jx_Gv) : jx_mo (jb_135_119 G).1 := ⟨mo_const _, trivial⟩
def jbs_135 (G : jx_Gv) : List (Nat × jx_B) := [(0, jb_135_0 G), (4, jb_135_4 G), (9, jb_135_9 G), (13, jb_135_13 G), (22, jb_135_22 G), (28, jb_135_28 G), (33, jb_135_33 G), (35, jb_135_35 G), (72, jb_135_72 G), (83, jb_135_83 G), (86, jb_135_86 G), (87, jb_135_87 G), (94, jb_135_94 G), (95, jb_135_95 G), (102, jb_135_102 G), (103, jb_135_103 G), (110, jb_135_110 G), (111, jb_135_111 G), (118, jb_135_118 G), (119, jb_135_119 G)]
theorem jms_135 (G : jx_Gv) : ∀ e ∈ jbs_135 G, jx_mo e.2.1 := List.forall_mem_cons.mpr ⟨jm_135_0 G, List.forall_mem_cons.mpr ⟨jm_135_4 G, List.forall_mem_cons.mpr ⟨jm_135_9 G, List.forall_mem_cons.mpr ⟨jm_135_13 G, List.forall_mem_cons.mpr ⟨jm_135_22 G, List.forall_mem_cons.mpr ⟨jm_135_28 G, List.forall_mem_cons.mpr ⟨jm_135_33 G, List.forall_mem_cons.mpr ⟨jm_135_35 G, List.forall_mem_cons.mpr ⟨jm_135_72 G, List.forall_mem_cons.mpr ⟨jm_135_83 G, List.forall_mem_cons.mpr ⟨jm_135_86 G, List.forall_mem_cons.mpr ⟨jm_135_87 G, List.forall_mem_cons.mpr ⟨jm_135_94 G, List.forall_mem_cons.mpr ⟨jm_135_95 G, List.forall_mem_cons.mpr ⟨jm_135_102 G, List.forall_mem_cons.mpr ⟨jm_135_103 G, List.forall_mem_cons.mpr ⟨jm_135_110 G, List.forall_mem_cons.mpr ⟨jm_135_111 G, List.forall_mem_cons.mpr ⟨jm_135_118 G, List.forall_mem_cons.mpr ⟨jm_135_119 G, fun _ h => absurd h List.not_mem_nil⟩⟩⟩⟩⟩⟩⟩⟩⟩⟩⟩⟩⟩⟩⟩⟩⟩⟩⟩⟩
def jb_136_0 (G : jx_Gv) : jx_B := ([jo_iload 1], .inl (jc_i (fun x => decide (0 ≤ x)), 8, 4))
theorem jm_136_0 (G : jx_Gv) : jx_mo (jb_136_0 G).1 := ⟨mo_iload _, trivial⟩
def jb_136_4 (G : jx_Gv) : jx_B := ([jo_const (.int (-1 : Int32))], .inr (.inl 20))
theorem jm_136_4 (G : jx_Gv) : jx_mo (jb_136_4 G).1 := ⟨mo_const _, trivial⟩
def jb_136_8 (G : jx_Gv) : jx_B := ([jo_aload 0, jo_const (.int (3 : Int32)), jo_const (.int (-1 : Int32)), jo_aload 0, jo_getA 8 37, jo_iload 1, jo_iald 0], .inr (.inr (.inr (.inl (116, 4, 20, some 8)))))
theorem jm_136_8 (G : jx_Gv) : jx_mo (jb_136_8 G).1 := ⟨mo_aload _, mo_const _, mo_const _, mo_aload _, mo_getA _ _, mo_iload _, mo_iald _, trivial⟩
def jb_136_20 (G : jx_Gv) : jx_B := ([], .inr (.inr (.inr (.inr jr_i))))
theorem jm_136_20 (G : jx_Gv) : jx_mo (jb_136_20 G).1 := trivial
def jbs_136 (G : jx_Gv) : List (Nat × jx_B) := [(0, jb_136_0 G), (4, jb_136_4 G), (8, jb_136_8 G), (20, jb_136_20 G)]
theorem jms_136 (G : jx_Gv) : ∀ e ∈ jbs_136 G, jx_mo e.2.1 := List.forall_mem_cons.mpr ⟨jm_136_0 G, List.forall_mem_cons.mpr ⟨jm_136_4 G, List.forall_mem_cons.mpr ⟨jm_136_8 G, List.forall_mem_cons.mpr ⟨jm_136_20 G, fun _ h => absurd h List.not_mem_nil⟩⟩⟩⟩
def jb_137_0 (G : jx_Gv) : jx_B := ([jo_aload 0, jo_const (.int (8 : Int32)), jo_const (.int (-1 : Int32)), jo_iload 1], .inr (.inr (.inr (.inl (110, 4, 8, some 8)))))
theorem jm_137_0 (G : jx_Gv) : jx_mo (jb_137_0 G).1 := ⟨mo_aload _, mo_const _, mo_const _, mo_iload _, trivial⟩
def jb_137_8 (G : jx_Gv) : jx_B := ([jo_istore 3, jo_iload 3], .inl (jc_i (fun x => decide (0 ≤ x)), 15, 13))
theorem jm_137_8 (G : jx_Gv) : jx_mo (jb_137_8 G).1 := ⟨mo_istore _, mo_iload _, trivial⟩
def jb_137_13 (G : jx_Gv) : jx_B := ([jo_const (.int (-1 : Int32))], .inr (.inr (.inr (.inr jr_i))))
theorem jm_137_13 (G : jx_Gv) : jx_mo (jb_137_13 G).1 := ⟨mo_const _, trivial⟩
def jb_137_15 (G : jx_Gv) : jx_B := ([jo_aload 0, jo_const (.int (7 : Int32)), jo_aload 0, jo_getA 8 35, jo_iload 3, jo_iald 0, jo_aload 0, jo_getA 8 37, jo_iload 3, jo_iald 0], .inr (.inr (.inr (.inl (116, 4, 33, some 8)))))
theorem jm_137_15 (G : jx_Gv) : jx_mo (jb_137_15 G).1 := ⟨mo_aload _, mo_const _, mo_aload _, mo_getA _ _, mo_iload _, mo_iald _, mo_aload _, mo_getA _ _, mo_iload _, mo_iald _, trivial⟩
def jb_137_33 (G : jx_Gv) : jx_B := ([jo_istore 4, jo_aload 0, jo_const (.int (7 : Int32)), jo_aload 0, jo_getA 8 35, jo_iload 3, jo_iald 0, jo_aload 0, jo_getA 8 39, jo_iload 3, jo_iald 0], .inr (.inr (.inr (.inl (116, 4, 53, some 8)))))
theorem jm_137_33 (G : jx_Gv) : jx_mo (jb_137_33 G).1 := ⟨mo_istore _, mo_aload _, mo_const _, mo_aload _, mo_getA _ _, mo_iload _, mo_iald _, mo_aload _, mo_getA _ _, mo_iload _, mo_iald _, trivial⟩
def jb_137_53 (G : jx_Gv) : jx_B := ([jo_istore 5, jo_iload 2], .inr (.inr (.inl (jx_sw [((0 : Int32), 92), ((1 : Int32), 104), ((2 : Int32), 113), ((3 : Int32), 135), ((4 : Int32), 144)] 166))))
theorem jm_137_53 (G : jx_Gv) : jx_mo (jb_137_53 G).1 := ⟨mo_istore _, mo_iload _, trivial⟩
def jb_137_92 (G : jx_Gv) : jx_B := ([jo_aload 0, jo_const (.int (3 : Int32)), jo_aload 0, jo_getA 8 35, jo_iload 3, jo_iald 0], .inr (.inr (.inr (.inl (118, 3, 103, some 8)))))
theorem jm_137_92 (G : jx_Gv) : jx_mo (jb_137_92 G).1 := ⟨mo_aload _, mo_const _, mo_aload _, mo_getA _ _, mo_iload _, mo_iald _, trivial⟩
def jb_137_103 (G : jx_Gv) : jx_B := ([], .inr (.inr (.inr (.inr jr_i))))
theorem jm_137_103 (G : jx_Gv) : jx_mo (jb_137_103 G).1 := trivial
def jb_137_104 (G : jx_Gv) : jx_B := ([jo_aload 0, jo_const (.int (7 : Int32)), jo_iload 4], .inr (.inr (.inr (.inl (118, 3, 112, some 8)))))
theorem jm_137_104 (G : jx_Gv) : jx_mo (jb_137_104 G).1 := ⟨mo_aload _, mo_const _, mo_iload _, trivial⟩
def jb_137_112 (G : jx_Gv) : jx_B := ([], .inr (.inr (.inr (.inr jr_i))))
theorem jm_137_112 (G : jx_Gv) : jx_mo (jb_137_112 G).1 := trivial
def jb_137_113 (G : jx_Gv) : jx_B := ([jo_aload 0, jo_const (.int (4 : Int32)), jo_aload 0, jo_aload 0, jo_iload 4], .inr (.inr (.inr (.inl (136, 2, 122, some 8)))))
theorem jm_137_113 (G : jx_Gv) : jx_mo (jb_137_113 G).1 := ⟨mo_aload _, mo_const _, mo_aload _, mo_aload _, mo_iload _, trivial⟩
def jb_137_122 (G : jx_Gv) : jx_B := ([jo_aload 0, jo_getA 8 38, jo_iload 3, jo_iald 0], .inr (.inr (.inr (.inl (128, 3, 131, some 8)))))
theorem jm_137_122 (G : jx_Gv) : jx_mo (jb_137_122 G).1 := ⟨mo_aload _, mo_getA _ _, mo_iload _, mo_iald _, trivial⟩
def jb_137_131 (G : jx_Gv) : jx_B := ([], .inr (.inr (.inr (.inl (118, 3, 134, some 8)))))
theorem jm_137_131 (G : jx_Gv) : jx_mo (jb_137_131 G).1 := trivial
def jb_137_134 (G : jx_Gv) : jx_B := ([], .inr (.inr (.inr (.inr jr_i))))
theorem jm_137_134 (G : jx_Gv) : jx_mo (jb_137_134 G).1 := trivial
def jb_137_135 (G : jx_Gv) : jx_B := ([jo_aload 0, jo_const (.int (7 : Int32)), jo_iload 5], .inr (.inr (.inr (.inl (118, 3, 143, some 8)))))
theorem jm_137_135 (G : jx_Gv) : jx_mo (jb_137_135 G).1 := ⟨mo_aload _, mo_const _, mo_iload _, trivial⟩
def jb_137_143 (G : jx_Gv) : jx_B := ([], .inr (.inr (.inr (.inr jr_i))))
theorem jm_137_143 (G : jx_Gv) : jx_mo (jb_137_143 G).1 := trivial
def jb_137_144 (G : jx_Gv) : jx_B := ([jo_aload 0, jo_const (.int (4 : Int32)), jo_aload 0, jo_aload 0, jo_iload 5], .inr (.inr (.inr (.inl (136, 2, 153, some 8)))))
theorem jm_137_144 (G : jx_Gv) : jx_mo (jb_137_144 G).1 := ⟨mo_aload _, mo_const _, mo_aload _, mo_aload _, mo_iload _, trivial⟩
def jb_137_153 (G : jx_Gv) : jx_B := ([jo_aload 0, jo_getA 8 40, jo_iload 3, jo_iald 0], .inr (.inr (.inr (.inl (128, 3, 162, some 8)))))
theorem jm_137_153 (G : jx_Gv) : jx_mo (jb_137_153 G).1 := ⟨mo_aload _, mo_getA _ _, mo_iload _, mo_iald _, trivial⟩
def jb_137_162 (G : jx_Gv) : jx_B := ([], .inr (.inr (.inr (.inl (118, 3, 165, some 8)))))
theorem jm_137_162 (G : jx_Gv) : jx_mo (jb_137_162 G).1 := trivial
def jb_137_165 (G : jx_Gv) : jx_B := ([], .inr (.inr (.inr (.inr jr_i))))
theorem jm_137_165 (G : jx_Gv) : jx_mo (jb_137_165 G).1 := trivial
def jb_137_166 (G : jx_Gv) : jx_B := ([jo_const (.int (-2 : Int32))], .inr (.inr (.inr (.inr jr_i))))
theorem jm_137_166 (G : jx_Gv) : jx_mo (jb_137_166 G).1 := ⟨mo_const _, trivial⟩
def jbs_137 (G : jx_Gv) : List (Nat × jx_B) := [(0, jb_137_0 G), (8, jb_137_8 G), (13, jb_137_13 G), (15, jb_137_15 G), (33, jb_137_33 G), (53, jb_137_53 G), (92, jb_137_92 G), (103, jb_137_103 G), (104, jb_137_104 G), (112, jb_137_112 G), (113, jb_137_113 G), (122, jb_137_122 G), (131, jb_137_131 G), (134, jb_137_134 G), (135, jb_137_135 G), (143, jb_137_143 G), (144, jb_137_144 G), (153, jb_137_153 G), (162, jb_137_162 G), (165, jb_137_165 G), (166, jb_137_166 G)]
theorem jms_137 (G : jx_Gv) : ∀ e ∈ jbs_137 G, jx_mo e.2.1 := List.forall_mem_cons.mpr ⟨jm_137_0 G, List.forall_mem_cons.mpr ⟨jm_137_8 G, List.forall_mem_cons.mpr ⟨jm_137_13 G, List.forall_mem_cons.mpr ⟨jm_137_15 G, List.forall_mem_cons.mpr ⟨jm_137_33 G, List.forall_mem_cons.mpr ⟨jm_137_53 G, List.forall_mem_cons.mpr ⟨jm_137_92 G, List.forall_mem_cons.mpr ⟨jm_137_103 G, List.forall_mem_cons.mpr ⟨jm_137_104 G, List.forall_mem_cons.mpr ⟨jm_137_112 G, List.forall_mem_cons.mpr ⟨jm_137_113 G, List.forall_mem_cons.mpr ⟨jm_137_122 G, List.forall_mem_cons.mpr ⟨jm_137_131 G, List.forall_mem_cons.mpr ⟨jm_137_134 G, List.forall_mem_cons.mpr ⟨jm_137_135 G, List.forall_mem_cons.mpr ⟨jm_137_143 G, List.forall_mem_cons.mpr ⟨jm_137_144 G, List.forall_mem_cons.mpr ⟨jm_137_153 G, List.forall_mem_cons.mpr ⟨jm_137_162 G, List.forall_mem_cons.mpr ⟨jm_137_165 G, List.forall_mem_cons.mpr ⟨jm_137_166 G, fun _ h => absurd h List.not_mem_nil⟩⟩⟩⟩⟩⟩⟩⟩⟩⟩⟩⟩⟩⟩⟩⟩⟩⟩⟩⟩⟩
def jb_138_0 (G : jx_Gv) : jx_B := ([jo_aload 0, jo_iload 1], .inr (.inr (.inr (.inl (47, 2, 5, some 7)))))
theorem jm_138_0 (G : jx_Gv) : jx_mo (jb_138_0 G).1 := ⟨mo_aload _, mo_iload _, trivial⟩
def jb_138_5 (G : jx_Gv) : jx_B := ([jo_istore 2, jo_iload 2, jo_const (.int (74239 : Int32)), jo_ii (· &&& ·)], .inl (jc_i (fun x => decide (¬ x = 0)), 15, 13))
theorem jm_138_5 (G : jx_Gv) : jx_mo (jb_138_5 G).1 := ⟨mo_istore _, mo_iload _, mo_const _, mo_ii _, trivial⟩
def jb_138_13 (G : jx_Gv) : jx_B := ([jo_const (.int (0 : Int32))], .inr (.inr (.inr (.inr jr_z))))
theorem jm_138_13 (G : jx_Gv) : jx_mo (jb_138_13 G).1 := ⟨mo_const _, trivial⟩
def jb_138_15 (G : jx_Gv) : jx_B := ([jo_iload 2, jo_const (.int (8215 : Int32)), jo_ii (· &&& ·)], .inl (jc_i (fun x => decide (x = 0)), 29, 23))
theorem jm_138_15 (G : jx_Gv) : jx_mo (jb_138_15 G).1 := ⟨mo_iload _, mo_const _, mo_ii _, trivial⟩
def jb_138_23 (G : jx_Gv) : jx_B := ([jo_const (.int (8215 : Int32))], .inr (.inl 31))
theorem jm_138_23 (G : jx_Gv) : jx_mo (jb_138_23 G).1 := ⟨mo_const _, trivial⟩
def jb_138_29 (G : jx_Gv) : jx_B := ([jo_const (.int (66024 : Int32))], .inr (.inl 31))
theorem jm_138_29 (G : jx_Gv) : jx_mo (jb_138_29 G).1 := ⟨mo_const _, trivial⟩
def jb_138_31 (G : jx_Gv) : jx_B := ([jo_istore 3, jo_aload 0, jo_iload 3, jo_aload 0, jo_iload 1], .inr (.inr (.inr (.inl (122, 2, 39, some 7)))))
theorem jm_138_31 (G : jx_Gv) : jx_mo (jb_138_31 G).1 := ⟨mo_istore _, mo_aload _, mo_iload _, mo_aload _, mo_iload _, trivial⟩
def jb_138_39 (G : jx_Gv) : jx_B := ([jo_aload 0, jo_iload 1, jo_const (.int (1 : Int32))], .inr (.inr (.inr (.inl (64, 3, 45, some 7)))))
theorem jm_138_39 (G : jx_Gv) : jx_mo (jb_138_39 G).1 := ⟨mo_aload _, mo_iload _, mo_const _, trivial⟩
def jb_138_45 (G : jx_Gv) : jx_B := ([], .inr (.inr (.inr (.inl (66, 4, 48, some 7)))))
theorem jm_138_45 (G : jx_Gv) : jx_mo (jb_138_45 G).1 := trivial
def jb_138_48 (G : jx_Gv) : jx_B := ([jo_iload 1], .inl (jc_ii (fun x y => decide (x = y)), 56, 52))
theorem jm_138_48 (G : jx_Gv) : jx_mo (jb_138_48 G).1 := ⟨mo_iload _, trivial⟩
def jb_138_52 (G : jx_Gv) : jx_B := ([jo_const (.int (1 : Int32))], .inr (.inl 57))
theorem jm_138_52 (G : jx_Gv) : jx_mo (jb_138_52 G).1 := ⟨mo_const _, trivial⟩
def jb_138_56 (G : jx_Gv) : jx_B := ([jo_const (.int (0 : Int32))], .inr (.inl 57))
theorem jm_138_56 (G : jx_Gv) : jx_mo (jb_138_56 G).1 := ⟨mo_const _, trivial⟩
def jb_138_57 (G : jx_Gv) : jx_B := ([], .inr (.inr (.inr (.inr jr_z))))
theorem jm_138_57 (G : jx_Gv) : jx_mo (jb_138_57 G).1 := trivial
def jbs_138 (G : jx_Gv) : List (Nat × jx_B) := [(0, jb_138_0 G), (5, jb_138_5 G), (13, jb_138_13 G), (15, jb_138_15 G), (23, jb_138_23 G), (29, jb_138_29 G), (31, jb_138_31 G), (39, jb_138_39 G), (45, jb_138_45 G), (48, jb_138_48 G), (52, jb_138_52 G), (56, jb_138_56 G), (57, jb_138_57 G)]
theorem jms_138 (G : jx_Gv) : ∀ e ∈ jbs_138 G, jx_mo e.2.1 := List.forall_mem_cons.mpr ⟨jm_138_0 G, List.forall_mem_cons.mpr ⟨jm_138_5 G, List.forall_mem_cons.mpr ⟨jm_138_13 G, List.forall_mem_cons.mpr ⟨jm_138_15 G, List.forall_mem_cons.mpr ⟨jm_138_23 G, List.forall_mem_cons.mpr ⟨jm_138_29 G, List.forall_mem_cons.mpr ⟨jm_138_31 G, List.forall_mem_cons.mpr ⟨jm_138_39 G, List.forall_mem_cons.mpr ⟨jm_138_45 G, List.forall_mem_cons.mpr ⟨jm_138_48 G, List.forall_mem_cons.mpr ⟨jm_138_52 G, List.forall_mem_cons.mpr ⟨jm_138_56 G, List.forall_mem_cons.mpr ⟨jm_138_57 G, fun _ h => absurd h List.not_mem_nil⟩⟩⟩⟩⟩⟩⟩⟩⟩⟩⟩⟩⟩
def jb_139_0 (G : jx_Gv) : jx_B := ([jo_aload 0, jo_iload 1], .inr (.inr (.inr (.inl (113, 2, 5, some 7)))))
theorem jm_139_0 (G : jx_Gv) : jx_mo (jb_139_0 G).1 := ⟨mo_aload _, mo_iload _, trivial⟩
def jb_139_5 (G : jx_Gv) : jx_B := ([], .inl (jc_i (fun x => decide (¬ x = 0)), 10, 8))
theorem jm_139_5 (G : jx_Gv) : jx_mo (jb_139_5 G).1 := trivial
def jb_139_8 (G : jx_Gv) : jx_B := ([jo_const (.int (2 : Int32))], .inr (.inr (.inr (.inr jr_i))))
theorem jm_139_8 (G : jx_Gv) : jx_mo (jb_139_8 G).1 := ⟨mo_const _, trivial⟩
def jb_139_10 (G : jx_Gv) : jx_B := ([jo_aload 0, jo_iload 1, jo_const (.int (3 : Int32))], .inr (.inr (.inr (.inl (64, 3, 16, some 7)))))
theorem jm_139_10 (G : jx_Gv) : jx_mo (jb_139_10 G).1 := ⟨mo_aload _, mo_iload _, mo_const _, trivial⟩
def jb_139_16 (G : jx_Gv) : jx_B := ([jo_aload 0, jo_iload 1, jo_const (.int (5 : Int32))], .inr (.inr (.inr (.inl (64, 3, 22, some 7)))))
theorem jm_139_16 (G : jx_Gv) : jx_mo (jb_139_16 G).1 := ⟨mo_aload _, mo_iload _, mo_const _, trivial⟩
def jb_139_22 (G : jx_Gv) : jx_B := ([], .inl (jc_ii (fun x y => decide (x ≤ y)), 29, 25))
theorem jm_139_22 (G : jx_Gv) : jx_mo (jb_139_22 G).1 := trivial
def jb_139_25 (G : jx_Gv) : jx_B := ([jo_const (.int (3 : Int32))], .inr (.inl 30))
theorem jm_139_25 (G : jx_Gv) : jx_mo (jb_139_25 G).1 := ⟨mo_const _, trivial⟩
def jb_139_29 (G : jx_Gv) : jx_B := ([jo_const (.int (0 : Int32))], .inr (.inl 30))
theorem jm_139_29 (G : jx_Gv) : jx_mo (jb_139_29 G).1 := ⟨mo_const _, trivial⟩
def jb_139_30 (G : jx_Gv) : jx_B := ([], .inr (.inr (.inr (.inr jr_i))))
theorem jm_139_30 (G : jx_Gv) : jx_mo (jb_139_30 G).1 := trivial
def jbs_139 (G : jx_Gv) : List (Nat × jx_B) := [(0, jb_139_0 G), (5, jb_139_5 G), (8, jb_139_8 G), (10, jb_139_10 G), (16, jb_139_16 G), (22, jb_139_22 G), (25, jb_139_25 G), (29, jb_139_29 G), (30, jb_139_30 G)]
theorem jms_139 (G : jx_Gv) : ∀ e ∈ jbs_139 G, jx_mo e.2.1 := List.forall_mem_cons.mpr ⟨jm_139_0 G, List.forall_mem_cons.mpr ⟨jm_139_5 G, List.forall_mem_cons.mpr ⟨jm_139_8 G, List.forall_mem_cons.mpr ⟨jm_139_10 G, List.forall_mem_cons.mpr ⟨jm_139_16 G, List.forall_mem_cons.mpr ⟨jm_139_22 G, List.forall_mem_cons.mpr ⟨jm_139_25 G, List.forall_mem_cons.mpr ⟨jm_139_29 G, List.forall_mem_cons.mpr ⟨jm_139_30 G, fun _ h => absurd h List.not_mem_nil⟩⟩⟩⟩⟩⟩⟩⟩⟩
def jb_140_0 (G : jx_Gv) : jx_B := ([jo_aload 0, jo_iload 1], .inr (.inr (.inr (.inl (113, 2, 5, some 7)))))
theorem jm_140_0 (G : jx_Gv) : jx_mo (jb_140_0 G).1 := ⟨mo_aload _, mo_iload _, trivial⟩
def jb_140_5 (G : jx_Gv) : jx_B := ([jo_istore 3, jo_iload 3], .inl (jc_i (fun x => decide (x = 0)), 25, 10))
theorem jm_140_5 (G : jx_Gv) : jx_mo (jb_140_5 G).1 := ⟨mo_istore _, mo_iload _, trivial⟩
def jb_140_10 (G : jx_Gv) : jx_B := ([jo_aload 0, jo_const (.int (8 : Int32)), jo_iload 3, jo_iload 2], .inr (.inr (.inr (.inl (66, 4, 18, some 7)))))
theorem jm_140_10 (G : jx_Gv) : jx_mo (jb_140_10 G).1 := ⟨mo_aload _, mo_const _, mo_iload _, mo_iload _, trivial⟩
def jb_140_18 (G : jx_Gv) : jx_B := ([], .inl (jc_i (fun x => decide (¬ x = 0)), 25, 21))
theorem jm_140_18 (G : jx_Gv) : jx_mo (jb_140_18 G).1 := trivial
def jb_140_21 (G : jx_Gv) : jx_B := ([jo_const (.int (1 : Int32))], .inr (.inl 26))
theorem jm_140_21 (G : jx_Gv) : jx_mo (jb_140_21 G).1 := ⟨mo_const _, trivial⟩
def jb_140_25 (G : jx_Gv) : jx_B := ([jo_const (.int (0 : Int32))], .inr (.inl 26))
theorem jm_140_25 (G : jx_Gv) : jx_mo (jb_140_25 G).1 := ⟨mo_const _, trivial⟩
def jb_140_26 (G : jx_Gv) : jx_B := ([], .inr (.inr (.inr (.inr jr_z))))
theorem jm_140_26 (G : jx_Gv) : jx_mo (jb_140_26 G).1 := trivial
def jbs_140 (G : jx_Gv) : List (Nat × jx_B) := [(0, jb_140_0 G), (5, jb_140_5 G), (10, jb_140_10 G), (18, jb_140_18 G), (21, jb_140_21 G), (25, jb_140_25 G), (26, jb_140_26 G)]
theorem jms_140 (G : jx_Gv) : ∀ e ∈ jbs_140 G, jx_mo e.2.1 := List.forall_mem_cons.mpr ⟨jm_140_0 G, List.forall_mem_cons.mpr ⟨jm_140_5 G, List.forall_mem_cons.mpr ⟨jm_140_10 G, List.forall_mem_cons.mpr ⟨jm_140_18 G, List.forall_mem_cons.mpr ⟨jm_140_21 G, List.forall_mem_cons.mpr ⟨jm_140_25 G, List.forall_mem_cons.mpr ⟨jm_140_26 G, fun _ h => absurd h List.not_mem_nil⟩⟩⟩⟩⟩⟩⟩
def jb_141_0 (G : jx_Gv) : jx_B := ([jo_const (.int (0 : Int32)), jo_istore 2, jo_const (.int (2 : Int32)), jo_istore 3], .inr (.inl 4))
theorem jm_141_0 (G : jx_Gv) : jx_mo (jb_141_0 G).1 := ⟨mo_const _, mo_istore _, mo_const _, mo_istore _, trivial⟩
def jb_141_4 (G : jx_Gv) : jx_B := ([jo_iload 3, jo_aload 0, jo_iload 1], .inr (.inr (.inr (.inl (125, 2, 10, some 7)))))
theorem jm_141_4 (G : jx_Gv) : jx_mo (jb_141_4 G).1 := ⟨mo_iload _, mo_aload _, mo_iload _, trivial⟩
def jb_141_10 (G : jx_Gv) : jx_B := ([], .inl (jc_ii (fun x y => decide (y ≤ x)), 117, 13))
theorem jm_141_10 (G : jx_Gv) : jx_mo (jb_141_10 G).1 := trivial
def jb_141_13 (G : jx_Gv) : jx_B := ([jo_aload 0, jo_iload 1, jo_iload 3], .inr (.inr (.inr (.inl (121, 3, 19, some 7)))))
theorem jm_141_13 (G : jx_Gv) : jx_mo (jb_141_13 G).1 := ⟨mo_aload _, mo_iload _, mo_iload _, trivial⟩
def jb_141_19 (G : jx_Gv) : jx_B := ([jo_istore 4, jo_iload 4, jo_const (.int (7168 : Int32)), jo_ii (· &&& ·)], .inl (jc_i (fun x => decide (x = 0)), 94, 30))
theorem jm_141_19 (G : jx_Gv) : jx_mo (jb_141_19 G).1 := ⟨mo_istore _, mo_iload _, mo_const _, mo_ii _, trivial⟩
def jb_141_30 (G : jx_Gv) : jx_B := ([jo_aload 0, jo_iload 1, jo_iload 3], .inr (.inr (.inr (.inl (123, 3, 36, some 7)))))
theorem jm_141_30 (G : jx_Gv) : jx_mo (jb_141_30 G).1 := ⟨mo_aload _, mo_iload _, mo_iload _, trivial⟩
def jb_141_36 (G : jx_Gv) : jx_B := ([jo_istore 5, jo_iload 5], .inl (jc_i (fun x => decide (x = 0)), 60, 43))
theorem jm_141_36 (G : jx_Gv) : jx_mo (jb_141_36 G).1 := ⟨mo_istore _, mo_iload _, trivial⟩
def jb_141_43 (G : jx_Gv) : jx_B := ([jo_aload 0, jo_iload 5, jo_aload 0, jo_iload 1, jo_iload 3, jo_const (.int (3 : Int32)), jo_ii (· + ·)], .inr (.inr (.inr (.inl (64, 3, 54, some 7)))))
theorem jm_141_43 (G : jx_Gv) : jx_mo (jb_141_43 G).1 := ⟨mo_aload _, mo_iload _, mo_aload _, mo_iload _, mo_iload _, mo_const _, mo_ii _, trivial⟩
def jb_141_54 (G : jx_Gv) : jx_B := ([], .inr (.inr (.inr (.inl (140, 3, 57, none)))))
theorem jm_141_54 (G : jx_Gv) : jx_mo (jb_141_54 G).1 := trivial
def jb_141_57 (G : jx_Gv) : jx_B := ([], .inl (jc_i (fun x => decide (x = 0)), 62, 60))
theorem jm_141_57 (G : jx_Gv) : jx_mo (jb_141_57 G).1 := trivial
def jb_141_60 (G : jx_Gv) : jx_B := ([jo_const (.int (2 : Int32))], .inr (.inr (.inr (.inr jr_i))))
theorem jm_141_60 (G : jx_Gv) : jx_mo (jb_141_60 G).1 := ⟨mo_const _, trivial⟩
def jb_141_62 (G : jx_Gv) : jx_B := ([jo_iload 2, jo_aload 0, jo_iload 5], .inr (.inr (.inr (.inl (47, 2, 69, some 7)))))
theorem jm_141_62 (G : jx_Gv) : jx_mo (jb_141_62 G).1 := ⟨mo_iload _, mo_aload _, mo_iload _, trivial⟩
def jb_141_69 (G : jx_Gv) : jx_B := ([jo_iload 4, jo_const (.int (4096 : Int32))], .inl (jc_ii (fun x y => decide (¬ x = y)), 82, 77))
theorem jm_141_69 (G : jx_Gv) : jx_mo (jb_141_69 G).1 := ⟨mo_iload _, mo_const _, trivial⟩
def jb_141_77 (G : jx_Gv) : jx_B := ([jo_const (.int (64 : Int32))], .inr (.inl 84))
theorem jm_141_77 (G : jx_Gv) : jx_mo (jb_141_77 G).1 := ⟨mo_const _, trivial⟩
def jb_141_82 (G : jx_Gv) : jx_B := ([jo_const (.int (32 : Int32))], .inr (.inl 84))
theorem jm_141_82 (G : jx_Gv) : jx_mo (jb_141_82 G).1 := ⟨mo_const _, trivial⟩
def jb_141_84 (G : jx_Gv) : jx_B := ([], .inl (jc_ii (fun x y => decide (¬ x = y)), 91, 87))
theorem jm_141_84 (G : jx_Gv) : jx_mo (jb_141_84 G).1 := trivial
def jb_141_87 (G : jx_Gv) : jx_B := ([jo_const (.int (1 : Int32))], .inr (.inl 92))
theorem jm_141_87 (G : jx_Gv) : jx_mo (jb_141_87 G).1 := ⟨mo_const _, trivial⟩
def jb_141_91 (G : jx_Gv) : jx_B := ([jo_const (.int (0 : Int32))], .inr (.inl 92))
theorem jm_141_91 (G : jx_Gv) : jx_mo (jb_141_91 G).1 := ⟨mo_const _, trivial⟩
def jb_141_92 (G : jx_Gv) : jx_B := ([jo_ii (· ||| ·), jo_istore 2], .inr (.inl 94))
theorem jm_141_92 (G : jx_Gv) : jx_mo (jb_141_92 G).1 := ⟨mo_ii _, mo_istore _, trivial⟩
def jb_141_94 (G : jx_Gv) : jx_B := ([jo_iload 3, jo_aload 0, jo_iload 1, jo_iload 3], .inr (.inr (.inr (.inl (121, 3, 101, some 7)))))
theorem jm_141_94 (G : jx_Gv) : jx_mo (jb_141_94 G).1 := ⟨mo_iload _, mo_aload _, mo_iload _, mo_iload _, trivial⟩
def jb_141_101 (G : jx_Gv) : jx_B := ([jo_const (.int (512 : Int32))], .inl (jc_ii (fun x y => decide (¬ x = y)), 111, 107))
theorem jm_141_101 (G : jx_Gv) : jx_mo (jb_141_101 G).1 := ⟨mo_const _, trivial⟩
def jb_141_107 (G : jx_Gv) : jx_B := ([jo_const (.int (2 : Int32))], .inr (.inl 112))
theorem jm_141_107 (G : jx_Gv) : jx_mo (jb_141_107 G).1 := ⟨mo_const _, trivial⟩
def jb_141_111 (G : jx_Gv) : jx_B := ([jo_const (.int (4 : Int32))], .inr (.inl 112))
theorem jm_141_111 (G : jx_Gv) : jx_mo (jb_141_111 G).1 := ⟨mo_const _, trivial⟩
def jb_141_112 (G : jx_Gv) : jx_B := ([jo_ii (· + ·), jo_istore 3], .inr (.inl 4))
theorem jm_141_112 (G : jx_Gv) : jx_mo (jb_141_112 G).1 := ⟨mo_ii _, mo_istore _, trivial⟩
def jb_141_117 (G : jx_Gv) : jx_B := ([jo_aload 0, jo_iload 1, jo_const (.int (2 : Int32))], .inr (.inr (.inr (.inl (121, 3, 123, some 7)))))
theorem jm_141_117 (G : jx_Gv) : jx_mo (jb_141_117 G).1 := ⟨mo_aload _, mo_iload _, mo_const _, trivial⟩
def jb_141_123 (G : jx_Gv) : jx_B := ([jo_const (.int (1536 : Int32)), jo_ii (· &&& ·)], .inl (jc_i (fun x => decide (¬ x = 0)), 132, 130))
theorem jm_141_123 (G : jx_Gv) : jx_mo (jb_141_123 G).1 := ⟨mo_const _, mo_ii _, trivial⟩
def jb_141_130 (G : jx_Gv) : jx_B := ([jo_const (.int (4 : Int32))], .inr (.inr (.inr (.inr jr_i))))
theorem jm_141_130 (G : jx_Gv) : jx_mo (jb_141_130 G).1 := ⟨mo_const _, trivial⟩
def jb_141_132 (G : jx_Gv) : jx_B := ([jo_iload 2], .inl (jc_i (fun x => decide (x = 0)), 140, 136))
theorem jm_141_132 (G : jx_Gv) : jx_mo (jb_141_132 G).1 := ⟨mo_iload _, trivial⟩
def jb_141_136 (G : jx_Gv) : jx_B := ([jo_const (.int (5 : Int32))], .inr (.inl 141))
theorem jm_141_136 (G : jx_Gv) : jx_mo (jb_141_136 G).1 := ⟨mo_const _, trivial⟩
def jb_141_140 (G : jx_Gv) : jx_B := ([jo_const (.int (0 : Int32))], .inr (.inl 141))
theorem jm_141_140 (G : jx_Gv) : jx_mo (jb_141_140 G).1 := ⟨mo_const _, trivial⟩
def jb_141_141 (G : jx_Gv) : jx_B := ([], .inr (.inr (.inr (.inr jr_i))))
theorem jm_141_141 (G : jx_Gv) : jx_mo (jb_141_141 G).1 := trivial
def jbs_141 (G : jx_Gv) : List (Nat × jx_B) := [(0, jb_141_0 G), (4, jb_141_4 G), (10, jb_141_10 G), (13, jb_141_13 G), (19, jb_141_19 G), (30, jb_141_30 G), (36, jb_141_36 G), (43, jb_141_43 G), (54, jb_141_54 G), (57, jb_141_57 G), (60, jb_141_60 G), (62, jb_141_62 G), (69, jb_141_69 G), (77, jb_141_77 G), (82, jb_141_82 G), (84, jb_141_84 G), (87, jb_141_87 G), (91, jb_141_91 G), (92, jb_141_92 G), (94, jb_141_94 G), (101, jb_141_101 G), (107, jb_141_107 G), (111, jb_141_111 G), (112, jb_141_112 G), (117, jb_141_117 G), (123, jb_141_123 G), (130, jb_141_130 G), (132, jb_141_132 G), (136, jb_141_136 G), (140, jb_141_140 G), (141, jb_141_141 G)]
theorem jms_141 (G : jx_Gv) : ∀ e ∈ jbs_141 G, jx_mo e.2.1 := List.forall_mem_cons.mpr ⟨jm_141_0 G, List.forall_mem_cons.mpr ⟨jm_141_4 G, List.forall_mem_cons.mpr ⟨jm_141_10 G, List.forall_mem_cons.mpr ⟨jm_141_13 G, List.forall_mem_cons.mpr ⟨jm_141_19 G, List.forall_mem_cons.mpr ⟨jm_141_30 G, List.forall_mem_cons.mpr ⟨jm_141_36 G, List.forall_mem_cons.mpr ⟨jm_141_43 G, List.forall_mem_cons.mpr ⟨jm_141_54 G, List.forall_mem_cons.mpr ⟨jm_141_57 G, List.forall_mem_cons.mpr ⟨jm_141_60 G, List.forall_mem_cons.mpr ⟨jm_141_62 G, List.forall_mem_cons.mpr ⟨jm_141_69 G, List.forall_mem_cons.mpr ⟨jm_141_77 G, List.forall_mem_cons.mpr ⟨jm_141_82 G, List.forall_mem_cons.mpr ⟨jm_141_84 G, List.forall_mem_cons.mpr ⟨jm_141_87 G, List.forall_mem_cons.mpr ⟨jm_141_91 G, List.forall_mem_cons.mpr ⟨jm_141_92 G, List.forall_mem_cons.mpr ⟨jm_141_94 G, List.forall_mem_cons.mpr ⟨jm_141_101 G, List.forall_mem_cons.mpr ⟨jm_141_107 G, List.forall_mem_cons.mpr ⟨jm_141_111 G, List.forall_mem_cons.mpr ⟨jm_141_112 G, List.forall_mem_cons.mpr ⟨jm_141_117 G, List.forall_mem_cons.mpr ⟨jm_141_123 G, List.forall_mem_cons.mpr ⟨jm_141_130 G, List.forall_mem_cons.mpr ⟨jm_141_132 G, List.forall_mem_cons.mpr ⟨jm_141_136 G, List.forall_mem_cons.mpr ⟨jm_141_140 G, List.forall_mem_cons.mpr ⟨jm_141_141 G, fun _ h => absurd h List.not_mem_nil⟩⟩⟩⟩⟩⟩⟩⟩⟩⟩⟩⟩⟩⟩⟩⟩⟩⟩⟩⟩⟩⟩⟩⟩⟩⟩⟩⟩⟩⟩⟩
def jb_142_0 (G : jx_Gv) : jx_B := ([jo_iload 1], .inl (jc_i (fun x => decide (x = 0)), 13, 4))
theorem jm_142_0 (G : jx_Gv) : jx_mo (jb_142_0 G).1 := ⟨mo_iload _, trivial⟩
def jb_142_4 (G : jx_Gv) : jx_B := ([jo_iload 2, jo_aload 0, jo_getA 6 0, jo_alen 0], .inl (jc_ii (fun x y => decide (x < y)), 15, 13))
theorem jm_142_4 (G : jx_Gv) : jx_mo (jb_142_4 G).1 := ⟨mo_iload _, mo_aload _, mo_getA _ _, mo_alen _, trivial⟩
def jb_142_13 (G : jx_Gv) : jx_B := ([jo_iload 2], .inr (.inr (.inr (.inr jr_i))))
theorem jm_142_13 (G : jx_Gv) : jx_mo (jb_142_13 G).1 := ⟨mo_iload _, trivial⟩
def jb_142_15 (G : jx_Gv) : jx_B := ([jo_const (.int (0 : Int32)), jo_istore 3], .inr (.inl 17))
theorem jm_142_15 (G : jx_Gv) : jx_mo (jb_142_15 G).1 := ⟨mo_const _, mo_istore _, trivial⟩
def jb_142_17 (G : jx_Gv) : jx_B := ([jo_iload 3, jo_iload 2], .inl (jc_ii (fun x y => decide (y ≤ x)), 40, 22))
theorem jm_142_17 (G : jx_Gv) : jx_mo (jb_142_17 G).1 := ⟨mo_iload _, mo_iload _, trivial⟩
def jb_142_22 (G : jx_Gv) : jx_B := ([jo_aload 0, jo_getA 6 0, jo_iload 3, jo_iald 0, jo_iload 1], .inl (jc_ii (fun x y => decide (¬ x = y)), 34, 32))
theorem jm_142_22 (G : jx_Gv) : jx_mo (jb_142_22 G).1 := ⟨mo_aload _, mo_getA _ _, mo_iload _, mo_iald _, mo_iload _, trivial⟩
def jb_142_32 (G : jx_Gv) : jx_B := ([jo_iload 2], .inr (.inr (.inr (.inr jr_i))))
theorem jm_142_32 (G : jx_Gv) : jx_mo (jb_142_32 G).1 := ⟨mo_iload _, trivial⟩
def jb_142_34 (G : jx_Gv) : jx_B := ([jo_iinc 3 (1 : Int32)], .inr (.inl 17))
theorem jm_142_34 (G : jx_Gv) : jx_mo (jb_142_34 G).1 := ⟨mo_iinc _ _, trivial⟩
def jb_142_40 (G : jx_Gv) : jx_B := ([jo_aload 0, jo_getA 6 0, jo_iload 2, jo_iload 1, jo_iast 0, jo_iload 2, jo_const (.int (1 : Int32)), jo_ii (· + ·)], .inr (.inr (.inr (.inr jr_i))))
theorem jm_142_40 (G : jx_Gv) : jx_mo (jb_142_40 G).1 := ⟨mo_aload _, mo_getA _ _, mo_iload _, mo_iload _, mo_iast _, mo_iload _, mo_const _, mo_ii _, trivial⟩
def jbs_142 (G : jx_Gv) : List (Nat × jx_B) := [(0, jb_142_0 G), (4, jb_142_4 G), (13, jb_142_13 G), (15, jb_142_15 G), (17, jb_142_17 G), (22, jb_142_22 G), (32, jb_142_32 G), (34, jb_142_34 G), (40, jb_142_40 G)]
theorem jms_142 (G : jx_Gv) : ∀ e ∈ jbs_142 G, jx_mo e.2.1 := List.forall_mem_cons.mpr ⟨jm_142_0 G, List.forall_mem_cons.mpr ⟨jm_142_4 G, List.forall_mem_cons.mpr ⟨jm_142_13 G, List.forall_mem_cons.mpr ⟨jm_142_15 G, List.forall_mem_cons.mpr ⟨jm_142_17 G, List.forall_mem_cons.mpr ⟨jm_142_22 G, List.forall_mem_cons.mpr ⟨jm_142_32 G, List.forall_mem_cons.mpr ⟨jm_142_34 G, List.forall_mem_cons.mpr ⟨jm_142_40 G, fun _ h => absurd h List.not_mem_nil⟩⟩⟩⟩⟩⟩⟩⟩⟩
def jb_143_0 (G : jx_Gv) : jx_B := ([jo_aload 0, jo_aload 1, jo_iload 2], .inr (.inr (.inr (.inl (113, 2, 6, some 7)))))
theorem jm_143_0 (G : jx_Gv) : jx_mo (jb_143_0 G).1 := ⟨mo_aload _, mo_aload _, mo_iload _, trivial⟩
def jb_143_6 (G : jx_Gv) : jx_B := ([jo_const (.int (0 : Int32))], .inr (.inr (.inr (.inl (142, 3, 10, some 6)))))
theorem jm_143_6 (G : jx_Gv) : jx_mo (jb_143_6 G).1 := ⟨mo_const _, trivial⟩
def jb_143_10 (G : jx_Gv) : jx_B := ([jo_istore 3, jo_const (.int (0 : Int32)), jo_istore 4], .inr (.inl 14))
theorem jm_143_10 (G : jx_Gv) : jx_mo (jb_143_10 G).1 := ⟨mo_istore _, mo_const _, mo_istore _, trivial⟩
def jb_143_14 (G : jx_Gv) : jx_B := ([jo_iload 4, jo_iload 3], .inl (jc_ii (fun x y => decide (y ≤ x)), 110, 20))
theorem jm_143_14 (G : jx_Gv) : jx_mo (jb_143_14 G).1 := ⟨mo_iload _, mo_iload _, trivial⟩
def jb_143_20 (G : jx_Gv) : jx_B := ([jo_iload 4, jo_aload 0, jo_getA 6 0, jo_alen 0], .inl (jc_ii (fun x y => decide (y ≤ x)), 110, 30))
theorem jm_143_20 (G : jx_Gv) : jx_mo (jb_143_20 G).1 := ⟨mo_iload _, mo_aload _, mo_getA _ _, mo_alen _, trivial⟩
def jb_143_30 (G : jx_Gv) : jx_B := ([jo_aload 0, jo_getA 6 0, jo_iload 4, jo_iald 0, jo_aload 1, jo_iload 2], .inr (.inr (.inr (.inl (122, 2, 42, some 7)))))
theorem jm_143_30 (G : jx_Gv) : jx_mo (jb_143_30 G).1 := ⟨mo_aload _, mo_getA _ _, mo_iload _, mo_iald _, mo_aload _, mo_iload _, trivial⟩
def jb_143_42 (G : jx_Gv) : jx_B := ([], .inl (jc_ii (fun x y => decide (¬ x = y)), 47, 45))
theorem jm_143_42 (G : jx_Gv) : jx_mo (jb_143_42 G).1 := trivial
def jb_143_45 (G : jx_Gv) : jx_B := ([jo_const (.int (1 : Int32))], .inr (.inr (.inr (.inr jr_z))))
theorem jm_143_45 (G : jx_Gv) : jx_mo (jb_143_45 G).1 := ⟨mo_const _, trivial⟩
def jb_143_47 (G : jx_Gv) : jx_B := ([jo_const (.int (1 : Int32)), jo_istore 5], .inr (.inl 50))
theorem jm_143_47 (G : jx_Gv) : jx_mo (jb_143_47 G).1 := ⟨mo_const _, mo_istore _, trivial⟩
def jb_143_50 (G : jx_Gv) : jx_B := ([jo_iload 5, jo_aload 1], .inr (.inr (.inr (.inl (42, 1, 56, some 7)))))
theorem jm_143_50 (G : jx_Gv) : jx_mo (jb_143_50 G).1 := ⟨mo_iload _, mo_aload _, trivial⟩
def jb_143_56 (G : jx_Gv) : jx_B := ([], .inl (jc_ii (fun x y => decide (y < x)), 104, 59))
theorem jm_143_56 (G : jx_Gv) : jx_mo (jb_143_56 G).1 := trivial
def jb_143_59 (G : jx_Gv) : jx_B := ([jo_aload 1, jo_iload 5], .inr (.inr (.inr (.inl (47, 2, 65, some 7)))))
theorem jm_143_59 (G : jx_Gv) : jx_mo (jb_143_59 G).1 := ⟨mo_aload _, mo_iload _, trivial⟩
def jb_143_65 (G : jx_Gv) : jx_B := ([jo_const (.int (65536 : Int32))], .inl (jc_ii (fun x y => decide (¬ x = y)), 98, 70))
theorem jm_143_65 (G : jx_Gv) : jx_mo (jb_143_65 G).1 := ⟨mo_const _, trivial⟩
def jb_143_70 (G : jx_Gv) : jx_B := ([jo_aload 1, jo_iload 5], .inr (.inr (.inr (.inl (122, 2, 76, some 7)))))
theorem jm_143_70 (G : jx_Gv) : jx_mo (jb_143_70 G).1 := ⟨mo_aload _, mo_iload _, trivial⟩
def jb_143_76 (G : jx_Gv) : jx_B := ([jo_aload 0, jo_getA 6 0, jo_iload 4, jo_iald 0], .inl (jc_ii (fun x y => decide (¬ x = y)), 98, 86))
theorem jm_143_76 (G : jx_Gv) : jx_mo (jb_143_76 G).1 := ⟨mo_aload _, mo_getA _ _, mo_iload _, mo_iald _, trivial⟩
def jb_143_86 (G : jx_Gv) : jx_B := ([jo_aload 0, jo_aload 1, jo_iload 5], .inr (.inr (.inr (.inl (113, 2, 93, some 7)))))
theorem jm_143_86 (G : jx_Gv) : jx_mo (jb_143_86 G).1 := ⟨mo_aload _, mo_aload _, mo_iload _, trivial⟩
def jb_143_93 (G : jx_Gv) : jx_B := ([jo_iload 3], .inr (.inr (.inr (.inl (142, 3, 97, some 6)))))
theorem jm_143_93 (G : jx_Gv) : jx_mo (jb_143_93 G).1 := ⟨mo_iload _, trivial⟩
def jb_143_97 (G : jx_Gv) : jx_B := ([jo_istore 3], .inr (.inl 98))
theorem jm_143_97 (G : jx_Gv) : jx_mo (jb_143_97 G).1 := ⟨mo_istore _, trivial⟩
def jb_143_98 (G : jx_Gv) : jx_B := ([jo_iinc 5 (1 : Int32)], .inr (.inl 50))
theorem jm_143_98 (G : jx_Gv) : jx_mo (jb_143_98 G).1 := ⟨mo_iinc _ _, trivial⟩
def jb_143_104 (G : jx_Gv) : jx_B := ([jo_iinc 4 (1 : Int32)], .inr (.inl 14))
theorem jm_143_104 (G : jx_Gv) : jx_mo (jb_143_104 G).1 := ⟨mo_iinc _ _, trivial⟩
def jb_143_110 (G : jx_Gv) : jx_B := ([jo_const (.int (0 : Int32))], .inr (.inr (.inr (.inr jr_z))))
theorem jm_143_110 (G : jx_Gv) : jx_mo (jb_143_110 G).1 := ⟨mo_const _, trivial⟩
def jbs_143 (G : jx_Gv) : List (Nat × jx_B) := [(0, jb_143_0 G), (6, jb_143_6 G), (10, jb_143_10 G), (14, jb_143_14 G), (20, jb_143_20 G), (30, jb_143_30 G), (42, jb_143_42 G), (45, jb_143_45 G), (47, jb_143_47 G), (50, jb_143_50 G), (56, jb_143_56 G), (59, jb_143_59 G), (65, jb_143_65 G), (70, jb_143_70 G), (76, jb_143_76 G), (86, jb_143_86 G), (93, jb_143_93 G), (97, jb_143_97 G), (98, jb_143_98 G), (104, jb_143_104 G), (110, jb_143_110 G)]
theorem jms_143 (G : jx_Gv) : ∀ e ∈ jbs_143 G, jx_mo e.2.1 := List.forall_mem_cons.mpr ⟨jm_143_0 G, List.forall_mem_cons.mpr ⟨jm_143_6 G, List.forall_mem_cons.mpr ⟨jm_143_10 G, List.forall_mem_cons.mpr ⟨jm_143_14 G, List.forall_mem_cons.mpr ⟨jm_143_20 G, List.forall_mem_cons.mpr ⟨jm_143_30 G, List.forall_mem_cons.mpr ⟨jm_143_42 G, List.forall_mem_cons.mpr ⟨jm_143_45 G, List.forall_mem_cons.mpr ⟨jm_143_47 G, List.forall_mem_cons.mpr ⟨jm_143_50 G, List.forall_mem_cons.mpr ⟨jm_143_56 G, List.forall_mem_cons.mpr ⟨jm_143_59 G, List.forall_mem_cons.mpr ⟨jm_143_65 G, List.forall_mem_cons.mpr ⟨jm_143_70 G, List.forall_mem_cons.mpr ⟨jm_143_76 G, List.forall_mem_cons.mpr ⟨jm_143_86 G, List.forall_mem_cons.mpr ⟨jm_143_93 G, List.forall_mem_cons.mpr ⟨jm_143_97 G, List.forall_mem_cons.mpr ⟨jm_143_98 G, List.forall_mem_cons.mpr ⟨jm_143_104 G, List.forall_mem_cons.mpr ⟨jm_143_110 G, fun _ h => absurd h List.not_mem_nil⟩⟩⟩⟩⟩⟩⟩⟩⟩⟩⟩⟩⟩⟩⟩⟩⟩⟩⟩⟩⟩
def jb_144_0 (G : jx_Gv) : jx_B := ([jo_aload 1, jo_iload 2], .inr (.inr (.inr (.inl (113, 2, 5, some 7)))))
theorem jm_144_0 (G : jx_Gv) : jx_mo (jb_144_0 G).1 := ⟨mo_aload _, mo_iload _, trivial⟩
def jb_144_5 (G : jx_Gv) : jx_B := ([], .inl (jc_i (fun x => decide (¬ x = 0)), 10, 8))
theorem jm_144_5 (G : jx_Gv) : jx_mo (jb_144_5 G).1 := trivial
def jb_144_8 (G : jx_Gv) : jx_B := ([jo_const (.int (2 : Int32))], .inr (.inr (.inr (.inr jr_i))))
theorem jm_144_8 (G : jx_Gv) : jx_mo (jb_144_8 G).1 := ⟨mo_const _, trivial⟩
def jb_144_10 (G : jx_Gv) : jx_B := ([jo_aload 0, jo_aload 1, jo_iload 2], .inr (.inr (.inr (.inl (143, 3, 16, some 6)))))
theorem jm_144_10 (G : jx_Gv) : jx_mo (jb_144_10 G).1 := ⟨mo_aload _, mo_aload _, mo_iload _, trivial⟩
def jb_144_16 (G : jx_Gv) : jx_B := ([], .inl (jc_i (fun x => decide (x = 0)), 24, 19))
theorem jm_144_16 (G : jx_Gv) : jx_mo (jb_144_16 G).1 := trivial
def jb_144_19 (G : jx_Gv) : jx_B := ([jo_const (.int (10 : Int32))], .inr (.inl 25))
theorem jm_144_19 (G : jx_Gv) : jx_mo (jb_144_19 G).1 := ⟨mo_const _, trivial⟩
def jb_144_24 (G : jx_Gv) : jx_B := ([jo_const (.int (0 : Int32))], .inr (.inl 25))
theorem jm_144_24 (G : jx_Gv) : jx_mo (jb_144_24 G).1 := ⟨mo_const _, trivial⟩
def jb_144_25 (G : jx_Gv) : jx_B := ([], .inr (.inr (.inr (.inr jr_i))))
theorem jm_144_25 (G : jx_Gv) : jx_mo (jb_144_25 G).1 := trivial
def jbs_144 (G : jx_Gv) : List (Nat × jx_B) := [(0, jb_144_0 G), (5, jb_144_5 G), (8, jb_144_8 G), (10, jb_144_10 G), (16, jb_144_16 G), (19, jb_144_19 G), (24, jb_144_24 G), (25, jb_144_25 G)]
theorem jms_144 (G : jx_Gv) : ∀ e ∈ jbs_144 G, jx_mo e.2.1 := List.forall_mem_cons.mpr ⟨jm_144_0 G, List.forall_mem_cons.mpr ⟨jm_144_5 G, List.forall_mem_cons.mpr ⟨jm_144_8 G, List.forall_mem_cons.mpr ⟨jm_144_10 G, List.forall_mem_cons.mpr ⟨jm_144_16 G, List.forall_mem_cons.mpr ⟨jm_144_19 G, List.forall_mem_cons.mpr ⟨jm_144_24 G, List.forall_mem_cons.mpr ⟨jm_144_25 G, fun _ h => absurd h List.not_mem_nil⟩⟩⟩⟩⟩⟩⟩⟩
def jb_145_0 (G : jx_Gv) : jx_B := ([jo_iload 1], .inl (jc_i (fun x => decide (x = 0)), 16, 4))
theorem jm_145_0 (G : jx_Gv) : jx_mo (jb_145_0 G).1 := ⟨mo_iload _, trivial⟩
def jb_145_4 (G : jx_Gv) : jx_B := ([jo_iload 2], .inl (jc_i (fun x => decide (¬ x = 0)), 20, 8))
theorem jm_145_4 (G : jx_Gv) : jx_mo (jb_145_4 G).1 := ⟨mo_iload _, trivial⟩
def jb_145_8 (G : jx_Gv) : jx_B := ([jo_aload 0, jo_iload 1], .inr (.inr (.inr (.inl (113, 2, 13, some 7)))))
theorem jm_145_8 (G : jx_Gv) : jx_mo (jb_145_8 G).1 := ⟨mo_aload _, mo_iload _, trivial⟩
def jb_145_13 (G : jx_Gv) : jx_B := ([], .inl (jc_i (fun x => decide (x = 0)), 20, 16))
theorem jm_145_13 (G : jx_Gv) : jx_mo (jb_145_13 G).1 := trivial
def jb_145_16 (G : jx_Gv) : jx_B := ([jo_const (.int (1 : Int32))], .inr (.inl 21))
theorem jm_145_16 (G : jx_Gv) : jx_mo (jb_145_16 G).1 := ⟨mo_const _, trivial⟩
def jb_145_20 (G : jx_Gv) : jx_B := ([jo_const (.int (0 : Int32))], .inr (.inl 21))
theorem jm_145_20 (G : jx_Gv) : jx_mo (jb_145_20 G).1 := ⟨mo_const _, trivial⟩
def jb_145_21 (G : jx_Gv) : jx_B := ([], .inr (.inr (.inr (.inr jr_z))))
theorem jm_145_21 (G : jx_Gv) : jx_mo (jb_145_21 G).1 := trivial
def jbs_145 (G : jx_Gv) : List (Nat × jx_B) := [(0, jb_145_0 G), (4, jb_145_4 G), (8, jb_145_8 G), (13, jb_145_13 G), (16, jb_145_16 G), (20, jb_145_20 G), (21, jb_145_21 G)]
theorem jms_145 (G : jx_Gv) : ∀ e ∈ jbs_145 G, jx_mo e.2.1 := List.forall_mem_cons.mpr ⟨jm_145_0 G, List.forall_mem_cons.mpr ⟨jm_145_4 G, List.forall_mem_cons.mpr ⟨jm_145_8 G, List.forall_mem_cons.mpr ⟨jm_145_13 G, List.forall_mem_cons.mpr ⟨jm_145_16 G, List.forall_mem_cons.mpr ⟨jm_145_20 G, List.forall_mem_cons.mpr ⟨jm_145_21 G, fun _ h => absurd h List.not_mem_nil⟩⟩⟩⟩⟩⟩⟩
def jb_146_0 (G : jx_Gv) : jx_B := ([jo_aload 0, jo_iload 1], .inr (.inr (.inr (.inl (113, 2, 5, some 7)))))
theorem jm_146_0 (G : jx_Gv) : jx_mo (jb_146_0 G).1 := ⟨mo_aload _, mo_iload _, trivial⟩
def jb_146_5 (G : jx_Gv) : jx_B := ([jo_istore 4, jo_aload 0, jo_iload 2], .inr (.inr (.inr (.inl (113, 2, 12, some 7)))))
theorem jm_146_5 (G : jx_Gv) : jx_mo (jb_146_5 G).1 := ⟨mo_istore _, mo_aload _, mo_iload _, trivial⟩
def jb_146_12 (G : jx_Gv) : jx_B := ([jo_istore 5, jo_aload 0, jo_iload 1, jo_iload 3], .inr (.inr (.inr (.inl (64, 3, 20, some 7)))))
theorem jm_146_12 (G : jx_Gv) : jx_mo (jb_146_12 G).1 := ⟨mo_istore _, mo_aload _, mo_iload _, mo_iload _, trivial⟩
def jb_146_20 (G : jx_Gv) : jx_B := ([jo_i2l, jo_aload 0, jo_iload 4, jo_const (.int (3 : Int32))], .inr (.inr (.inr (.inl (64, 3, 28, some 7)))))
theorem jm_146_20 (G : jx_Gv) : jx_mo (jb_146_20 G).1 := ⟨mo_i2l, mo_aload _, mo_iload _, mo_const _, trivial⟩
def jb_146_28 (G : jx_Gv) : jx_B := ([jo_i2l, jo_ll (· * ·), jo_aload 0, jo_iload 5, jo_const (.int (5 : Int32))], .inr (.inr (.inr (.inl (64, 3, 37, some 7)))))
theorem jm_146_28 (G : jx_Gv) : jx_mo (jb_146_28 G).1 := ⟨mo_i2l, mo_ll _, mo_aload _, mo_iload _, mo_const _, trivial⟩
def jb_146_37 (G : jx_Gv) : jx_B := ([jo_i2l, jo_ll (· * ·), jo_lstore 6, jo_aload 0, jo_iload 2, jo_iload 3], .inr (.inr (.inr (.inl (64, 3, 47, some 7)))))
theorem jm_146_37 (G : jx_Gv) : jx_mo (jb_146_37 G).1 := ⟨mo_i2l, mo_ll _, mo_lstore _, mo_aload _, mo_iload _, mo_iload _, trivial⟩
def jb_146_47 (G : jx_Gv) : jx_B := ([jo_i2l, jo_aload 0, jo_iload 5, jo_const (.int (3 : Int32))], .inr (.inr (.inr (.inl (64, 3, 55, some 7)))))
theorem jm_146_47 (G : jx_Gv) : jx_mo (jb_146_47 G).1 := ⟨mo_i2l, mo_aload _, mo_iload _, mo_const _, trivial⟩
def jb_146_55 (G : jx_Gv) : jx_B := ([jo_i2l, jo_ll (· * ·), jo_aload 0, jo_iload 4, jo_const (.int (5 : Int32))], .inr (.inr (.inr (.inl (64, 3, 64, some 7)))))
theorem jm_146_55 (G : jx_Gv) : jx_mo (jb_146_55 G).1 := ⟨mo_i2l, mo_ll _, mo_aload _, mo_iload _, mo_const _, trivial⟩
def jb_146_64 (G : jx_Gv) : jx_B := ([jo_i2l, jo_ll (· * ·), jo_drop 7, jo_lstore 8, jo_lload 6, jo_lload 8, jo_lc lg_cmp], .inl (jc_i (fun x => decide (0 < x)), 80, 76))
theorem jm_146_64 (G : jx_Gv) : jx_mo (jb_146_64 G).1 := ⟨mo_i2l, mo_ll _, mo_drop _, mo_lstore _, mo_lload _, mo_lload _, mo_lc _, trivial⟩
def jb_146_76 (G : jx_Gv) : jx_B := ([jo_const (.int (1 : Int32))], .inr (.inl 81))
theorem jm_146_76 (G : jx_Gv) : jx_mo (jb_146_76 G).1 := ⟨mo_const _, trivial⟩
def jb_146_80 (G : jx_Gv) : jx_B := ([jo_const (.int (0 : Int32))], .inr (.inl 81))
theorem jm_146_80 (G : jx_Gv) : jx_mo (jb_146_80 G).1 := ⟨mo_const _, trivial⟩
def jb_146_81 (G : jx_Gv) : jx_B := ([], .inr (.inr (.inr (.inr jr_z))))
theorem jm_146_81 (G : jx_Gv) : jx_mo (jb_146_81 G).1 := trivial
def jbs_146 (G : jx_Gv) : List (Nat × jx_B) := [(0, jb_146_0 G), (5, jb_146_5 G), (12, jb_146_12 G), (20, jb_146_20 G), (28, jb_146_28 G), (37, jb_146_37 G), (47, jb_146_47 G), (55, jb_146_55 G), (64, jb_146_64 G), (76, jb_146_76 G), (80, jb_146_80 G), (81, jb_146_81 G)]
theorem jms_146 (G : jx_Gv) : ∀ e ∈ jbs_146 G, jx_mo e.2.1 := List.forall_mem_cons.mpr ⟨jm_146_0 G, List.forall_mem_cons.mpr ⟨jm_146_5 G, List.forall_mem_cons.mpr ⟨jm_146_12 G, List.forall_mem_cons.mpr ⟨jm_146_20 G, List.forall_mem_cons.mpr ⟨jm_146_28 G, List.forall_mem_cons.mpr ⟨jm_146_37 G, List.forall_mem_cons.mpr ⟨jm_146_47 G, List.forall_mem_cons.mpr ⟨jm_146_55 G, List.forall_mem_cons.mpr ⟨jm_146_64 G, List.forall_mem_cons.mpr ⟨jm_146_76 G, List.forall_mem_cons.mpr ⟨jm_146_80 G, List.forall_mem_cons.mpr ⟨jm_146_81 G, fun _ h => absurd h List.not_mem_nil⟩⟩⟩⟩⟩⟩⟩⟩⟩⟩⟩⟩
def jb_147_0 (G : jx_Gv) : jx_B := ([jo_iload 1], .inl (jc_i (fun x => decide (¬ x = 0)), 7, 4))
theorem jm_147_0 (G : jx_Gv) : jx_mo (jb_147_0 G).1 := ⟨mo_iload _, trivial⟩
def jb_147_4 (G : jx_Gv) : jx_B := ([jo_const (.int (6 : Int32))], .inr (.inr (.inr (.inr jr_i))))
theorem jm_147_4 (G : jx_Gv) : jx_mo (jb_147_4 G).1 := ⟨mo_const _, trivial⟩
def jb_147_7 (G : jx_Gv) : jx_B := ([jo_aload 0, jo_iload 1], .inr (.inr (.inr (.inl (113, 2, 12, some 7)))))
theorem jm_147_7 (G : jx_Gv) : jx_mo (jb_147_7 G).1 := ⟨mo_aload _, mo_iload _, trivial⟩
def jb_147_12 (G : jx_Gv) : jx_B := ([jo_istore 3, jo_aload 0, jo_iload 2], .inr (.inr (.inr (.inl (113, 2, 18, some 7)))))
theorem jm_147_12 (G : jx_Gv) : jx_mo (jb_147_12 G).1 := ⟨mo_istore _, mo_aload _, mo_iload _, trivial⟩
def jb_147_18 (G : jx_Gv) : jx_B := ([jo_istore 4, jo_aload 0, jo_iload 3], .inr (.inr (.inr (.inl (113, 2, 25, some 7)))))
theorem jm_147_18 (G : jx_Gv) : jx_mo (jb_147_18 G).1 := ⟨mo_istore _, mo_aload _, mo_iload _, trivial⟩
def jb_147_25 (G : jx_Gv) : jx_B := ([jo_istore 5, jo_aload 0, jo_iload 4], .inr (.inr (.inr (.inl (113, 2, 33, some 7)))))
theorem jm_147_25 (G : jx_Gv) : jx_mo (jb_147_25 G).1 := ⟨mo_istore _, mo_aload _, mo_iload _, trivial⟩
def jb_147_33 (G : jx_Gv) : jx_B := ([jo_istore 6, jo_iload 5], .inl (jc_i (fun x => decide (x = 0)), 45, 40))
theorem jm_147_33 (G : jx_Gv) : jx_mo (jb_147_33 G).1 := ⟨mo_istore _, mo_iload _, trivial⟩
def jb_147_40 (G : jx_Gv) : jx_B := ([jo_iload 6], .inl (jc_i (fun x => decide (¬ x = 0)), 47, 45))
theorem jm_147_40 (G : jx_Gv) : jx_mo (jb_147_40 G).1 := ⟨mo_iload _, trivial⟩
def jb_147_45 (G : jx_Gv) : jx_B := ([jo_const (.int (0 : Int32))], .inr (.inr (.inr (.inr jr_i))))
theorem jm_147_45 (G : jx_Gv) : jx_mo (jb_147_45 G).1 := ⟨mo_const _, trivial⟩
def jb_147_47 (G : jx_Gv) : jx_B := ([jo_aload 0, jo_iload 5, jo_const (.int (6 : Int32))], .inr (.inr (.inr (.inl (64, 3, 55, some 7)))))
theorem jm_147_47 (G : jx_Gv) : jx_mo (jb_147_47 G).1 := ⟨mo_aload _, mo_iload _, mo_const _, trivial⟩
def jb_147_55 (G : jx_Gv) : jx_B := ([jo_aload 0, jo_iload 6, jo_const (.int (6 : Int32))], .inr (.inr (.inr (.inl (64, 3, 63, some 7)))))
theorem jm_147_55 (G : jx_Gv) : jx_mo (jb_147_55 G).1 := ⟨mo_aload _, mo_iload _, mo_const _, trivial⟩
def jb_147_63 (G : jx_Gv) : jx_B := ([], .inl (jc_ii (fun x y => decide (x = y)), 69, 66))
theorem jm_147_63 (G : jx_Gv) : jx_mo (jb_147_63 G).1 := trivial
def jb_147_66 (G : jx_Gv) : jx_B := ([jo_const (.int (7 : Int32))], .inr (.inr (.inr (.inr jr_i))))
theorem jm_147_66 (G : jx_Gv) : jx_mo (jb_147_66 G).1 := ⟨mo_const _, trivial⟩
def jb_147_69 (G : jx_Gv) : jx_B := ([jo_aload 0, jo_iload 4, jo_iload 3, jo_const (.int (3 : Int32))], .inr (.inr (.inr (.inl (146, 4, 77, none)))))
theorem jm_147_69 (G : jx_Gv) : jx_mo (jb_147_69 G).1 := ⟨mo_aload _, mo_iload _, mo_iload _, mo_const _, trivial⟩
def jb_147_77 (G : jx_Gv) : jx_B := ([], .inl (jc_i (fun x => decide (x = 0)), 95, 80))
theorem jm_147_77 (G : jx_Gv) : jx_mo (jb_147_77 G).1 := trivial
def jb_147_80 (G : jx_Gv) : jx_B := ([jo_aload 0, jo_iload 3, jo_iload 4, jo_const (.int (5 : Int32))], .inr (.inr (.inr (.inl (146, 4, 88, none)))))
theorem jm_147_80 (G : jx_Gv) : jx_mo (jb_147_80 G).1 := ⟨mo_aload _, mo_iload _, mo_iload _, mo_const _, trivial⟩
def jb_147_88 (G : jx_Gv) : jx_B := ([], .inl (jc_i (fun x => decide (x = 0)), 95, 91))
theorem jm_147_88 (G : jx_Gv) : jx_mo (jb_147_88 G).1 := trivial
def jb_147_91 (G : jx_Gv) : jx_B := ([jo_const (.int (1 : Int32))], .inr (.inl 96))
theorem jm_147_91 (G : jx_Gv) : jx_mo (jb_147_91 G).1 := ⟨mo_const _, trivial⟩
def jb_147_95 (G : jx_Gv) : jx_B := ([jo_const (.int (0 : Int32))], .inr (.inl 96))
theorem jm_147_95 (G : jx_Gv) : jx_mo (jb_147_95 G).1 := ⟨mo_const _, trivial⟩
def jb_147_96 (G : jx_Gv) : jx_B := ([jo_istore 7, jo_iload 7], .inl (jc_i (fun x => decide (x = 0)), 107, 103))
theorem jm_147_96 (G : jx_Gv) : jx_mo (jb_147_96 G).1 := ⟨mo_istore _, mo_iload _, trivial⟩
def jb_147_103 (G : jx_Gv) : jx_B := ([jo_const (.int (0 : Int32))], .inr (.inl 109))
theorem jm_147_103 (G : jx_Gv) : jx_mo (jb_147_103 G).1 := ⟨mo_const _, trivial⟩
def jb_147_107 (G : jx_Gv) : jx_B := ([jo_const (.int (8 : Int32))], .inr (.inl 109))
theorem jm_147_107 (G : jx_Gv) : jx_mo (jb_147_107 G).1 := ⟨mo_const _, trivial⟩
def jb_147_109 (G : jx_Gv) : jx_B := ([], .inr (.inr (.inr (.inr jr_i))))
theorem jm_147_109 (G : jx_Gv) : jx_mo (jb_147_109 G).1 := trivial
def jbs_147 (G : jx_Gv) : List (Nat × jx_B) := [(0, jb_147_0 G), (4, jb_147_4 G), (7, jb_147_7 G), (12, jb_147_12 G), (18, jb_147_18 G), (25, jb_147_25 G), (33, jb_147_33 G), (40, jb_147_40 G), (45, jb_147_45 G), (47, jb_147_47 G), (55, jb_147_55 G), (63, jb_147_63 G), (66, jb_147_66 G), (69, jb_147_69 G), (77, jb_147_77 G), (80, jb_147_80 G), (88, jb_147_88 G), (91, jb_147_91 G), (95, jb_147_95 G), (96, jb_147_96 G), (103, jb_147_103 G), (107, jb_147_107 G), (109, jb_147_109 G)]
theorem jms_147 (G : jx_Gv) : ∀ e ∈ jbs_147 G, jx_mo e.2.1 := List.forall_mem_cons.mpr ⟨jm_147_0 G, List.forall_mem_cons.mpr ⟨jm_147_4 G, List.forall_mem_cons.mpr ⟨jm_147_7 G, List.forall_mem_cons.mpr ⟨jm_147_12 G, List.forall_mem_cons.mpr ⟨jm_147_18 G, List.forall_mem_cons.mpr ⟨jm_147_25 G, List.forall_mem_cons.mpr ⟨jm_147_33 G, List.forall_mem_cons.mpr ⟨jm_147_40 G, List.forall_mem_cons.mpr ⟨jm_147_45 G, List.forall_mem_cons.mpr ⟨jm_147_47 G, List.forall_mem_cons.mpr ⟨jm_147_55 G, List.forall_mem_cons.mpr ⟨jm_147_63 G, List.forall_mem_cons.mpr ⟨jm_147_66 G, List.forall_mem_cons.mpr ⟨jm_147_69 G, List.forall_mem_cons.mpr ⟨jm_147_77 G, List.forall_mem_cons.mpr ⟨jm_147_80 G, List.forall_mem_cons.mpr ⟨jm_147_88 G, List.forall_mem_cons.mpr ⟨jm_147_91 G, List.forall_mem_cons.mpr ⟨jm_147_95 G, List.forall_mem_cons.mpr ⟨jm_147_96 G, List.forall_mem_cons.mpr ⟨jm_147_103 G, List.forall_mem_cons.mpr ⟨jm_147_107 G, List.forall_mem_cons.mpr ⟨jm_147_109 G, fun _ h => absurd h List.not_mem_nil⟩⟩⟩⟩⟩⟩⟩⟩⟩⟩⟩⟩⟩⟩⟩⟩⟩⟩⟩⟩⟩⟩⟩
def jb_148_0 (G : jx_Gv) : jx_B := ([jo_iload 1], .inl (jc_i (fun x => decide (x = 0)), 8, 4))
theorem jm_148_0 (G : jx_Gv) : jx_mo (jb_148_0 G).1 := ⟨mo_iload _, trivial⟩
def jb_148_4 (G : jx_Gv) : jx_B := ([jo_iload 2], .inl (jc_i (fun x => decide (¬ x = 0)), 10, 8))
theorem jm_148_4 (G : jx_Gv) : jx_mo (jb_148_4 G).1 := ⟨mo_iload _, trivial⟩
def jb_148_8 (G : jx_Gv) : jx_B := ([jo_const (.int (0 : Int32))], .inr (.inr (.inr (.inr jr_i))))
theorem jm_148_8 (G : jx_Gv) : jx_mo (jb_148_8 G).1 := ⟨mo_const _, trivial⟩
def jb_148_10 (G : jx_Gv) : jx_B := ([jo_const (.int (0 : Int32)), jo_istore 3, jo_const (.int (1 : Int32)), jo_istore 4], .inr (.inl 15))
theorem jm_148_10 (G : jx_Gv) : jx_mo (jb_148_10 G).1 := ⟨mo_const _, mo_istore _, mo_const _, mo_istore _, trivial⟩
def jb_148_15 (G : jx_Gv) : jx_B := ([jo_iload 4, jo_aload 0], .inr (.inr (.inr (.inl (42, 1, 21, some 7)))))
theorem jm_148_15 (G : jx_Gv) : jx_mo (jb_148_15 G).1 := ⟨mo_iload _, mo_aload _, trivial⟩
def jb_148_21 (G : jx_Gv) : jx_B := ([], .inl (jc_ii (fun x y => decide (y < x)), 95, 24))
theorem jm_148_21 (G : jx_Gv) : jx_mo (jb_148_21 G).1 := trivial
def jb_148_24 (G : jx_Gv) : jx_B := ([jo_aload 0, jo_iload 4], .inr (.inr (.inr (.inl (47, 2, 30, some 7)))))
theorem jm_148_24 (G : jx_Gv) : jx_mo (jb_148_24 G).1 := ⟨mo_aload _, mo_iload _, trivial⟩
def jb_148_30 (G : jx_Gv) : jx_B := ([jo_const (.int (8 : Int32))], .inl (jc_ii (fun x y => decide (¬ x = y)), 89, 35))
theorem jm_148_30 (G : jx_Gv) : jx_mo (jb_148_30 G).1 := ⟨mo_const _, trivial⟩
def jb_148_35 (G : jx_Gv) : jx_B := ([jo_aload 0, jo_iload 4], .inr (.inr (.inr (.inl (122, 2, 41, some 7)))))
theorem jm_148_35 (G : jx_Gv) : jx_mo (jb_148_35 G).1 := ⟨mo_aload _, mo_iload _, trivial⟩
def jb_148_41 (G : jx_Gv) : jx_B := ([jo_iload 2], .inl (jc_ii (fun x y => decide (¬ x = y)), 89, 45))
theorem jm_148_41 (G : jx_Gv) : jx_mo (jb_148_41 G).1 := ⟨mo_iload _, trivial⟩
def jb_148_45 (G : jx_Gv) : jx_B := ([jo_aload 0, jo_const (.int (8 : Int32)), jo_iload 1, jo_aload 0, jo_iload 4, jo_const (.int (1 : Int32))], .inr (.inr (.inr (.inl (64, 3, 56, some 7)))))
theorem jm_148_45 (G : jx_Gv) : jx_mo (jb_148_45 G).1 := ⟨mo_aload _, mo_const _, mo_iload _, mo_aload _, mo_iload _, mo_const _, trivial⟩
def jb_148_56 (G : jx_Gv) : jx_B := ([], .inr (.inr (.inr (.inl (66, 4, 59, some 7)))))
theorem jm_148_56 (G : jx_Gv) : jx_mo (jb_148_56 G).1 := trivial
def jb_148_59 (G : jx_Gv) : jx_B := ([jo_istore 5, jo_aload 0, jo_iload 5, jo_iload 4], .inr (.inr (.inr (.inl (147, 3, 69, none)))))
theorem jm_148_59 (G : jx_Gv) : jx_mo (jb_148_59 G).1 := ⟨mo_istore _, mo_aload _, mo_iload _, mo_iload _, trivial⟩
def jb_148_69 (G : jx_Gv) : jx_B := ([jo_istore 6, jo_iload 6], .inl (jc_i (fun x => decide (x = 0)), 89, 76))
theorem jm_148_69 (G : jx_Gv) : jx_mo (jb_148_69 G).1 := ⟨mo_istore _, mo_iload _, trivial⟩
def jb_148_76 (G : jx_Gv) : jx_B := ([jo_iload 3], .inl (jc_i (fun x => decide (x = 0)), 86, 80))
theorem jm_148_76 (G : jx_Gv) : jx_mo (jb_148_76 G).1 := ⟨mo_iload _, trivial⟩
def jb_148_80 (G : jx_Gv) : jx_B := ([jo_iload 6, jo_iload 3], .inl (jc_ii (fun x y => decide (y ≤ x)), 89, 86))
theorem jm_148_80 (G : jx_Gv) : jx_mo (jb_148_80 G).1 := ⟨mo_iload _, mo_iload _, trivial⟩
def jb_148_86 (G : jx_Gv) : jx_B := ([jo_iload 6, jo_istore 3], .inr (.inl 89))
theorem jm_148_86 (G : jx_Gv) : jx_mo (jb_148_86 G).1 := ⟨mo_iload _, mo_istore _, trivial⟩
def jb_148_89 (G : jx_Gv) : jx_B := ([jo_iinc 4 (1 : Int32)], .inr (.inl 15))
theorem jm_148_89 (G : jx_Gv) : jx_mo (jb_148_89 G).1 := ⟨mo_iinc _ _, trivial⟩
def jb_148_95 (G : jx_Gv) : jx_B := ([jo_iload 3], .inr (.inr (.inr (.inr jr_i))))
theorem jm_148_95 (G : jx_Gv) : jx_mo (jb_148_95 G).1 := ⟨mo_iload _, trivial⟩
def jbs_148 (G : jx_Gv) : List (Nat × jx_B) := [(0, jb_148_0 G), (4, jb_148_4 G), (8, jb_148_8 G), (10, jb_148_10 G), (15, jb_148_15 G), (21, jb_148_21 G), (24, jb_148_24 G), (30, jb_148_30 G), (35, jb_148_35 G), (41, jb_148_41 G), (45, jb_148_45 G), (56, jb_148_56 G), (59, jb_148_59 G), (69, jb_148_69 G), (76, jb_148_76 G), (80, jb_148_80 G), (86, jb_148_86 G), (89, jb_148_89 G), (95, jb_148_95 G)]
theorem jms_148 (G : jx_Gv) : ∀ e ∈ jbs_148 G, jx_mo e.2.1 := List.forall_mem_cons.mpr ⟨jm_148_0 G, List.forall_mem_cons.mpr ⟨jm_148_4 G, List.forall_mem_cons.mpr ⟨jm_148_8 G, List.forall_mem_cons.mpr ⟨jm_148_10 G, List.forall_mem_cons.mpr ⟨jm_148_15 G, List.forall_mem_cons.mpr ⟨jm_148_21 G, List.forall_mem_cons.mpr ⟨jm_148_24 G, List.forall_mem_cons.mpr ⟨jm_148_30 G, List.forall_mem_cons.mpr ⟨jm_148_35 G, List.forall_mem_cons.mpr ⟨jm_148_41 G, List.forall_mem_cons.mpr ⟨jm_148_45 G, List.forall_mem_cons.mpr ⟨jm_148_56 G, List.forall_mem_cons.mpr ⟨jm_148_59 G, List.forall_mem_cons.mpr ⟨jm_148_69 G, List.forall_mem_cons.mpr ⟨jm_148_76 G, List.forall_mem_cons.mpr ⟨jm_148_80 G, List.forall_mem_cons.mpr ⟨jm_148_86 G, List.forall_mem_cons.mpr ⟨jm_148_89 G, List.forall_mem_cons.mpr ⟨jm_148_95 G, fun _ h => absurd h List.not_mem_nil⟩⟩⟩⟩⟩⟩⟩⟩⟩⟩⟩⟩⟩⟩⟩⟩⟩⟩⟩
def jb_149_0 (G : jx_Gv) : jx_B := ([jo_aload 0, jo_iload 1, jo_const (.int (5 : Int32))], .inr (.inr (.inr (.inl (64, 3, 6, some 7)))))
theorem jm_149_0 (G : jx_Gv) : jx_mo (jb_149_0 G).1 := ⟨mo_aload _, mo_iload _, mo_const _, trivial⟩
def jb_149_6 (G : jx_Gv) : jx_B := ([jo_istore 2, jo_aload 0, jo_iload 1, jo_const (.int (7 : Int32))], .inr (.inr (.inr (.inl (64, 3, 14, some 7)))))
theorem jm_149_6 (G : jx_Gv) : jx_mo (jb_149_6 G).1 := ⟨mo_istore _, mo_aload _, mo_iload _, mo_const _, trivial⟩
def jb_149_14 (G : jx_Gv) : jx_B := ([jo_istore 3, jo_const (.int (1 : Int32)), jo_istore 4], .inr (.inl 18))
theorem jm_149_14 (G : jx_Gv) : jx_mo (jb_149_14 G).1 := ⟨mo_istore _, mo_const _, mo_istore _, trivial⟩
def jb_149_18 (G : jx_Gv) : jx_B := ([jo_iload 4, jo_iload 1], .inl (jc_ii (fun x y => decide (y ≤ x)), 81, 24))
theorem jm_149_18 (G : jx_Gv) : jx_mo (jb_149_18 G).1 := ⟨mo_iload _, mo_iload _, trivial⟩
def jb_149_24 (G : jx_Gv) : jx_B := ([jo_aload 0, jo_iload 4], .inr (.inr (.inr (.inl (47, 2, 30, some 7)))))
theorem jm_149_24 (G : jx_Gv) : jx_mo (jb_149_24 G).1 := ⟨mo_aload _, mo_iload _, trivial⟩
def jb_149_30 (G : jx_Gv) : jx_B := ([jo_const (.int (16384 : Int32))], .inl (jc_ii (fun x y => decide (¬ x = y)), 75, 36))
theorem jm_149_30 (G : jx_Gv) : jx_mo (jb_149_30 G).1 := ⟨mo_const _, trivial⟩
def jb_149_36 (G : jx_Gv) : jx_B := ([jo_aload 0, jo_iload 4], .inr (.inr (.inr (.inl (122, 2, 42, some 7)))))
theorem jm_149_36 (G : jx_Gv) : jx_mo (jb_149_36 G).1 := ⟨mo_aload _, mo_iload _, trivial⟩
def jb_149_42 (G : jx_Gv) : jx_B := ([jo_aload 0, jo_iload 1], .inr (.inr (.inr (.inl (122, 2, 47, some 7)))))
theorem jm_149_42 (G : jx_Gv) : jx_mo (jb_149_42 G).1 := ⟨mo_aload _, mo_iload _, trivial⟩
def jb_149_47 (G : jx_Gv) : jx_B := ([], .inl (jc_ii (fun x y => decide (¬ x = y)), 75, 50))
theorem jm_149_47 (G : jx_Gv) : jx_mo (jb_149_47 G).1 := trivial
def jb_149_50 (G : jx_Gv) : jx_B := ([jo_aload 0, jo_iload 4, jo_const (.int (5 : Int32))], .inr (.inr (.inr (.inl (64, 3, 57, some 7)))))
theorem jm_149_50 (G : jx_Gv) : jx_mo (jb_149_50 G).1 := ⟨mo_aload _, mo_iload _, mo_const _, trivial⟩
def jb_149_57 (G : jx_Gv) : jx_B := ([jo_iload 2], .inl (jc_ii (fun x y => decide (¬ x = y)), 75, 61))
theorem jm_149_57 (G : jx_Gv) : jx_mo (jb_149_57 G).1 := ⟨mo_iload _, trivial⟩
def jb_149_61 (G : jx_Gv) : jx_B := ([jo_aload 0, jo_iload 4, jo_const (.int (7 : Int32))], .inr (.inr (.inr (.inl (64, 3, 69, some 7)))))
theorem jm_149_61 (G : jx_Gv) : jx_mo (jb_149_61 G).1 := ⟨mo_aload _, mo_iload _, mo_const _, trivial⟩
def jb_149_69 (G : jx_Gv) : jx_B := ([jo_iload 3], .inl (jc_ii (fun x y => decide (¬ x = y)), 75, 73))
theorem jm_149_69 (G : jx_Gv) : jx_mo (jb_149_69 G).1 := ⟨mo_iload _, trivial⟩
def jb_149_73 (G : jx_Gv) : jx_B := ([jo_const (.int (1 : Int32))], .inr (.inr (.inr (.inr jr_z))))
theorem jm_149_73 (G : jx_Gv) : jx_mo (jb_149_73 G).1 := ⟨mo_const _, trivial⟩
def jb_149_75 (G : jx_Gv) : jx_B := ([jo_iinc 4 (1 : Int32)], .inr (.inl 18))
theorem jm_149_75 (G : jx_Gv) : jx_mo (jb_149_75 G).1 := ⟨mo_iinc _ _, trivial⟩
def jb_149_81 (G : jx_Gv) : jx_B := ([jo_const (.int (0 : Int32))], .inr (.inr (.inr (.inr jr_z))))
theorem jm_149_81 (G : jx_Gv) : jx_mo (jb_149_81 G).1 := ⟨mo_const _, trivial⟩
def jbs_149 (G : jx_Gv) : List (Nat × jx_B) := [(0, jb_149_0 G), (6, jb_149_6 G), (14, jb_149_14 G), (18, jb_149_18 G), (24, jb_149_24 G), (30, jb_149_30 G), (36, jb_149_36 G), (42, jb_149_42 G), (47, jb_149_47 G), (50, jb_149_50 G), (57, jb_149_57 G), (61, jb_149_61 G), (69, jb_149_69 G), (73, jb_149_73 G), (75, jb_149_75 G), (81, jb_149_81 G)]
theorem jms_149 (G : jx_Gv) : ∀ e ∈ jbs_149 G, jx_mo e.2.1 := List.forall_mem_cons.mpr ⟨jm_149_0 G, List.forall_mem_cons.mpr ⟨jm_149_6 G, List.forall_mem_cons.mpr ⟨jm_149_14 G, List.forall_mem_cons.mpr ⟨jm_149_18 G, List.forall_mem_cons.mpr ⟨jm_149_24 G, List.forall_mem_cons.mpr ⟨jm_149_30 G, List.forall_mem_cons.mpr ⟨jm_149_36 G, List.forall_mem_cons.mpr ⟨jm_149_42 G, List.forall_mem_cons.mpr ⟨jm_149_47 G, List.forall_mem_cons.mpr ⟨jm_149_50 G, List.forall_mem_cons.mpr ⟨jm_149_57 G, List.forall_mem_cons.mpr ⟨jm_149_61 G, List.forall_mem_cons.mpr ⟨jm_149_69 G, List.forall_mem_cons.mpr ⟨jm_149_73 G, List.forall_mem_cons.mpr ⟨jm_149_75 G, List.forall_mem_cons.mpr ⟨jm_149_81 G, fun _ h => absurd h List.not_mem_nil⟩⟩⟩⟩⟩⟩⟩⟩⟩⟩⟩⟩⟩⟩⟩⟩
def jb_150_0 (G : jx_Gv) : jx_B := ([jo_aload 0, jo_iload 1, jo_const (.int (1 : Int32))], .inr (.inr (.inr (.inl (131, 3, 6, some 7)))))
theorem jm_150_0 (G : jx_Gv) : jx_mo (jb_150_0 G).1 := ⟨mo_aload _, mo_iload _, mo_const _, trivial⟩
def jb_150_6 (G : jx_Gv) : jx_B := ([jo_istore 2, jo_aload 0, jo_iload 1, jo_const (.int (5 : Int32))], .inr (.inr (.inr (.inl (131, 3, 13, some 7)))))
theorem jm_150_6 (G : jx_Gv) : jx_mo (jb_150_6 G).1 := ⟨mo_istore _, mo_aload _, mo_iload _, mo_const _, trivial⟩
def jb_150_13 (G : jx_Gv) : jx_B := ([jo_istore 3, jo_aload 0, jo_iload 1, jo_const (.int (1 : Int32)), jo_iload 2], .inr (.inr (.inr (.inl (133, 4, 21, some 7)))))
theorem jm_150_13 (G : jx_Gv) : jx_mo (jb_150_13 G).1 := ⟨mo_istore _, mo_aload _, mo_iload _, mo_const _, mo_iload _, trivial⟩
def jb_150_21 (G : jx_Gv) : jx_B := ([jo_istore 4, jo_aload 0, jo_iload 1, jo_const (.int (5 : Int32)), jo_iload 3], .inr (.inr (.inr (.inl (133, 4, 30, some 7)))))
theorem jm_150_21 (G : jx_Gv) : jx_mo (jb_150_21 G).1 := ⟨mo_istore _, mo_aload _, mo_iload _, mo_const _, mo_iload _, trivial⟩
def jb_150_30 (G : jx_Gv) : jx_B := ([jo_istore 5, jo_aload 0, jo_iload 2, jo_iload 4], .inr (.inr (.inr (.inl (145, 3, 39, none)))))
theorem jm_150_30 (G : jx_Gv) : jx_mo (jb_150_30 G).1 := ⟨mo_istore _, mo_aload _, mo_iload _, mo_iload _, trivial⟩
def jb_150_39 (G : jx_Gv) : jx_B := ([], .inl (jc_i (fun x => decide (¬ x = 0)), 52, 42))
theorem jm_150_39 (G : jx_Gv) : jx_mo (jb_150_39 G).1 := trivial
def jb_150_42 (G : jx_Gv) : jx_B := ([jo_aload 0, jo_iload 3, jo_iload 5], .inr (.inr (.inr (.inl (145, 3, 49, none)))))
theorem jm_150_42 (G : jx_Gv) : jx_mo (jb_150_42 G).1 := ⟨mo_aload _, mo_iload _, mo_iload _, trivial⟩
def jb_150_49 (G : jx_Gv) : jx_B := ([], .inl (jc_i (fun x => decide (x = 0)), 54, 52))
theorem jm_150_49 (G : jx_Gv) : jx_mo (jb_150_49 G).1 := trivial
def jb_150_52 (G : jx_Gv) : jx_B := ([jo_const (.int (2 : Int32))], .inr (.inr (.inr (.inr jr_i))))
theorem jm_150_52 (G : jx_Gv) : jx_mo (jb_150_52 G).1 := ⟨mo_const _, trivial⟩
def jb_150_54 (G : jx_Gv) : jx_B := ([jo_aload 0, jo_iload 4], .inr (.inr (.inr (.inl (47, 2, 60, some 7)))))
theorem jm_150_54 (G : jx_Gv) : jx_mo (jb_150_54 G).1 := ⟨mo_aload _, mo_iload _, trivial⟩
def jb_150_60 (G : jx_Gv) : jx_B := ([jo_const (.int (64 : Int32))], .inl (jc_ii (fun x y => decide (x = y)), 76, 65))
theorem jm_150_60 (G : jx_Gv) : jx_mo (jb_150_60 G).1 := ⟨mo_const _, trivial⟩
def jb_150_65 (G : jx_Gv) : jx_B := ([jo_aload 0, jo_iload 5], .inr (.inr (.inr (.inl (47, 2, 71, some 7)))))
theorem jm_150_65 (G : jx_Gv) : jx_mo (jb_150_65 G).1 := ⟨mo_aload _, mo_iload _, trivial⟩
def jb_150_71 (G : jx_Gv) : jx_B := ([jo_const (.int (32 : Int32))], .inl (jc_ii (fun x y => decide (¬ x = y)), 78, 76))
theorem jm_150_71 (G : jx_Gv) : jx_mo (jb_150_71 G).1 := ⟨mo_const _, trivial⟩
def jb_150_76 (G : jx_Gv) : jx_B := ([jo_const (.int (5 : Int32))], .inr (.inr (.inr (.inr jr_i))))
theorem jm_150_76 (G : jx_Gv) : jx_mo (jb_150_76 G).1 := ⟨mo_const _, trivial⟩
def jb_150_78 (G : jx_Gv) : jx_B := ([jo_aload 0, jo_aload 0, jo_iload 4], .inr (.inr (.inr (.inl (113, 2, 85, some 7)))))
theorem jm_150_78 (G : jx_Gv) : jx_mo (jb_150_78 G).1 := ⟨mo_aload _, mo_aload _, mo_iload _, trivial⟩
def jb_150_85 (G : jx_Gv) : jx_B := ([jo_aload 0, jo_iload 5], .inr (.inr (.inr (.inl (113, 2, 91, some 7)))))
theorem jm_150_85 (G : jx_Gv) : jx_mo (jb_150_85 G).1 := ⟨mo_aload _, mo_iload _, trivial⟩
def jb_150_91 (G : jx_Gv) : jx_B := ([], .inr (.inr (.inr (.inl (148, 3, 94, none)))))
theorem jm_150_91 (G : jx_Gv) : jx_mo (jb_150_91 G).1 := trivial
def jb_150_94 (G : jx_Gv) : jx_B := ([jo_istore 6, jo_iload 6], .inl (jc_i (fun x => decide (x = 0)), 104, 101))
theorem jm_150_94 (G : jx_Gv) : jx_mo (jb_150_94 G).1 := ⟨mo_istore _, mo_iload _, trivial⟩
def jb_150_101 (G : jx_Gv) : jx_B := ([jo_iload 6], .inr (.inr (.inr (.inr jr_i))))
theorem jm_150_101 (G : jx_Gv) : jx_mo (jb_150_101 G).1 := ⟨mo_iload _, trivial⟩
def jb_150_104 (G : jx_Gv) : jx_B := ([jo_iload 5], .inl (jc_i (fun x => decide (x = 0)), 122, 109))
theorem jm_150_104 (G : jx_Gv) : jx_mo (jb_150_104 G).1 := ⟨mo_iload _, trivial⟩
def jb_150_109 (G : jx_Gv) : jx_B := ([jo_aload 0, jo_iload 1], .inr (.inr (.inr (.inl (149, 2, 114, none)))))
theorem jm_150_109 (G : jx_Gv) : jx_mo (jb_150_109 G).1 := ⟨mo_aload _, mo_iload _, trivial⟩
def jb_150_114 (G : jx_Gv) : jx_B := ([], .inl (jc_i (fun x => decide (x = 0)), 122, 117))
theorem jm_150_114 (G : jx_Gv) : jx_mo (jb_150_114 G).1 := trivial
def jb_150_117 (G : jx_Gv) : jx_B := ([jo_const (.int (9 : Int32))], .inr (.inl 123))
theorem jm_150_117 (G : jx_Gv) : jx_mo (jb_150_117 G).1 := ⟨mo_const _, trivial⟩
def jb_150_122 (G : jx_Gv) : jx_B := ([jo_const (.int (0 : Int32))], .inr (.inl 123))
theorem jm_150_122 (G : jx_Gv) : jx_mo (jb_150_122 G).1 := ⟨mo_const _, trivial⟩
def jb_150_123 (G : jx_Gv) : jx_B := ([], .inr (.inr (.inr (.inr jr_i))))
theorem jm_150_123 (G : jx_Gv) : jx_mo (jb_150_123 G).1 := trivial
def jbs_150 (G : jx_Gv) : List (Nat × jx_B) := [(0, jb_150_0 G), (6, jb_150_6 G), (13, jb_150_13 G), (21, jb_150_21 G), (30, jb_150_30 G), (39, jb_150_39 G), (42, jb_150_42 G), (49, jb_150_49 G), (52, jb_150_52 G), (54, jb_150_54 G), (60, jb_150_60 G), (65, jb_150_65 G), (71, jb_150_71 G), (76, jb_150_76 G), (78, jb_150_78 G), (85, jb_150_85 G), (91, jb_150_91 G), (94, jb_150_94 G), (101, jb_150_101 G), (104, jb_150_104 G), (109, jb_150_109 G), (114, jb_150_114 G), (117, jb_150_117 G), (122, jb_150_122 G), (123, jb_150_123 G)]
theorem jms_150 (G : jx_Gv) : ∀ e ∈ jbs_150 G, jx_mo e.2.1 := List.forall_mem_cons.mpr ⟨jm_150_0 G, List.forall_mem_cons.mpr ⟨jm_150_6 G, List.forall_mem_cons.mpr ⟨jm_150_13 G, List.forall_mem_cons.mpr ⟨jm_150_21 G, List.forall_mem_cons.mpr ⟨jm_150_30 G, List.forall_mem_cons.mpr ⟨jm_150_39 G, List.forall_mem_cons.mpr ⟨jm_150_42 G, List.forall_mem_cons.mpr ⟨jm_150_49 G, List.forall_mem_cons.mpr ⟨jm_150_52 G, List.forall_mem_cons.mpr ⟨jm_150_54 G, List.forall_mem_cons.mpr ⟨jm_150_60 G, List.forall_mem_cons.mpr ⟨jm_150_65 G, List.forall_mem_cons.mpr ⟨jm_150_71 G, List.forall_mem_cons.mpr ⟨jm_150_76 G, List.forall_mem_cons.mpr ⟨jm_150_78 G, List.forall_mem_cons.mpr ⟨jm_150_85 G, List.forall_mem_cons.mpr ⟨jm_150_91 G, List.forall_mem_cons.mpr ⟨jm_150_94 G, List.forall_mem_cons.mpr ⟨jm_150_101 G, List.forall_mem_cons.mpr ⟨jm_150_104 G, List.forall_mem_cons.mpr ⟨jm_150_109 G, List.forall_mem_cons.mpr ⟨jm_150_114 G, List.forall_mem_cons.mpr ⟨jm_150_117 G, List.forall_mem_cons.mpr ⟨jm_150_122 G, List.forall_mem_cons.mpr ⟨jm_150_123 G, fun _ h => absurd h List.not_mem_nil⟩⟩⟩⟩⟩⟩⟩⟩⟩⟩⟩⟩⟩⟩⟩⟩⟩⟩⟩⟩⟩⟩⟩⟩⟩
def jb_151_0 (G : jx_Gv) : jx_B := ([jo_aload 1, jo_iload 2], .inr (.inr (.inr (.inl (138, 2, 5, none)))))
theorem jm_151_0 (G : jx_Gv) : jx_mo (jb_151_0 G).1 := ⟨mo_aload _, mo_iload _, trivial⟩
def jb_151_5 (G : jx_Gv) : jx_B := ([], .inl (jc_i (fun x => decide (x = 0)), 10, 8))
theorem jm_151_5 (G : jx_Gv) : jx_mo (jb_151_5 G).1 := trivial
def jb_151_8 (G : jx_Gv) : jx_B := ([jo_const (.int (1 : Int32))], .inr (.inr (.inr (.inr jr_i))))
theorem jm_151_8 (G : jx_Gv) : jx_mo (jb_151_8 G).1 := ⟨mo_const _, trivial⟩
def jb_151_10 (G : jx_Gv) : jx_B := ([jo_aload 1, jo_iload 2], .inr (.inr (.inr (.inl (47, 2, 15, some 7)))))
theorem jm_151_10 (G : jx_Gv) : jx_mo (jb_151_10 G).1 := ⟨mo_aload _, mo_iload _, trivial⟩
def jb_151_15 (G : jx_Gv) : jx_B := ([], .inr (.inr (.inl (jx_sw [((2 : Int32), 88), ((8 : Int32), 94), ((32 : Int32), 94), ((64 : Int32), 94), ((128 : Int32), 94), ((256 : Int32), 108), ((16384 : Int32), 121), ((65536 : Int32), 114)] 127))))
theorem jm_151_15 (G : jx_Gv) : jx_mo (jb_151_15 G).1 := trivial
def jb_151_88 (G : jx_Gv) : jx_B := ([jo_aload 1, jo_iload 2], .inr (.inr (.inr (.inl (139, 2, 93, none)))))
theorem jm_151_88 (G : jx_Gv) : jx_mo (jb_151_88 G).1 := ⟨mo_aload _, mo_iload _, trivial⟩
def jb_151_93 (G : jx_Gv) : jx_B := ([], .inr (.inr (.inr (.inr jr_i))))
theorem jm_151_93 (G : jx_Gv) : jx_mo (jb_151_93 G).1 := trivial
def jb_151_94 (G : jx_Gv) : jx_B := ([jo_aload 1, jo_iload 2], .inr (.inr (.inr (.inl (113, 2, 99, some 7)))))
theorem jm_151_94 (G : jx_Gv) : jx_mo (jb_151_94 G).1 := ⟨mo_aload _, mo_iload _, trivial⟩
def jb_151_99 (G : jx_Gv) : jx_B := ([], .inl (jc_i (fun x => decide (¬ x = 0)), 106, 102))
theorem jm_151_99 (G : jx_Gv) : jx_mo (jb_151_99 G).1 := trivial
def jb_151_102 (G : jx_Gv) : jx_B := ([jo_const (.int (2 : Int32))], .inr (.inl 107))
theorem jm_151_102 (G : jx_Gv) : jx_mo (jb_151_102 G).1 := ⟨mo_const _, trivial⟩
def jb_151_106 (G : jx_Gv) : jx_B := ([jo_const (.int (0 : Int32))], .inr (.inl 107))
theorem jm_151_106 (G : jx_Gv) : jx_mo (jb_151_106 G).1 := ⟨mo_const _, trivial⟩
def jb_151_107 (G : jx_Gv) : jx_B := ([], .inr (.inr (.inr (.inr jr_i))))
theorem jm_151_107 (G : jx_Gv) : jx_mo (jb_151_107 G).1 := trivial
def jb_151_108 (G : jx_Gv) : jx_B := ([jo_aload 1, jo_iload 2], .inr (.inr (.inr (.inl (141, 2, 113, none)))))
theorem jm_151_108 (G : jx_Gv) : jx_mo (jb_151_108 G).1 := ⟨mo_aload _, mo_iload _, trivial⟩
def jb_151_113 (G : jx_Gv) : jx_B := ([], .inr (.inr (.inr (.inr jr_i))))
theorem jm_151_113 (G : jx_Gv) : jx_mo (jb_151_113 G).1 := trivial
def jb_151_114 (G : jx_Gv) : jx_B := ([jo_aload 0, jo_aload 1, jo_iload 2], .inr (.inr (.inr (.inl (144, 3, 120, some 6)))))
theorem jm_151_114 (G : jx_Gv) : jx_mo (jb_151_114 G).1 := ⟨mo_aload _, mo_aload _, mo_iload _, trivial⟩
def jb_151_120 (G : jx_Gv) : jx_B := ([], .inr (.inr (.inr (.inr jr_i))))
theorem jm_151_120 (G : jx_Gv) : jx_mo (jb_151_120 G).1 := trivial
def jb_151_121 (G : jx_Gv) : jx_B := ([jo_aload 1, jo_iload 2], .inr (.inr (.inr (.inl (150, 2, 126, none)))))
theorem jm_151_121 (G : jx_Gv) : jx_mo (jb_151_121 G).1 := ⟨mo_aload _, mo_iload _, trivial⟩
def jb_151_126 (G : jx_Gv) : jx_B := ([], .inr (.inr (.inr (.inr jr_i))))
theorem jm_151_126 (G : jx_Gv) : jx_mo (jb_151_126 G).1 := trivial
def jb_151_127 (G : jx_Gv) : jx_B := ([jo_const (.int (0 : Int32))], .inr (.inr (.inr (.inr jr_i))))
theorem jm_151_127 (G : jx_Gv) : jx_mo (jb_151_127 G).1 := ⟨mo_const _, trivial⟩
def jbs_151 (G : jx_Gv) : List (Nat × jx_B) := [(0, jb_151_0 G), (5, jb_151_5 G), (8, jb_151_8 G), (10, jb_151_10 G), (15, jb_151_15 G), (88, jb_151_88 G), (93, jb_151_93 G), (94, jb_151_94 G), (99, jb_151_99 G), (102, jb_151_102 G), (106, jb_151_106 G), (107, jb_151_107 G), (108, jb_151_108 G), (113, jb_151_113 G), (114, jb_151_114 G), (120, jb_151_120 G), (121, jb_151_121 G), (126, jb_151_126 G), (127, jb_151_127 G)]
theorem jms_151 (G : jx_Gv) : ∀ e ∈ jbs_151 G, jx_mo e.2.1 := List.forall_mem_cons.mpr ⟨jm_151_0 G, List.forall_mem_cons.mpr ⟨jm_151_5 G, List.forall_mem_cons.mpr ⟨jm_151_8 G, List.forall_mem_cons.mpr ⟨jm_151_10 G, List.forall_mem_cons.mpr ⟨jm_151_15 G, List.forall_mem_cons.mpr ⟨jm_151_88 G, List.forall_mem_cons.mpr ⟨jm_151_93 G, List.forall_mem_cons.mpr ⟨jm_151_94 G, List.forall_mem_cons.mpr ⟨jm_151_99 G, List.forall_mem_cons.mpr ⟨jm_151_102 G, List.forall_mem_cons.mpr ⟨jm_151_106 G, List.forall_mem_cons.mpr ⟨jm_151_107 G, List.forall_mem_cons.mpr ⟨jm_151_108 G, List.forall_mem_cons.mpr ⟨jm_151_113 G, List.forall_mem_cons.mpr ⟨jm_151_114 G, List.forall_mem_cons.mpr ⟨jm_151_120 G, List.forall_mem_cons.mpr ⟨jm_151_121 G, List.forall_mem_cons.mpr ⟨jm_151_126 G, List.forall_mem_cons.mpr ⟨jm_151_127 G, fun _ h => absurd h List.not_mem_nil⟩⟩⟩⟩⟩⟩⟩⟩⟩⟩⟩⟩⟩⟩⟩⟩⟩⟩⟩
def jb_152_0 (G : jx_Gv) : jx_B := ([jo_const (.int (1 : Int32)), jo_istore 2], .inr (.inl 2))
theorem jm_152_0 (G : jx_Gv) : jx_mo (jb_152_0 G).1 := ⟨mo_const _, mo_istore _, trivial⟩
def jb_152_2 (G : jx_Gv) : jx_B := ([jo_iload 2, jo_aload 1], .inr (.inr (.inr (.inl (42, 1, 7, some 7)))))
theorem jm_152_2 (G : jx_Gv) : jx_mo (jb_152_2 G).1 := ⟨mo_iload _, mo_aload _, trivial⟩
def jb_152_7 (G : jx_Gv) : jx_B := ([], .inl (jc_ii (fun x y => decide (y < x)), 34, 10))
theorem jm_152_7 (G : jx_Gv) : jx_mo (jb_152_7 G).1 := trivial
def jb_152_10 (G : jx_Gv) : jx_B := ([jo_aload 0, jo_aload 1, jo_iload 2], .inr (.inr (.inr (.inl (151, 3, 16, some 6)))))
theorem jm_152_10 (G : jx_Gv) : jx_mo (jb_152_10 G).1 := ⟨mo_aload _, mo_aload _, mo_iload _, trivial⟩
def jb_152_16 (G : jx_Gv) : jx_B := ([jo_istore 3, jo_iload 3], .inl (jc_i (fun x => decide (x = 0)), 28, 21))
theorem jm_152_16 (G : jx_Gv) : jx_mo (jb_152_16 G).1 := ⟨mo_istore _, mo_iload _, trivial⟩
def jb_152_21 (G : jx_Gv) : jx_B := ([jo_iload 2, jo_const (.int (100 : Int32)), jo_ii (· * ·), jo_iload 3, jo_ii (· + ·)], .inr (.inr (.inr (.inr jr_i))))
theorem jm_152_21 (G : jx_Gv) : jx_mo (jb_152_21 G).1 := ⟨mo_iload _, mo_const _, mo_ii _, mo_iload _, mo_ii _, trivial⟩
def jb_152_28 (G : jx_Gv) : jx_B := ([jo_iinc 2 (1 : Int32)], .inr (.inl 2))
theorem jm_152_28 (G : jx_Gv) : jx_mo (jb_152_28 G).1 := ⟨mo_iinc _ _, trivial⟩
def jb_152_34 (G : jx_Gv) : jx_B := ([jo_const (.int (0 : Int32))], .inr (.inr (.inr (.inr jr_i))))
theorem jm_152_34 (G : jx_Gv) : jx_mo (jb_152_34 G).1 := ⟨mo_const _, trivial⟩
def jbs_152 (G : jx_Gv) : List (Nat × jx_B) := [(0, jb_152_0 G), (2, jb_152_2 G), (7, jb_152_7 G), (10, jb_152_10 G), (16, jb_152_16 G), (21, jb_152_21 G), (28, jb_152_28 G), (34, jb_152_34 G)]
theorem jms_152 (G : jx_Gv) : ∀ e ∈ jbs_152 G, jx_mo e.2.1 := List.forall_mem_cons.mpr ⟨jm_152_0 G, List.forall_mem_cons.mpr ⟨jm_152_2 G, List.forall_mem_cons.mpr ⟨jm_152_7 G, List.forall_mem_cons.mpr ⟨jm_152_10 G, List.forall_mem_cons.mpr ⟨jm_152_16 G, List.forall_mem_cons.mpr ⟨jm_152_21 G, List.forall_mem_cons.mpr ⟨jm_152_28 G, List.forall_mem_cons.mpr ⟨jm_152_34 G, fun _ h => absurd h List.not_mem_nil⟩⟩⟩⟩⟩⟩⟩⟩
def jb_153_0 (G : jx_Gv) : jx_B := ([jo_aload 0], .inr (.inr (.inr (.inl (106, 1, 4, some 0)))))
theorem jm_153_0 (G : jx_Gv) : jx_mo (jb_153_0 G).1 := ⟨mo_aload _, trivial⟩
def jb_153_4 (G : jx_Gv) : jx_B := ([jo_astore 1, jo_aload 1], .inl (jc_nonn, 14, 9))
theorem jm_153_4 (G : jx_Gv) : jx_mo (jb_153_4 G).1 := ⟨mo_astore _, mo_aload _, trivial⟩
def jb_153_9 (G : jx_Gv) : jx_B := ([jo_const (.int (-3 : Int32))], .inr (.inl 22))
theorem jm_153_9 (G : jx_Gv) : jx_mo (jb_153_9 G).1 := ⟨mo_const _, trivial⟩
def jb_153_14 (G : jx_Gv) : jx_B := ([jo_aload 0, jo_getA 0 3, jo_aload 1], .inr (.inr (.inr (.inl (152, 2, 22, some 6)))))
theorem jm_153_14 (G : jx_Gv) : jx_mo (jb_153_14 G).1 := ⟨mo_aload _, mo_getA _ _, mo_aload _, trivial⟩
def jb_153_22 (G : jx_Gv) : jx_B := ([], .inr (.inr (.inr (.inr jr_i))))
theorem jm_153_22 (G : jx_Gv) : jx_mo (jb_153_22 G).1 := trivial
def jbs_153 (G : jx_Gv) : List (Nat × jx_B) := [(0, jb_153_0 G), (4, jb_153_4 G), (9, jb_153_9 G), (14, jb_153_14 G), (22, jb_153_22 G)]
theorem jms_153 (G : jx_Gv) : ∀ e ∈ jbs_153 G, jx_mo e.2.1 := List.forall_mem_cons.mpr ⟨jm_153_0 G, List.forall_mem_cons.mpr ⟨jm_153_4 G, List.forall_mem_cons.mpr ⟨jm_153_9 G, List.forall_mem_cons.mpr ⟨jm_153_14 G, List.forall_mem_cons.mpr ⟨jm_153_22 G, fun _ h => absurd h List.not_mem_nil⟩⟩⟩⟩⟩
def jb_154_0 (G : jx_Gv) : jx_B := ([jo_aload 0, jo_getA 8 36, jo_iload 1, jo_iald 0], .inl (jc_i (fun x => decide (¬ x = 0)), 11, 9))
theorem jm_154_0 (G : jx_Gv) : jx_mo (jb_154_0 G).1 := ⟨mo_aload _, mo_getA _ _, mo_iload _, mo_iald _, trivial⟩
def jb_154_9 (G : jx_Gv) : jx_B := ([jo_const (.int (0 : Int32))], .inr (.inr (.inr (.inr jr_z))))
theorem jm_154_9 (G : jx_Gv) : jx_mo (jb_154_9 G).1 := ⟨mo_const _, trivial⟩
def jb_154_11 (G : jx_Gv) : jx_B := ([jo_const (.int (0 : Int32)), jo_istore 2], .inr (.inl 13))
theorem jm_154_11 (G : jx_Gv) : jx_mo (jb_154_11 G).1 := ⟨mo_const _, mo_istore _, trivial⟩
def jb_154_13 (G : jx_Gv) : jx_B := ([jo_iload 2, jo_iload 1], .inl (jc_ii (fun x y => decide (y ≤ x)), 56, 18))
theorem jm_154_13 (G : jx_Gv) : jx_mo (jb_154_13 G).1 := ⟨mo_iload _, mo_iload _, trivial⟩
def jb_154_18 (G : jx_Gv) : jx_B := ([jo_aload 0, jo_getA 8 35, jo_iload 2, jo_iald 0, jo_aload 0, jo_getA 8 35, jo_iload 1, jo_iald 0], .inl (jc_ii (fun x y => decide (¬ x = y)), 50, 33))
theorem jm_154_18 (G : jx_Gv) : jx_mo (jb_154_18 G).1 := ⟨mo_aload _, mo_getA _ _, mo_iload _, mo_iald _, mo_aload _, mo_getA _ _, mo_iload _, mo_iald _, trivial⟩
def jb_154_33 (G : jx_Gv) : jx_B := ([jo_aload 0, jo_getA 8 36, jo_iload 2, jo_iald 0, jo_aload 0, jo_getA 8 36, jo_iload 1, jo_iald 0], .inl (jc_ii (fun x y => decide (¬ x = y)), 50, 48))
theorem jm_154_33 (G : jx_Gv) : jx_mo (jb_154_33 G).1 := ⟨mo_aload _, mo_getA _ _, mo_iload _, mo_iald _, mo_aload _, mo_getA _ _, mo_iload _, mo_iald _, trivial⟩
def jb_154_48 (G : jx_Gv) : jx_B := ([jo_const (.int (1 : Int32))], .inr (.inr (.inr (.inr jr_z))))
theorem jm_154_48 (G : jx_Gv) : jx_mo (jb_154_48 G).1 := ⟨mo_const _, trivial⟩
def jb_154_50 (G : jx_Gv) : jx_B := ([jo_iinc 2 (1 : Int32)], .inr (.inl 13))
theorem jm_154_50 (G : jx_Gv) : jx_mo (jb_154_50 G).1 := ⟨mo_iinc _ _, trivial⟩
def jb_154_56 (G : jx_Gv) : jx_B := ([jo_const (.int (0 : Int32))], .inr (.inr (.inr (.inr jr_z))))
theorem jm_154_56 (G : jx_Gv) : jx_mo (jb_154_56 G).1 := ⟨mo_const _, trivial⟩
def jbs_154 (G : jx_Gv) : List (Nat × jx_B) := [(0, jb_154_0 G), (9, jb_154_9 G), (11, jb_154_11 G), (13, jb_154_13 G), (18, jb_154_18 G), (33, jb_154_33 G), (48, jb_154_48 G), (50, jb_154_50 G), (56, jb_154_56 G)]
theorem jms_154 (G : jx_Gv) : ∀ e ∈ jbs_154 G, jx_mo e.2.1 := List.forall_mem_cons.mpr ⟨jm_154_0 G, List.forall_mem_cons.mpr ⟨jm_154_9 G, List.forall_mem_cons.mpr ⟨jm_154_11 G, List.forall_mem_cons.mpr ⟨jm_154_13 G, List.forall_mem_cons.mpr ⟨jm_154_18 G, List.forall_mem_cons.mpr ⟨jm_154_33 G, List.forall_mem_cons.mpr ⟨jm_154_48 G, List.forall_mem_cons.mpr ⟨jm_154_50 G, List.forall_mem_cons.mpr ⟨jm_154_56 G, fun _ h => absurd h List.not_mem_nil⟩⟩⟩⟩⟩⟩⟩⟩⟩
def jb_155_0 (G : jx_Gv) : jx_B := ([jo_aload 0, jo_aload 0, jo_getA 8 35, jo_iload 1, jo_iald 0, jo_aload 0, jo_getA 8 47, jo_iload 2, jo_iald 0], .inr (.inr (.inr (.inl (128, 3, 16, some 8)))))
theorem jm_155_0 (G : jx_Gv) : jx_mo (jb_155_0 G).1 := ⟨mo_aload _, mo_aload _, mo_getA _ _, mo_iload _, mo_iald _, mo_aload _, mo_getA _ _, mo_iload _, mo_iald _, trivial⟩
def jb_155_16 (G : jx_Gv) : jx_B := ([jo_istore 3, jo_aload 0, jo_iload 3], .inr (.inr (.inr (.inl (117, 2, 22, some 8)))))
theorem jm_155_16 (G : jx_Gv) : jx_mo (jb_155_16 G).1 := ⟨mo_istore _, mo_aload _, mo_iload _, trivial⟩
def jb_155_22 (G : jx_Gv) : jx_B := ([jo_istore 4, jo_iload 3], .inl (jc_i (fun x => decide (x < 0)), 50, 28))
theorem jm_155_22 (G : jx_Gv) : jx_mo (jb_155_22 G).1 := ⟨mo_istore _, mo_iload _, trivial⟩
def jb_155_28 (G : jx_Gv) : jx_B := ([jo_iload 4], .inl (jc_i (fun x => decide (x < 0)), 54, 33))
theorem jm_155_28 (G : jx_Gv) : jx_mo (jb_155_28 G).1 := ⟨mo_iload _, trivial⟩
def jb_155_33 (G : jx_Gv) : jx_B := ([jo_aload 0, jo_const (.int (9 : Int32)), jo_iload 4, jo_aload 0, jo_getA 8 48, jo_iload 2, jo_iald 0], .inr (.inr (.inr (.inl (116, 4, 47, some 8)))))
theorem jm_155_33 (G : jx_Gv) : jx_mo (jb_155_33 G).1 := ⟨mo_aload _, mo_const _, mo_iload _, mo_aload _, mo_getA _ _, mo_iload _, mo_iald _, trivial⟩
def jb_155_47 (G : jx_Gv) : jx_B := ([], .inl (jc_i (fun x => decide (0 ≤ x)), 54, 50))
theorem jm_155_47 (G : jx_Gv) : jx_mo (jb_155_47 G).1 := trivial
def jb_155_50 (G : jx_Gv) : jx_B := ([jo_const (.int (1 : Int32))], .inr (.inl 55))
theorem jm_155_50 (G : jx_Gv) : jx_mo (jb_155_50 G).1 := ⟨mo_const _, trivial⟩
def jb_155_54 (G : jx_Gv) : jx_B := ([jo_const (.int (0 : Int32))], .inr (.inl 55))
theorem jm_155_54 (G : jx_Gv) : jx_mo (jb_155_54 G).1 := ⟨mo_const _, trivial⟩
def jb_155_55 (G : jx_Gv) : jx_B := ([], .inr (.inr (.inr (.inr jr_z))))
theorem jm_155_55 (G : jx_Gv) : jx_mo (jb_155_55 G).1 := trivial
def jbs_155 (G : jx_Gv) : List (Nat × jx_B) := [(0, jb_155_0 G), (16, jb_155_16 G), (22, jb_155_22 G), (28, jb_155_28 G), (33, jb_155_33 G), (47, jb_155_47 G), (50, jb_155_50 G), (54, jb_155_54 G), (55, jb_155_55 G)]
theorem jms_155 (G : jx_Gv) : ∀ e ∈ jbs_155 G, jx_mo e.2.1 := List.forall_mem_cons.mpr ⟨jm_155_0 G, List.forall_mem_cons.mpr ⟨jm_155_16 G, List.forall_mem_cons.mpr ⟨jm_155_22 G, List.forall_mem_cons.mpr ⟨jm_155_28 G, List.forall_mem_cons.mpr ⟨jm_155_33 G, List.forall_mem_cons.mpr ⟨jm_155_47 G, List.forall_mem_cons.mpr ⟨jm_155_50 G, List.forall_mem_cons.mpr ⟨jm_155_54 G, List.forall_mem_cons.mpr ⟨jm_155_55 G, fun _ h => absurd h List.not_mem_nil⟩⟩⟩⟩⟩⟩⟩⟩⟩
def jb_156_0 (G : jx_Gv) : jx_B := ([jo_aload 0, jo_const (.int (7 : Int32)), jo_aload 0, jo_getA 8 35, jo_iload 1, jo_iald 0, jo_iload 2], .inr (.inr (.inr (.inl (116, 4, 13, some 8)))))
theorem jm_156_0 (G : jx_Gv) : jx_mo (jb_156_0 G).1 := ⟨mo_aload _, mo_const _, mo_aload _, mo_getA _ _, mo_iload _, mo_iald _, mo_iload _, trivial⟩
def jb_156_13 (G : jx_Gv) : jx_B := ([jo_istore 4, jo_aload 0, jo_iload 4], .inr (.inr (.inr (.inl (136, 2, 21, some 8)))))
theorem jm_156_13 (G : jx_Gv) : jx_mo (jb_156_13 G).1 := ⟨mo_istore _, mo_aload _, mo_iload _, trivial⟩
def jb_156_21 (G : jx_Gv) : jx_B := ([jo_istore 5, jo_iload 4], .inl (jc_i (fun x => decide (x < 0)), 43, 28))
theorem jm_156_21 (G : jx_Gv) : jx_mo (jb_156_21 G).1 := ⟨mo_istore _, mo_iload _, trivial⟩
def jb_156_28 (G : jx_Gv) : jx_B := ([jo_iload 5], .inl (jc_i (fun x => decide (x < 0)), 47, 33))
theorem jm_156_28 (G : jx_Gv) : jx_mo (jb_156_28 G).1 := ⟨mo_iload _, trivial⟩
def jb_156_33 (G : jx_Gv) : jx_B := ([jo_aload 0, jo_iload 5, jo_iload 3], .inr (.inr (.inr (.inl (128, 3, 40, some 8)))))
theorem jm_156_33 (G : jx_Gv) : jx_mo (jb_156_33 G).1 := ⟨mo_aload _, mo_iload _, mo_iload _, trivial⟩
def jb_156_40 (G : jx_Gv) : jx_B := ([], .inl (jc_i (fun x => decide (0 ≤ x)), 47, 43))
theorem jm_156_40 (G : jx_Gv) : jx_mo (jb_156_40 G).1 := trivial
def jb_156_43 (G : jx_Gv) : jx_B := ([jo_const (.int (1 : Int32))], .inr (.inl 48))
theorem jm_156_43 (G : jx_Gv) : jx_mo (jb_156_43 G).1 := ⟨mo_const _, trivial⟩
def jb_156_47 (G : jx_Gv) : jx_B := ([jo_const (.int (0 : Int32))], .inr (.inl 48))
theorem jm_156_47 (G : jx_Gv) : jx_mo (jb_156_47 G).1 := ⟨mo_const _, trivial⟩
def jb_156_48 (G : jx_Gv) : jx_B := ([], .inr (.inr (.inr (.inr jr_z))))
theorem jm_156_48 (G : jx_Gv) : jx_mo (jb_156_48 G).1 := trivial
def jbs_156 (G : jx_Gv) : List (Nat × jx_B) := [(0, jb_156_0 G), (13, jb_156_13 G), (21, jb_156_21 G), (28, jb_156_28 G), (33, jb_156_33 G), (40, jb_156_40 G), (43, jb_156_43 G), (47, jb_156_47 G), (48, jb_156_48 G)]
theorem jms_156 (G : jx_Gv) : ∀ e ∈ jbs_156 G, jx_mo e.2.1 := List.forall_mem_cons.mpr ⟨jm_156_0 G, List.forall_mem_cons.mpr ⟨jm_156_13 G, List.forall_mem_cons.mpr ⟨jm_156_21 G, List.forall_mem_cons.mpr ⟨jm_156_28 G, List.forall_mem_cons.mpr ⟨jm_156_33 G, List.forall_mem_cons.mpr ⟨jm_156_40 G, List.forall_mem_cons.mpr ⟨jm_156_43 G, List.forall_mem_cons.mpr ⟨jm_156_47 G, List.forall_mem_cons.mpr ⟨jm_156_48 G, fun _ h => absurd h List.not_mem_nil⟩⟩⟩⟩⟩⟩⟩⟩⟩
def jb_157_0 (G : jx_Gv) : jx_B := ([jo_aload 0, jo_getA 8 34, jo_iload 1, jo_iald 0], .inr (.inr (.inl (jx_sw [((2 : Int32), 64), ((3 : Int32), 228), ((4 : Int32), 228), ((5 : Int32), 228), ((6 : Int32), 85), ((7 : Int32), 106), ((8 : Int32), 106), ((9 : Int32), 85), ((10 : Int32), 134), ((11 : Int32), 120), ((12 : Int32), 182)] 228))))
theorem jm_157_0 (G : jx_Gv) : jx_mo (jb_157_0 G).1 := ⟨mo_aload _, mo_getA _ _, mo_iload _, mo_iald _, trivial⟩
def jb_157_64 (G : jx_Gv) : jx_B := ([jo_aload 0, jo_const (.int (0 : Int32)), jo_const (.int (-1 : Int32)), jo_aload 0, jo_getA 8 37, jo_iload 1, jo_iald 0], .inr (.inr (.inr (.inl (116, 4, 76, some 8)))))
theorem jm_157_64 (G : jx_Gv) : jx_mo (jb_157_64 G).1 := ⟨mo_aload _, mo_const _, mo_const _, mo_aload _, mo_getA _ _, mo_iload _, mo_iald _, trivial⟩
def jb_157_76 (G : jx_Gv) : jx_B := ([], .inl (jc_i (fun x => decide (0 ≤ x)), 83, 79))
theorem jm_157_76 (G : jx_Gv) : jx_mo (jb_157_76 G).1 := trivial
def jb_157_79 (G : jx_Gv) : jx_B := ([jo_const (.int (1 : Int32))], .inr (.inl 84))
theorem jm_157_79 (G : jx_Gv) : jx_mo (jb_157_79 G).1 := ⟨mo_const _, trivial⟩
def jb_157_83 (G : jx_Gv) : jx_B := ([jo_const (.int (0 : Int32))], .inr (.inl 84))
theorem jm_157_83 (G : jx_Gv) : jx_mo (jb_157_83 G).1 := ⟨mo_const _, trivial⟩
def jb_157_84 (G : jx_Gv) : jx_B := ([], .inr (.inr (.inr (.inr jr_z))))
theorem jm_157_84 (G : jx_Gv) : jx_mo (jb_157_84 G).1 := trivial
def jb_157_85 (G : jx_Gv) : jx_B := ([jo_aload 0, jo_const (.int (1 : Int32)), jo_const (.int (-1 : Int32)), jo_aload 0, jo_getA 8 37, jo_iload 1, jo_iald 0], .inr (.inr (.inr (.inl (116, 4, 97, some 8)))))
theorem jm_157_85 (G : jx_Gv) : jx_mo (jb_157_85 G).1 := ⟨mo_aload _, mo_const _, mo_const _, mo_aload _, mo_getA _ _, mo_iload _, mo_iald _, trivial⟩
def jb_157_97 (G : jx_Gv) : jx_B := ([], .inl (jc_i (fun x => decide (0 ≤ x)), 104, 100))
theorem jm_157_97 (G : jx_Gv) : jx_mo (jb_157_97 G).1 := trivial
def jb_157_100 (G : jx_Gv) : jx_B := ([jo_const (.int (1 : Int32))], .inr (.inl 105))
theorem jm_157_100 (G : jx_Gv) : jx_mo (jb_157_100 G).1 := ⟨mo_const _, trivial⟩
def jb_157_104 (G : jx_Gv) : jx_B := ([jo_const (.int (0 : Int32))], .inr (.inl 105))
theorem jm_157_104 (G : jx_Gv) : jx_mo (jb_157_104 G).1 := ⟨mo_const _, trivial⟩
def jb_157_105 (G : jx_Gv) : jx_B := ([], .inr (.inr (.inr (.inr jr_z))))
theorem jm_157_105 (G : jx_Gv) : jx_mo (jb_157_105 G).1 := trivial
def jb_157_106 (G : jx_Gv) : jx_B := ([jo_aload 0, jo_iload 1], .inr (.inr (.inr (.inl (117, 2, 111, some 8)))))
theorem jm_157_106 (G : jx_Gv) : jx_mo (jb_157_106 G).1 := ⟨mo_aload _, mo_iload _, trivial⟩
def jb_157_111 (G : jx_Gv) : jx_B := ([], .inl (jc_i (fun x => decide (0 ≤ x)), 118, 114))
theorem jm_157_111 (G : jx_Gv) : jx_mo (jb_157_111 G).1 := trivial
def jb_157_114 (G : jx_Gv) : jx_B := ([jo_const (.int (1 : Int32))], .inr (.inl 119))
theorem jm_157_114 (G : jx_Gv) : jx_mo (jb_157_114 G).1 := ⟨mo_const _, trivial⟩
def jb_157_118 (G : jx_Gv) : jx_B := ([jo_const (.int (0 : Int32))], .inr (.inl 119))
theorem jm_157_118 (G : jx_Gv) : jx_mo (jb_157_118 G).1 := ⟨mo_const _, trivial⟩
def jb_157_119 (G : jx_Gv) : jx_B := ([], .inr (.inr (.inr (.inr jr_z))))
theorem jm_157_119 (G : jx_Gv) : jx_mo (jb_157_119 G).1 := trivial
def jb_157_120 (G : jx_Gv) : jx_B := ([jo_aload 0, jo_iload 1], .inr (.inr (.inr (.inl (136, 2, 125, some 8)))))
theorem jm_157_120 (G : jx_Gv) : jx_mo (jb_157_120 G).1 := ⟨mo_aload _, mo_iload _, trivial⟩
def jb_157_125 (G : jx_Gv) : jx_B := ([], .inl (jc_i (fun x => decide (0 ≤ x)), 132, 128))
theorem jm_157_125 (G : jx_Gv) : jx_mo (jb_157_125 G).1 := trivial
def jb_157_128 (G : jx_Gv) : jx_B := ([jo_const (.int (1 : Int32))], .inr (.inl 133))
theorem jm_157_128 (G : jx_Gv) : jx_mo (jb_157_128 G).1 := ⟨mo_const _, trivial⟩
def jb_157_132 (G : jx_Gv) : jx_B := ([jo_const (.int (0 : Int32))], .inr (.inl 133))
theorem jm_157_132 (G : jx_Gv) : jx_mo (jb_157_132 G).1 := ⟨mo_const _, trivial⟩
def jb_157_133 (G : jx_Gv) : jx_B := ([], .inr (.inr (.inr (.inr jr_z))))
theorem jm_157_133 (G : jx_Gv) : jx_mo (jb_157_133 G).1 := trivial
def jb_157_134 (G : jx_Gv) : jx_B := ([jo_const (.int (0 : Int32)), jo_istore 2, jo_const (.int (0 : Int32)), jo_istore 3], .inr (.inl 138))
theorem jm_157_134 (G : jx_Gv) : jx_mo (jb_157_134 G).1 := ⟨mo_const _, mo_istore _, mo_const _, mo_istore _, trivial⟩
def jb_157_138 (G : jx_Gv) : jx_B := ([jo_iload 3, jo_aload 0, jo_getA 8 45, jo_iload 1, jo_iald 0], .inl (jc_ii (fun x y => decide (y ≤ x)), 180, 148))
theorem jm_157_138 (G : jx_Gv) : jx_mo (jb_157_138 G).1 := ⟨mo_iload _, mo_aload _, mo_getA _ _, mo_iload _, mo_iald _, trivial⟩
def jb_157_148 (G : jx_Gv) : jx_B := ([jo_iload 2], .inl (jc_i (fun x => decide (¬ x = 0)), 168, 152))
theorem jm_157_148 (G : jx_Gv) : jx_mo (jb_157_148 G).1 := ⟨mo_iload _, trivial⟩
def jb_157_152 (G : jx_Gv) : jx_B := ([jo_aload 0, jo_iload 1, jo_aload 0, jo_getA 8 44, jo_iload 1, jo_iald 0, jo_iload 3, jo_ii (· + ·)], .inr (.inr (.inr (.inl (155, 3, 165, some 8)))))
theorem jm_157_152 (G : jx_Gv) : jx_mo (jb_157_152 G).1 := ⟨mo_aload _, mo_iload _, mo_aload _, mo_getA _ _, mo_iload _, mo_iald _, mo_iload _, mo_ii _, trivial⟩
def jb_157_165 (G : jx_Gv) : jx_B := ([], .inl (jc_i (fun x => decide (x = 0)), 172, 168))
theorem jm_157_165 (G : jx_Gv) : jx_mo (jb_157_165 G).1 := trivial
def jb_157_168 (G : jx_Gv) : jx_B := ([jo_const (.int (1 : Int32))], .inr (.inl 173))
theorem jm_157_168 (G : jx_Gv) : jx_mo (jb_157_168 G).1 := ⟨mo_const _, trivial⟩
def jb_157_172 (G : jx_Gv) : jx_B := ([jo_const (.int (0 : Int32))], .inr (.inl 173))
theorem jm_157_172 (G : jx_Gv) : jx_mo (jb_157_172 G).1 := ⟨mo_const _, trivial⟩
def jb_157_173 (G : jx_Gv) : jx_B := ([jo_istore 2, jo_iinc 3 (1 : Int32)], .inr (.inl 138))
theorem jm_157_173 (G : jx_Gv) : jx_mo (jb_157_173 G).1 := ⟨mo_istore _, mo_iinc _ _, trivial⟩
def jb_157_180 (G : jx_Gv) : jx_B := ([jo_iload 2], .inr (.inr (.inr (.inr jr_z))))
theorem jm_157_180 (G : jx_Gv) : jx_mo (jb_157_180 G).1 := ⟨mo_iload _, trivial⟩
def jb_157_182 (G : jx_Gv) : jx_B := ([jo_aload 0, jo_iload 1, jo_aload 0, jo_getA 8 37, jo_iload 1, jo_iald 0, jo_aload 0, jo_getA 8 38, jo_iload 1, jo_iald 0], .inr (.inr (.inr (.inl (156, 4, 199, some 8)))))
theorem jm_157_182 (G : jx_Gv) : jx_mo (jb_157_182 G).1 := ⟨mo_aload _, mo_iload _, mo_aload _, mo_getA _ _, mo_iload _, mo_iald _, mo_aload _, mo_getA _ _, mo_iload _, mo_iald _, trivial⟩
def jb_157_199 (G : jx_Gv) : jx_B := ([], .inl (jc_i (fun x => decide (¬ x = 0)), 222, 202))
theorem jm_157_199 (G : jx_Gv) : jx_mo (jb_157_199 G).1 := trivial
def jb_157_202 (G : jx_Gv) : jx_B := ([jo_aload 0, jo_iload 1, jo_aload 0, jo_getA 8 39, jo_iload 1, jo_iald 0, jo_aload 0, jo_getA 8 40, jo_iload 1, jo_iald 0], .inr (.inr (.inr (.inl (156, 4, 219, some 8)))))
theorem jm_157_202 (G : jx_Gv) : jx_mo (jb_157_202 G).1 := ⟨mo_aload _, mo_iload _, mo_aload _, mo_getA _ _, mo_iload _, mo_iald _, mo_aload _, mo_getA _ _, mo_iload _, mo_iald _, trivial⟩
def jb_157_219 (G : jx_Gv) : jx_B := ([], .inl (jc_i (fun x => decide (x = 0)), 226, 222))
theorem jm_157_219 (G : jx_Gv) : jx_mo (jb_157_219 G).1 := trivial
def jb_157_222 (G : jx_Gv) : jx_B := ([jo_const (.int (1 : Int32))], .inr (.inl 227))
theorem jm_157_222 (G : jx_Gv) : jx_mo (jb_157_222 G).1 := ⟨mo_const _, trivial⟩
def jb_157_226 (G : jx_Gv) : jx_B := ([jo_const (.int (0 : Int32))], .inr (.inl 227))
theorem jm_157_226 (G : jx_Gv) : jx_mo (jb_157_226 G).1 := ⟨mo_const _, trivial⟩
def jb_157_227 (G : jx_Gv) : jx_B := ([], .inr (.inr (.inr (.inr jr_z))))
theorem jm_157_227 (G : jx_Gv) : jx_mo (jb_157_227 G).1 := trivial
def jb_157_228 (G : jx_Gv) : jx_B := ([jo_const (.int (0 : Int32))], .inr (.inr (.inr (.inr jr_z))))
theorem jm_157_228 (G : jx_Gv) : jx_mo (jb_157_228 G).1 := ⟨mo_const _, trivial⟩
def jbs_157 (G : jx_Gv) : List (Nat × jx_B) := [(0, jb_157_0 G), (64, jb_157_64 G), (76, jb_157_76 G), (79, jb_157_79 G), (83, jb_157_83 G), (84, jb_157_84 G), (85, jb_157_85 G), (97, jb_157_97 G), (100, jb_157_100 G), (104, jb_157_104 G), (105, jb_157_105 G), (106, jb_157_106 G), (111, jb_157_111 G), (114, jb_157_114 G), (118, jb_157_118 G), (119, jb_157_119 G), (120, jb_157_120 G), (125, jb_157_125 G), (128, jb_157_128 G), (132, jb_157_132 G), (133, jb_157_133 G), (134, jb_157_134 G), (138, jb_157_138 G), (148, jb_157_148 G), (152, jb_157_152 G), (165, jb_157_165 G), (168, jb_157_168 G), (172, jb_157_172 G), (173, jb_157_173 G), (180, jb_157_180 G), (182, jb_157_182 G), (199, jb_157_199 G), (202, jb_157_202 G), (219, jb_157_219 G), (222, jb_157_222 G), (226, jb_157_226 G), (227, jb_157_227 G), (228, jb_157_228 G)]
theorem jms_157 (G : jx_Gv) : ∀ e ∈ jbs_157 G, jx_mo e.2.1 := List.forall_mem_cons.mpr ⟨jm_157_0 G, List.forall_mem_cons.mpr ⟨jm_157_64 G, List.forall_mem_cons.mpr ⟨jm_157_76 G, List.forall_mem_cons.mpr ⟨jm_157_79 G, List.forall_mem_cons.mpr ⟨jm_157_83 G, List.forall_mem_cons.mpr ⟨jm_157_84 G, List.forall_mem_cons.mpr ⟨jm_157_85 G, List.forall_mem_cons.mpr ⟨jm_157_97 G, List.forall_mem_cons.mpr ⟨jm_157_100 G, List.forall_mem_cons.mpr ⟨jm_157_104 G, List.forall_mem_cons.mpr ⟨jm_157_105 G, List.forall_mem_cons.mpr ⟨jm_157_106 G, List.forall_mem_cons.mpr ⟨jm_157_111 G, List.forall_mem_cons.mpr ⟨jm_157_114 G, List.forall_mem_cons.mpr ⟨jm_157_118 G, List.forall_mem_cons.mpr ⟨jm_157_119 G, List.forall_mem_cons.mpr ⟨jm_157_120 G, List.forall_mem_cons.mpr ⟨jm_157_125 G, List.forall_mem_cons.mpr ⟨jm_157_128 G, List.forall_mem_cons.mpr ⟨jm_157_132 G, List.forall_mem_cons.mpr ⟨jm_157_133 G, List.forall_mem_cons.mpr ⟨jm_157_134 G, List.forall_mem_cons.mpr ⟨jm_157_138 G, List.forall_mem_cons.mpr ⟨jm_157_148 G, List.forall_mem_cons.mpr ⟨jm_157_152 G, List.forall_mem_cons.mpr ⟨jm_157_165 G, List.forall_mem_cons.mpr ⟨jm_157_168 G, List.forall_mem_cons.mpr ⟨jm_157_172 G, List.forall_mem_cons.mpr ⟨jm_157_173 G, List.forall_mem_cons.mpr ⟨jm_157_180 G, List.forall_mem_cons.mpr ⟨jm_157_182 G, List.forall_mem_cons.mpr ⟨jm_157_199 G, List.forall_mem_cons.mpr ⟨jm_157_202 G, List.forall_mem_cons.mpr ⟨jm_157_219 G, List.forall_mem_cons.mpr ⟨jm_157_222 G, List.forall_mem_cons.mpr ⟨jm_157_226 G, List.forall_mem_cons.mpr ⟨jm_157_227 G, List.forall_mem_cons.mpr ⟨jm_157_228 G, fun _ h => absurd h List.not_mem_nil⟩⟩⟩⟩⟩⟩⟩⟩⟩⟩⟩⟩⟩⟩⟩⟩⟩⟩⟩⟩⟩⟩⟩⟩⟩⟩⟩⟩⟩⟩⟩⟩⟩⟩⟩⟩⟩⟩
def jb_158_0 (G : jx_Gv) : jx_B := ([jo_aload 0, jo_aload 0, jo_aload 0, jo_const (.int (7 : Int32)), jo_aload 0, jo_getA 8 35, jo_iload 1, jo_iald 0, jo_aload 0, jo_getA 8 37, jo_iload 1, jo_iald 0], .inr (.inr (.inr (.inl (116, 4, 20, some 8)))))
theorem jm_158_0 (G : jx_Gv) : jx_mo (jb_158_0 G).1 := ⟨mo_aload _, mo_aload _, mo_aload _, mo_const _, mo_aload _, mo_getA _ _, mo_iload _, mo_iald _, mo_aload _, mo_getA _ _, mo_iload _, mo_iald _, trivial⟩
def jb_158_20 (G : jx_Gv) : jx_B := ([], .inr (.inr (.inr (.inl (136, 2, 23, some 8)))))
theorem jm_158_20 (G : jx_Gv) : jx_mo (jb_158_20 G).1 := trivial
def jb_158_23 (G : jx_Gv) : jx_B := ([jo_aload 0, jo_getA 8 38, jo_iload 1, jo_iald 0], .inr (.inr (.inr (.inl (128, 3, 32, some 8)))))
theorem jm_158_23 (G : jx_Gv) : jx_mo (jb_158_23 G).1 := ⟨mo_aload _, mo_getA _ _, mo_iload _, mo_iald _, trivial⟩
def jb_158_32 (G : jx_Gv) : jx_B := ([], .inr (.inr (.inr (.inr jr_i))))
theorem jm_158_32 (G : jx_Gv) : jx_mo (jb_158_32 G).1 := trivial
def jbs_158 (G : jx_Gv) : List (Nat × jx_B) := [(0, jb_158_0 G), (20, jb_158_20 G), (23, jb_158_23 G), (32, jb_158_32 G)]
theorem jms_158 (G : jx_Gv) : ∀ e ∈ jbs_158 G, jx_mo e.2.1 := List.forall_mem_cons.mpr ⟨jm_158_0 G, List.forall_mem_cons.mpr ⟨jm_158_20 G, List.forall_mem_cons.mpr ⟨jm_158_23 G, List.forall_mem_cons.mpr ⟨jm_158_32 G, fun _ h => absurd h List.not_mem_nil⟩⟩⟩⟩
def jb_159_0 (G : jx_Gv) : jx_B := ([jo_aload 0, jo_aload 0, jo_aload 0, jo_const (.int (7 : Int32)), jo_aload 0, jo_getA 8 35, jo_iload 1, jo_iald 0, jo_aload 0, jo_getA 8 39, jo_iload 1, jo_iald 0], .inr (.inr (.inr (.inl (116, 4, 20, some 8)))))
theorem jm_159_0 (G : jx_Gv) : jx_mo (jb_159_0 G).1 := ⟨mo_aload _, mo_aload _, mo_aload _, mo_const _, mo_aload _, mo_getA _ _, mo_iload _, mo_iald _, mo_aload _, mo_getA _ _, mo_iload _, mo_iald _, trivial⟩
def jb_159_20 (G : jx_Gv) : jx_B := ([], .inr (.inr (.inr (.inl (136, 2, 23, some 8)))))
theorem jm_159_20 (G : jx_Gv) : jx_mo (jb_159_20 G).1 := trivial
def jb_159_23 (G : jx_Gv) : jx_B := ([jo_aload 0, jo_getA 8 40, jo_iload 1, jo_iald 0], .inr (.inr (.inr (.inl (128, 3, 32, some 8)))))
theorem jm_159_23 (G : jx_Gv) : jx_mo (jb_159_23 G).1 := ⟨mo_aload _, mo_getA _ _, mo_iload _, mo_iald _, trivial⟩
def jb_159_32 (G : jx_Gv) : jx_B := ([], .inr (.inr (.inr (.inr jr_i))))
theorem jm_159_32 (G : jx_Gv) : jx_mo (jb_159_32 G).1 := trivial
def jbs_159 (G : jx_Gv) : List (Nat × jx_B) := [(0, jb_159_0 G), (20, jb_159_20 G), (23, jb_159_23 G), (32, jb_159_32 G)]
theorem jms_159 (G : jx_Gv) : ∀ e ∈ jbs_159 G, jx_mo e.2.1 := List.forall_mem_cons.mpr ⟨jm_159_0 G, List.forall_mem_cons.mpr ⟨jm_159_20 G, List.forall_mem_cons.mpr ⟨jm_159_23 G, List.forall_mem_cons.mpr ⟨jm_159_32 G, fun _ h => absurd h List.not_mem_nil⟩⟩⟩⟩
def jb_160_0 (G : jx_Gv) : jx_B := ([jo_const (.int (0 : Int32)), jo_istore 2, jo_aload 0, jo_getA 8 44, jo_iload 1, jo_iald 0, jo_istore 3], .inr (.inl 9))
theorem jm_160_0 (G : jx_Gv) : jx_mo (jb_160_0 G).1 := ⟨mo_const _, mo_istore _, mo_aload _, mo_getA _ _, mo_iload _, mo_iald _, mo_istore _, trivial⟩
def jb_160_9 (G : jx_Gv) : jx_B := ([jo_iload 3, jo_aload 0, jo_getA 8 44, jo_iload 1, jo_iald 0, jo_aload 0, jo_getA 8 45, jo_iload 1, jo_iald 0, jo_ii (· + ·)], .inl (jc_ii (fun x y => decide (y ≤ x)), 103, 26))
theorem jm_160_9 (G : jx_Gv) : jx_mo (jb_160_9 G).1 := ⟨mo_iload _, mo_aload _, mo_getA _ _, mo_iload _, mo_iald _, mo_aload _, mo_getA _ _, mo_iload _, mo_iald _, mo_ii _, trivial⟩
def jb_160_26 (G : jx_Gv) : jx_B := ([jo_aload 0, jo_getA 8 34, jo_iload 1, jo_iald 0, jo_const (.int (10 : Int32))], .inl (jc_ii (fun x y => decide (¬ x = y)), 103, 37))
theorem jm_160_26 (G : jx_Gv) : jx_mo (jb_160_26 G).1 := ⟨mo_aload _, mo_getA _ _, mo_iload _, mo_iald _, mo_const _, trivial⟩
def jb_160_37 (G : jx_Gv) : jx_B := ([jo_aload 0, jo_aload 0, jo_getA 8 35, jo_iload 1, jo_iald 0, jo_aload 0, jo_getA 8 47, jo_iload 3, jo_iald 0], .inr (.inr (.inr (.inl (128, 3, 53, some 8)))))
theorem jm_160_37 (G : jx_Gv) : jx_mo (jb_160_37 G).1 := ⟨mo_aload _, mo_aload _, mo_getA _ _, mo_iload _, mo_iald _, mo_aload _, mo_getA _ _, mo_iload _, mo_iald _, trivial⟩
def jb_160_53 (G : jx_Gv) : jx_B := ([jo_istore 4, jo_iload 2], .inl (jc_i (fun x => decide (¬ x = 0)), 91, 59))
theorem jm_160_53 (G : jx_Gv) : jx_mo (jb_160_53 G).1 := ⟨mo_istore _, mo_iload _, trivial⟩
def jb_160_59 (G : jx_Gv) : jx_B := ([jo_iload 4], .inl (jc_i (fun x => decide (x < 0)), 95, 64))
theorem jm_160_59 (G : jx_Gv) : jx_mo (jb_160_59 G).1 := ⟨mo_iload _, trivial⟩
def jb_160_64 (G : jx_Gv) : jx_B := ([jo_aload 0, jo_getA 8 34, jo_iload 4, jo_iald 0, jo_aload 0, jo_getA 8 46, jo_iload 3, jo_iald 0, jo_const (.int (2 : Int32))], .inl (jc_ii (fun x y => decide (¬ x = y)), 86, 81))
theorem jm_160_64 (G : jx_Gv) : jx_mo (jb_160_64 G).1 := ⟨mo_aload _, mo_getA _ _, mo_iload _, mo_iald _, mo_aload _, mo_getA _ _, mo_iload _, mo_iald _, mo_const _, trivial⟩
def jb_160_81 (G : jx_Gv) : jx_B := ([jo_const (.int (8 : Int32))], .inr (.inl 88))
theorem jm_160_81 (G : jx_Gv) : jx_mo (jb_160_81 G).1 := ⟨mo_const _, trivial⟩
def jb_160_86 (G : jx_Gv) : jx_B := ([jo_const (.int (7 : Int32))], .inr (.inl 88))
theorem jm_160_86 (G : jx_Gv) : jx_mo (jb_160_86 G).1 := ⟨mo_const _, trivial⟩
def jb_160_88 (G : jx_Gv) : jx_B := ([], .inl (jc_ii (fun x y => decide (¬ x = y)), 95, 91))
theorem jm_160_88 (G : jx_Gv) : jx_mo (jb_160_88 G).1 := trivial
def jb_160_91 (G : jx_Gv) : jx_B := ([jo_const (.int (1 : Int32))], .inr (.inl 96))
theorem jm_160_91 (G : jx_Gv) : jx_mo (jb_160_91 G).1 := ⟨mo_const _, trivial⟩
def jb_160_95 (G : jx_Gv) : jx_B := ([jo_const (.int (0 : Int32))], .inr (.inl 96))
theorem jm_160_95 (G : jx_Gv) : jx_mo (jb_160_95 G).1 := ⟨mo_const _, trivial⟩
def jb_160_96 (G : jx_Gv) : jx_B := ([jo_istore 2, jo_iinc 3 (1 : Int32)], .inr (.inl 9))
theorem jm_160_96 (G : jx_Gv) : jx_mo (jb_160_96 G).1 := ⟨mo_istore _, mo_iinc _ _, trivial⟩
def jb_160_103 (G : jx_Gv) : jx_B := ([jo_aload 0, jo_getA 8 34, jo_iload 1, jo_iald 0, jo_const (.int (12 : Int32))], .inl (jc_ii (fun x y => decide (x = y)), 116, 114))
theorem jm_160_103 (G : jx_Gv) : jx_mo (jb_160_103 G).1 := ⟨mo_aload _, mo_getA _ _, mo_iload _, mo_iald _, mo_const _, trivial⟩
def jb_160_114 (G : jx_Gv) : jx_B := ([jo_iload 2], .inr (.inr (.inr (.inr jr_z))))
theorem jm_160_114 (G : jx_Gv) : jx_mo (jb_160_114 G).1 := ⟨mo_iload _, trivial⟩
def jb_160_116 (G : jx_Gv) : jx_B := ([jo_aload 0, jo_iload 1], .inr (.inr (.inr (.inl (158, 2, 121, some 8)))))
theorem jm_160_116 (G : jx_Gv) : jx_mo (jb_160_116 G).1 := ⟨mo_aload _, mo_iload _, trivial⟩
def jb_160_121 (G : jx_Gv) : jx_B := ([jo_istore 3, jo_aload 0, jo_iload 1], .inr (.inr (.inr (.inl (159, 2, 127, some 8)))))
theorem jm_160_121 (G : jx_Gv) : jx_mo (jb_160_121 G).1 := ⟨mo_istore _, mo_aload _, mo_iload _, trivial⟩
def jb_160_127 (G : jx_Gv) : jx_B := ([jo_istore 4, jo_iload 3], .inl (jc_i (fun x => decide (x < 0)), 144, 133))
theorem jm_160_127 (G : jx_Gv) : jx_mo (jb_160_127 G).1 := ⟨mo_istore _, mo_iload _, trivial⟩
def jb_160_133 (G : jx_Gv) : jx_B := ([jo_aload 0, jo_getA 8 34, jo_iload 3, jo_iald 0, jo_const (.int (8 : Int32))], .inl (jc_ii (fun x y => decide (x = y)), 161, 144))
theorem jm_160_133 (G : jx_Gv) : jx_mo (jb_160_133 G).1 := ⟨mo_aload _, mo_getA _ _, mo_iload _, mo_iald _, mo_const _, trivial⟩
def jb_160_144 (G : jx_Gv) : jx_B := ([jo_iload 4], .inl (jc_i (fun x => decide (x < 0)), 165, 149))
theorem jm_160_144 (G : jx_Gv) : jx_mo (jb_160_144 G).1 := ⟨mo_iload _, trivial⟩
def jb_160_149 (G : jx_Gv) : jx_B := ([jo_aload 0, jo_getA 8 34, jo_iload 4, jo_iald 0, jo_const (.int (7 : Int32))], .inl (jc_ii (fun x y => decide (¬ x = y)), 165, 161))
theorem jm_160_149 (G : jx_Gv) : jx_mo (jb_160_149 G).1 := ⟨mo_aload _, mo_getA _ _, mo_iload _, mo_iald _, mo_const _, trivial⟩
def jb_160_161 (G : jx_Gv) : jx_B := ([jo_const (.int (1 : Int32))], .inr (.inl 166))
theorem jm_160_161 (G : jx_Gv) : jx_mo (jb_160_161 G).1 := ⟨mo_const _, trivial⟩
def jb_160_165 (G : jx_Gv) : jx_B := ([jo_const (.int (0 : Int32))], .inr (.inl 166))
theorem jm_160_165 (G : jx_Gv) : jx_mo (jb_160_165 G).1 := ⟨mo_const _, trivial⟩
def jb_160_166 (G : jx_Gv) : jx_B := ([], .inr (.inr (.inr (.inr jr_z))))
theorem jm_160_166 (G : jx_Gv) : jx_mo (jb_160_166 G).1 := trivial
def jbs_160 (G : jx_Gv) : List (Nat × jx_B) := [(0, jb_160_0 G), (9, jb_160_9 G), (26, jb_160_26 G), (37, jb_160_37 G), (53, jb_160_53 G), (59, jb_160_59 G), (64, jb_160_64 G), (81, jb_160_81 G), (86, jb_160_86 G), (88, jb_160_88 G), (91, jb_160_91 G), (95, jb_160_95 G), (96, jb_160_96 G), (103, jb_160_103 G), (114, jb_160_114 G), (116, jb_160_116 G), (121, jb_160_121 G), (127, jb_160_127 G), (133, jb_160_133 G), (144, jb_160_144 G), (149, jb_160_149 G), (161, jb_160_161 G), (165, jb_160_165 G), (166, jb_160_166 G)]
theorem jms_160 (G : jx_Gv) : ∀ e ∈ jbs_160 G, jx_mo e.2.1 := List.forall_mem_cons.mpr ⟨jm_160_0 G, List.forall_mem_cons.mpr ⟨jm_160_9 G, List.forall_mem_cons.mpr ⟨jm_160_26 G, List.forall_mem_cons.mpr ⟨jm_160_37 G, List.forall_mem_cons.mpr ⟨jm_160_53 G, List.forall_mem_cons.mpr ⟨jm_160_59 G, List.forall_mem_cons.mpr ⟨jm_160_64 G, List.forall_mem_cons.mpr ⟨jm_160_81 G, List.forall_mem_cons.mpr ⟨jm_160_86 G, List.forall_mem_cons.mpr ⟨jm_160_88 G, List.forall_mem_cons.mpr ⟨jm_160_91 G, List.forall_mem_cons.mpr ⟨jm_160_95 G, List.forall_mem_cons.mpr ⟨jm_160_96 G, List.forall_mem_cons.mpr ⟨jm_160_103 G, List.forall_mem_cons.mpr ⟨jm_160_114 G, List.forall_mem_cons.mpr ⟨jm_160_116 G, List.forall_mem_cons.mpr ⟨jm_160_121 G, List.forall_mem_cons.mpr ⟨jm_160_127 G, List.forall_mem_cons.mpr ⟨jm_160_133 G, List.forall_mem_cons.mpr ⟨jm_160_144 G, List.forall_mem_cons.mpr ⟨jm_160_149 G, List.forall_mem_cons.mpr ⟨jm_160_161 G, List.forall_mem_cons.mpr ⟨jm_160_165 G, List.forall_mem_cons.mpr ⟨jm_160_166 G, fun _ h => absurd h List.not_mem_nil⟩⟩⟩⟩⟩⟩⟩⟩⟩⟩⟩⟩⟩⟩⟩⟩⟩⟩⟩⟩⟩⟩⟩⟩
def jb_161_0 (G : jx_Gv) : jx_B := ([jo_iload 1], .inl (jc_i (fun x => decide (0 ≤ x)), 8, 4))
theorem jm_161_0 (G : jx_Gv) : jx_mo (jb_161_0 G).1 := ⟨mo_iload _, trivial⟩
def jb_161_4 (G : jx_Gv) : jx_B := ([jo_const (.int (-1 : Int32))], .inr (.inl 20))
theorem jm_161_4 (G : jx_Gv) : jx_mo (jb_161_4 G).1 := ⟨mo_const _, trivial⟩
def jb_161_8 (G : jx_Gv) : jx_B := ([jo_aload 0, jo_const (.int (0 : Int32)), jo_const (.int (-1 : Int32)), jo_aload 0, jo_getA 8 37, jo_iload 1, jo_iald 0], .inr (.inr (.inr (.inl (116, 4, 20, some 8)))))
theorem jm_161_8 (G : jx_Gv) : jx_mo (jb_161_8 G).1 := ⟨mo_aload _, mo_const _, mo_const _, mo_aload _, mo_getA _ _, mo_iload _, mo_iald _, trivial⟩
def jb_161_20 (G : jx_Gv) : jx_B := ([jo_istore 4, jo_iload 2], .inl (jc_i (fun x => decide (0 ≤ x)), 30, 26))
theorem jm_161_20 (G : jx_Gv) : jx_mo (jb_161_20 G).1 := ⟨mo_istore _, mo_iload _, trivial⟩
def jb_161_26 (G : jx_Gv) : jx_B := ([jo_const (.int (-1 : Int32))], .inr (.inl 42))
theorem jm_161_26 (G : jx_Gv) : jx_mo (jb_161_26 G).1 := ⟨mo_const _, trivial⟩
def jb_161_30 (G : jx_Gv) : jx_B := ([jo_aload 0, jo_const (.int (0 : Int32)), jo_const (.int (-1 : Int32)), jo_aload 0, jo_getA 8 37, jo_iload 2, jo_iald 0], .inr (.inr (.inr (.inl (116, 4, 42, some 8)))))
theorem jm_161_30 (G : jx_Gv) : jx_mo (jb_161_30 G).1 := ⟨mo_aload _, mo_const _, mo_const _, mo_aload _, mo_getA _ _, mo_iload _, mo_iald _, trivial⟩
def jb_161_42 (G : jx_Gv) : jx_B := ([jo_istore 5, jo_iload 4], .inl (jc_i (fun x => decide (x < 0)), 54, 49))
theorem jm_161_42 (G : jx_Gv) : jx_mo (jb_161_42 G).1 := ⟨mo_istore _, mo_iload _, trivial⟩
def jb_161_49 (G : jx_Gv) : jx_B := ([jo_iload 5], .inl (jc_i (fun x => decide (0 ≤ x)), 56, 54))
theorem jm_161_49 (G : jx_Gv) : jx_mo (jb_161_49 G).1 := ⟨mo_iload _, trivial⟩
def jb_161_54 (G : jx_Gv) : jx_B := ([jo_const (.int (0 : Int32))], .inr (.inr (.inr (.inr jr_z))))
theorem jm_161_54 (G : jx_Gv) : jx_mo (jb_161_54 G).1 := ⟨mo_const _, trivial⟩
def jb_161_56 (G : jx_Gv) : jx_B := ([jo_iload 3, jo_const (.int (7 : Int32))], .inl (jc_ii (fun x y => decide (¬ x = y)), 85, 62))
theorem jm_161_56 (G : jx_Gv) : jx_mo (jb_161_56 G).1 := ⟨mo_iload _, mo_const _, trivial⟩
def jb_161_62 (G : jx_Gv) : jx_B := ([jo_aload 0, jo_getA 8 37, jo_iload 4, jo_iald 0, jo_aload 0, jo_getA 8 37, jo_iload 5, jo_iald 0], .inl (jc_ii (fun x y => decide (x = y)), 83, 79))
theorem jm_161_62 (G : jx_Gv) : jx_mo (jb_161_62 G).1 := ⟨mo_aload _, mo_getA _ _, mo_iload _, mo_iald _, mo_aload _, mo_getA _ _, mo_iload _, mo_iald _, trivial⟩
def jb_161_79 (G : jx_Gv) : jx_B := ([jo_const (.int (1 : Int32))], .inr (.inl 84))
theorem jm_161_79 (G : jx_Gv) : jx_mo (jb_161_79 G).1 := ⟨mo_const _, trivial⟩
def jb_161_83 (G : jx_Gv) : jx_B := ([jo_const (.int (0 : Int32))], .inr (.inl 84))
theorem jm_161_83 (G : jx_Gv) : jx_mo (jb_161_83 G).1 := ⟨mo_const _, trivial⟩
def jb_161_84 (G : jx_Gv) : jx_B := ([], .inr (.inr (.inr (.inr jr_z))))
theorem jm_161_84 (G : jx_Gv) : jx_mo (jb_161_84 G).1 := trivial
def jb_161_85 (G : jx_Gv) : jx_B := ([jo_aload 0, jo_getA 8 41, jo_iload 4, jo_iald 0, jo_i2l, jo_aload 0, jo_getA 8 42, jo_iload 5, jo_iald 0, jo_i2l, jo_ll (· * ·), jo_lstore 6, jo_aload 0, jo_getA 8 41, jo_iload 5, jo_iald 0, jo_i2l, jo_aload 0, jo_getA 8 42, jo_iload 4, jo_iald 0, jo_i2l, jo_ll (· * ·), jo_drop 7, jo_lstore 8], .inr (.inl 123))
theorem jm_161_85 (G : jx_Gv) : jx_mo (jb_161_85 G).1 := ⟨mo_aload _, mo_getA _ _, mo_iload _, mo_iald _, mo_i2l, mo_aload _, mo_getA _ _, mo_iload _, mo_iald _, mo_i2l, mo_ll _, mo_lstore _, mo_aload _, mo_getA _ _, mo_iload _, mo_iald _, mo_i2l, mo_aload _, mo_getA _ _, mo_iload _, mo_iald _, mo_i2l, mo_ll _, mo_drop _, mo_lstore _, trivial⟩
def jb_161_123 (G : jx_Gv) : jx_B := ([jo_aload 0, jo_getA 8 41, jo_iload 1, jo_iald 0, jo_i2l, jo_lload 6, jo_ll (· * ·), jo_aload 0, jo_getA 8 41, jo_iload 2, jo_iald 0, jo_i2l, jo_lload 8, jo_ll (· * ·), jo_lc lg_cmp], .inl (jc_i (fun x => decide (x < 0)), 171, 147))
theorem jm_161_123 (G : jx_Gv) : jx_mo (jb_161_123 G).1 := ⟨mo_aload _, mo_getA _ _, mo_iload _, mo_iald _, mo_i2l, mo_lload _, mo_ll _, mo_aload _, mo_getA _ _, mo_iload _, mo_iald _, mo_i2l, mo_lload _, mo_ll _, mo_lc _, trivial⟩
def jb_161_147 (G : jx_Gv) : jx_B := ([jo_aload 0, jo_getA 8 42, jo_iload 1, jo_iald 0, jo_i2l, jo_lload 6, jo_ll (· * ·), jo_aload 0, jo_getA 8 42, jo_iload 2, jo_iald 0, jo_i2l, jo_lload 8, jo_ll (· * ·), jo_lc lg_cmp], .inl (jc_i (fun x => decide (x ≤ 0)), 175, 171))
theorem jm_161_147 (G : jx_Gv) : jx_mo (jb_161_147 G).1 := ⟨mo_aload _, mo_getA _ _, mo_iload _, mo_iald _, mo_i2l, mo_lload _, mo_ll _, mo_aload _, mo_getA _ _, mo_iload _, mo_iald _, mo_i2l, mo_lload _, mo_ll _, mo_lc _, trivial⟩
def jb_161_171 (G : jx_Gv) : jx_B := ([jo_const (.int (1 : Int32))], .inr (.inl 176))
theorem jm_161_171 (G : jx_Gv) : jx_mo (jb_161_171 G).1 := ⟨mo_const _, trivial⟩
def jb_161_175 (G : jx_Gv) : jx_B := ([jo_const (.int (0 : Int32))], .inr (.inl 176))
theorem jm_161_175 (G : jx_Gv) : jx_mo (jb_161_175 G).1 := ⟨mo_const _, trivial⟩
def jb_161_176 (G : jx_Gv) : jx_B := ([], .inr (.inr (.inr (.inr jr_z))))
theorem jm_161_176 (G : jx_Gv) : jx_mo (jb_161_176 G).1 := trivial
def jbs_161 (G : jx_Gv) : List (Nat × jx_B) := [(0, jb_161_0 G), (4, jb_161_4 G), (8, jb_161_8 G), (20, jb_161_20 G), (26, jb_161_26 G), (30, jb_161_30 G), (42, jb_161_42 G), (49, jb_161_49 G), (54, jb_161_54 G), (56, jb_161_56 G), (62, jb_161_62 G), (79, jb_161_79 G), (83, jb_161_83 G), (84, jb_161_84 G), (85, jb_161_85 G), (123, jb_161_123 G), (147, jb_161_147 G), (171, jb_161_171 G), (175, jb_161_175 G), (176, jb_161_176 G)]
theorem jms_161 (G : jx_Gv) : ∀ e ∈ jbs_161 G, jx_mo e.2.1 := List.forall_mem_cons.mpr ⟨jm_161_0 G, List.forall_mem_cons.mpr ⟨jm_161_4 G, List.forall_mem_cons.mpr ⟨jm_161_8 G, List.forall_mem_cons.mpr ⟨jm_161_20 G, List.forall_mem_cons.mpr ⟨jm_161_26 G, List.forall_mem_cons.mpr ⟨jm_161_30 G, List.forall_mem_cons.mpr ⟨jm_161_42 G, List.forall_mem_cons.mpr ⟨jm_161_49 G, List.forall_mem_cons.mpr ⟨jm_161_54 G, List.forall_mem_cons.mpr ⟨jm_161_56 G, List.forall_mem_cons.mpr ⟨jm_161_62 G, List.forall_mem_cons.mpr ⟨jm_161_79 G, List.forall_mem_cons.mpr ⟨jm_161_83 G, List.forall_mem_cons.mpr ⟨jm_161_84 G, List.forall_mem_cons.mpr ⟨jm_161_85 G, List.forall_mem_cons.mpr ⟨jm_161_123 G, List.forall_mem_cons.mpr ⟨jm_161_147 G, List.forall_mem_cons.mpr ⟨jm_161_171 G, List.forall_mem_cons.mpr ⟨jm_161_175 G, List.forall_mem_cons.mpr ⟨jm_161_176 G, fun _ h => absurd h List.not_mem_nil⟩⟩⟩⟩⟩⟩⟩⟩⟩⟩⟩⟩⟩⟩⟩⟩⟩⟩⟩⟩
def jb_162_0 (G : jx_Gv) : jx_B := ([jo_aload 0, jo_aload 0, jo_iload 1], .inr (.inr (.inr (.inl (158, 2, 6, some 8)))))
theorem jm_162_0 (G : jx_Gv) : jx_mo (jb_162_0 G).1 := ⟨mo_aload _, mo_aload _, mo_iload _, trivial⟩
def jb_162_6 (G : jx_Gv) : jx_B := ([], .inr (.inr (.inr (.inl (117, 2, 9, some 8)))))
theorem jm_162_6 (G : jx_Gv) : jx_mo (jb_162_6 G).1 := trivial
def jb_162_9 (G : jx_Gv) : jx_B := ([jo_istore 3, jo_aload 0, jo_aload 0, jo_iload 1], .inr (.inr (.inr (.inl (159, 2, 16, some 8)))))
theorem jm_162_9 (G : jx_Gv) : jx_mo (jb_162_9 G).1 := ⟨mo_istore _, mo_aload _, mo_aload _, mo_iload _, trivial⟩
def jb_162_16 (G : jx_Gv) : jx_B := ([], .inr (.inr (.inr (.inl (117, 2, 19, some 8)))))
theorem jm_162_16 (G : jx_Gv) : jx_mo (jb_162_16 G).1 := trivial
def jb_162_19 (G : jx_Gv) : jx_B := ([jo_istore 4, jo_const (.int (0 : Int32)), jo_istore 5, jo_const (.int (0 : Int32)), jo_istore 6], .inr (.inl 27))
theorem jm_162_19 (G : jx_Gv) : jx_mo (jb_162_19 G).1 := ⟨mo_istore _, mo_const _, mo_istore _, mo_const _, mo_istore _, trivial⟩
def jb_162_27 (G : jx_Gv) : jx_B := ([jo_iload 6, jo_aload 0, jo_getI 8 33], .inl (jc_ii (fun x y => decide (y ≤ x)), 159, 36))
theorem jm_162_27 (G : jx_Gv) : jx_mo (jb_162_27 G).1 := ⟨mo_iload _, mo_aload _, mo_getI _ _, trivial⟩
def jb_162_36 (G : jx_Gv) : jx_B := ([jo_iload 3], .inl (jc_i (fun x => decide (x < 0)), 159, 40))
theorem jm_162_36 (G : jx_Gv) : jx_mo (jb_162_36 G).1 := ⟨mo_iload _, trivial⟩
def jb_162_40 (G : jx_Gv) : jx_B := ([jo_iload 4], .inl (jc_i (fun x => decide (x < 0)), 159, 45))
theorem jm_162_40 (G : jx_Gv) : jx_mo (jb_162_40 G).1 := ⟨mo_iload _, trivial⟩
def jb_162_45 (G : jx_Gv) : jx_B := ([jo_aload 0, jo_getA 8 34, jo_iload 6, jo_iald 0, jo_const (.int (6 : Int32))], .inl (jc_ii (fun x y => decide (¬ x = y)), 153, 57))
theorem jm_162_45 (G : jx_Gv) : jx_mo (jb_162_45 G).1 := ⟨mo_aload _, mo_getA _ _, mo_iload _, mo_iald _, mo_const _, trivial⟩
def jb_162_57 (G : jx_Gv) : jx_B := ([jo_aload 0, jo_getA 8 35, jo_iload 6, jo_iald 0, jo_iload 4], .inl (jc_ii (fun x y => decide (x = y)), 72, 69))
theorem jm_162_57 (G : jx_Gv) : jx_mo (jb_162_57 G).1 := ⟨mo_aload _, mo_getA _ _, mo_iload _, mo_iald _, mo_iload _, trivial⟩
def jb_162_69 (G : jx_Gv) : jx_B := ([], .inr (.inl 153))
theorem jm_162_69 (G : jx_Gv) : jx_mo (jb_162_69 G).1 := trivial
def jb_162_72 (G : jx_Gv) : jx_B := ([jo_aload 0, jo_const (.int (9 : Int32)), jo_iload 3, jo_aload 0, jo_getA 8 36, jo_iload 6, jo_iald 0], .inr (.inr (.inr (.inl (116, 4, 86, some 8)))))
theorem jm_162_72 (G : jx_Gv) : jx_mo (jb_162_72 G).1 := ⟨mo_aload _, mo_const _, mo_iload _, mo_aload _, mo_getA _ _, mo_iload _, mo_iald _, trivial⟩
def jb_162_86 (G : jx_Gv) : jx_B := ([jo_istore 7, jo_iload 5], .inl (jc_i (fun x => decide (¬ x = 0)), 146, 93))
theorem jm_162_86 (G : jx_Gv) : jx_mo (jb_162_86 G).1 := ⟨mo_istore _, mo_iload _, trivial⟩
def jb_162_93 (G : jx_Gv) : jx_B := ([jo_iload 2, jo_const (.int (6 : Int32))], .inl (jc_ii (fun x y => decide (¬ x = y)), 107, 99))
theorem jm_162_93 (G : jx_Gv) : jx_mo (jb_162_93 G).1 := ⟨mo_iload _, mo_const _, trivial⟩
def jb_162_99 (G : jx_Gv) : jx_B := ([jo_iload 7], .inl (jc_i (fun x => decide (0 ≤ x)), 150, 104))
theorem jm_162_99 (G : jx_Gv) : jx_mo (jb_162_99 G).1 := ⟨mo_iload _, trivial⟩
def jb_162_104 (G : jx_Gv) : jx_B := ([], .inr (.inl 146))
theorem jm_162_104 (G : jx_Gv) : jx_mo (jb_162_104 G).1 := trivial
def jb_162_107 (G : jx_Gv) : jx_B := ([jo_iload 7], .inl (jc_i (fun x => decide (x < 0)), 150, 112))
theorem jm_162_107 (G : jx_Gv) : jx_mo (jb_162_107 G).1 := ⟨mo_iload _, trivial⟩
def jb_162_112 (G : jx_Gv) : jx_B := ([jo_aload 0, jo_aload 0, jo_const (.int (1 : Int32)), jo_const (.int (-1 : Int32)), jo_aload 0, jo_getA 8 37, jo_iload 7, jo_iald 0], .inr (.inr (.inr (.inl (116, 4, 126, some 8)))))
theorem jm_162_112 (G : jx_Gv) : jx_mo (jb_162_112 G).1 := ⟨mo_aload _, mo_aload _, mo_const _, mo_const _, mo_aload _, mo_getA _ _, mo_iload _, mo_iald _, trivial⟩
def jb_162_126 (G : jx_Gv) : jx_B := ([jo_aload 0, jo_const (.int (1 : Int32)), jo_const (.int (-1 : Int32)), jo_aload 0, jo_getA 8 37, jo_iload 6, jo_iald 0], .inr (.inr (.inr (.inl (116, 4, 139, some 8)))))
theorem jm_162_126 (G : jx_Gv) : jx_mo (jb_162_126 G).1 := ⟨mo_aload _, mo_const _, mo_const _, mo_aload _, mo_getA _ _, mo_iload _, mo_iald _, trivial⟩
def jb_162_139 (G : jx_Gv) : jx_B := ([jo_iload 2], .inr (.inr (.inr (.inl (161, 4, 143, some 8)))))
theorem jm_162_139 (G : jx_Gv) : jx_mo (jb_162_139 G).1 := ⟨mo_iload _, trivial⟩
def jb_162_143 (G : jx_Gv) : jx_B := ([], .inl (jc_i (fun x => decide (x = 0)), 150, 146))
theorem jm_162_143 (G : jx_Gv) : jx_mo (jb_162_143 G).1 := trivial
def jb_162_146 (G : jx_Gv) : jx_B := ([jo_const (.int (1 : Int32))], .inr (.inl 151))
theorem jm_162_146 (G : jx_Gv) : jx_mo (jb_162_146 G).1 := ⟨mo_const _, trivial⟩
def jb_162_150 (G : jx_Gv) : jx_B := ([jo_const (.int (0 : Int32))], .inr (.inl 151))
theorem jm_162_150 (G : jx_Gv) : jx_mo (jb_162_150 G).1 := ⟨mo_const _, trivial⟩
def jb_162_151 (G : jx_Gv) : jx_B := ([jo_istore 5], .inr (.inl 153))
theorem jm_162_151 (G : jx_Gv) : jx_mo (jb_162_151 G).1 := ⟨mo_istore _, trivial⟩
def jb_162_153 (G : jx_Gv) : jx_B := ([jo_iinc 6 (1 : Int32)], .inr (.inl 27))
theorem jm_162_153 (G : jx_Gv) : jx_mo (jb_162_153 G).1 := ⟨mo_iinc _ _, trivial⟩
def jb_162_159 (G : jx_Gv) : jx_B := ([jo_iload 5], .inr (.inr (.inr (.inr jr_z))))
theorem jm_162_159 (G : jx_Gv) : jx_mo (jb_162_159 G).1 := ⟨mo_iload _, trivial⟩
def jbs_162 (G : jx_Gv) : List (Nat × jx_B) := [(0, jb_162_0 G), (6, jb_162_6 G), (9, jb_162_9 G), (16, jb_162_16 G), (19, jb_162_19 G), (27, jb_162_27 G), (36, jb_162_36 G), (40, jb_162_40 G), (45, jb_162_45 G), (57, jb_162_57 G), (69, jb_162_69 G), (72, jb_162_72 G), (86, jb_162_86 G), (93, jb_162_93 G), (99, jb_162_99 G), (104, jb_162_104 G), (107, jb_162_107 G), (112, jb_162_112 G), (126, jb_162_126 G), (139, jb_162_139 G), (143, jb_162_143 G), (146, jb_162_146 G), (150, jb_162_150 G), (151, jb_162_151 G), (153, jb_162_153 G), (159, jb_162_159 G)]
theorem jms_162 (G : jx_Gv) : ∀ e ∈ jbs_162 G, jx_mo e.2.1 := List.forall_mem_cons.mpr ⟨jm_162_0 G, List.forall_mem_cons.mpr ⟨jm_162_6 G, List.forall_mem_cons.mpr ⟨jm_162_9 G, List.forall_mem_cons.mpr ⟨jm_162_16 G, List.forall_mem_cons.mpr ⟨jm_162_19 G, List.forall_mem_cons.mpr ⟨jm_162_27 G, List.forall_mem_cons.mpr ⟨jm_162_36 G, List.forall_mem_cons.mpr ⟨jm_162_40 G, List.forall_mem_cons.mpr ⟨jm_162_45 G, List.forall_mem_cons.mpr ⟨jm_162_57 G, List.forall_mem_cons.mpr ⟨jm_162_69 G, List.forall_mem_cons.mpr ⟨jm_162_72 G, List.forall_mem_cons.mpr ⟨jm_162_86 G, List.forall_mem_cons.mpr ⟨jm_162_93 G, List.forall_mem_cons.mpr ⟨jm_162_99 G, List.forall_mem_cons.mpr ⟨jm_162_104 G, List.forall_mem_cons.mpr ⟨jm_162_107 G, List.forall_mem_cons.mpr ⟨jm_162_112 G, List.forall_mem_cons.mpr ⟨jm_162_126 G, List.forall_mem_cons.mpr ⟨jm_162_139 G, List.forall_mem_cons.mpr ⟨jm_162_143 G, List.forall_mem_cons.mpr ⟨jm_162_146 G, List.forall_mem_cons.mpr ⟨jm_162_150 G, List.forall_mem_cons.mpr ⟨jm_162_151 G, List.forall_mem_cons.mpr ⟨jm_162_153 G, List.forall_mem_cons.mpr ⟨jm_162_159 G, fun _ h => absurd h List.not_mem_nil⟩⟩⟩⟩⟩⟩⟩⟩⟩⟩⟩⟩⟩⟩⟩⟩⟩⟩⟩⟩⟩⟩⟩⟩⟩⟩
def jb_163_0 (G : jx_Gv) : jx_B := ([jo_aload 0, jo_const (.int (7 : Int32)), jo_aload 0, jo_getA 8 35, jo_iload 1, jo_iald 0, jo_aload 0, jo_getA 8 39, jo_iload 1, jo_iald 0], .inr (.inr (.inr (.inl (116, 4, 18, some 8)))))
theorem jm_163_0 (G : jx_Gv) : jx_mo (jb_163_0 G).1 := ⟨mo_aload _, mo_const _, mo_aload _, mo_getA _ _, mo_iload _, mo_iald _, mo_aload _, mo_getA _ _, mo_iload _, mo_iald _, trivial⟩
def jb_163_18 (G : jx_Gv) : jx_B := ([jo_istore 2, jo_aload 0, jo_iload 1], .inr (.inr (.inr (.inl (159, 2, 24, some 8)))))
theorem jm_163_18 (G : jx_Gv) : jx_mo (jb_163_18 G).1 := ⟨mo_istore _, mo_aload _, mo_iload _, trivial⟩
def jb_163_24 (G : jx_Gv) : jx_B := ([jo_istore 3, jo_const (.int (0 : Int32)), jo_istore 4], .inr (.inl 28))
theorem jm_163_24 (G : jx_Gv) : jx_mo (jb_163_24 G).1 := ⟨mo_istore _, mo_const _, mo_istore _, trivial⟩
def jb_163_28 (G : jx_Gv) : jx_B := ([jo_iload 4, jo_iload 1], .inl (jc_ii (fun x y => decide (y ≤ x)), 108, 34))
theorem jm_163_28 (G : jx_Gv) : jx_mo (jb_163_28 G).1 := ⟨mo_iload _, mo_iload _, trivial⟩
def jb_163_34 (G : jx_Gv) : jx_B := ([jo_iload 3], .inl (jc_i (fun x => decide (x < 0)), 108, 38))
theorem jm_163_34 (G : jx_Gv) : jx_mo (jb_163_34 G).1 := ⟨mo_iload _, trivial⟩
def jb_163_38 (G : jx_Gv) : jx_B := ([jo_aload 0, jo_getA 8 34, jo_iload 4, jo_iald 0, jo_const (.int (12 : Int32))], .inl (jc_ii (fun x y => decide (¬ x = y)), 102, 50))
theorem jm_163_38 (G : jx_Gv) : jx_mo (jb_163_38 G).1 := ⟨mo_aload _, mo_getA _ _, mo_iload _, mo_iald _, mo_const _, trivial⟩
def jb_163_50 (G : jx_Gv) : jx_B := ([jo_aload 0, jo_getA 8 35, jo_iload 4, jo_iald 0, jo_aload 0, jo_getA 8 35, jo_iload 1, jo_iald 0], .inl (jc_ii (fun x y => decide (¬ x = y)), 102, 66))
theorem jm_163_50 (G : jx_Gv) : jx_mo (jb_163_50 G).1 := ⟨mo_aload _, mo_getA _ _, mo_iload _, mo_iald _, mo_aload _, mo_getA _ _, mo_iload _, mo_iald _, trivial⟩
def jb_163_66 (G : jx_Gv) : jx_B := ([jo_aload 0, jo_const (.int (7 : Int32)), jo_aload 0, jo_getA 8 35, jo_iload 4, jo_iald 0, jo_aload 0, jo_getA 8 39, jo_iload 4, jo_iald 0], .inr (.inr (.inr (.inl (116, 4, 86, some 8)))))
theorem jm_163_66 (G : jx_Gv) : jx_mo (jb_163_66 G).1 := ⟨mo_aload _, mo_const _, mo_aload _, mo_getA _ _, mo_iload _, mo_iald _, mo_aload _, mo_getA _ _, mo_iload _, mo_iald _, trivial⟩
def jb_163_86 (G : jx_Gv) : jx_B := ([jo_iload 2], .inl (jc_ii (fun x y => decide (¬ x = y)), 102, 90))
theorem jm_163_86 (G : jx_Gv) : jx_mo (jb_163_86 G).1 := ⟨mo_iload _, trivial⟩
def jb_163_90 (G : jx_Gv) : jx_B := ([jo_aload 0, jo_iload 4], .inr (.inr (.inr (.inl (159, 2, 96, some 8)))))
theorem jm_163_90 (G : jx_Gv) : jx_mo (jb_163_90 G).1 := ⟨mo_aload _, mo_iload _, trivial⟩
def jb_163_96 (G : jx_Gv) : jx_B := ([jo_iload 3], .inl (jc_ii (fun x y => decide (¬ x = y)), 102, 100))
theorem jm_163_96 (G : jx_Gv) : jx_mo (jb_163_96 G).1 := ⟨mo_iload _, trivial⟩
def jb_163_100 (G : jx_Gv) : jx_B := ([jo_const (.int (1 : Int32))], .inr (.inr (.inr (.inr jr_z))))
theorem jm_163_100 (G : jx_Gv) : jx_mo (jb_163_100 G).1 := ⟨mo_const _, trivial⟩
def jb_163_102 (G : jx_Gv) : jx_B := ([jo_iinc 4 (1 : Int32)], .inr (.inl 28))
theorem jm_163_102 (G : jx_Gv) : jx_mo (jb_163_102 G).1 := ⟨mo_iinc _ _, trivial⟩
def jb_163_108 (G : jx_Gv) : jx_B := ([jo_const (.int (0 : Int32))], .inr (.inr (.inr (.inr jr_z))))
theorem jm_163_108 (G : jx_Gv) : jx_mo (jb_163_108 G).1 := ⟨mo_const _, trivial⟩
def jbs_163 (G : jx_Gv) : List (Nat × jx_B) := [(0, jb_163_0 G), (18, jb_163_18 G), (24, jb_163_24 G), (28, jb_163_28 G), (34, jb_163_34 G), (38, jb_163_38 G), (50, jb_163_50 G), (66, jb_163_66 G), (86, jb_163_86 G), (90, jb_163_90 G), (96, jb_163_96 G), (100, jb_163_100 G), (102, jb_163_102 G), (108, jb_163_108 G)]
theorem jms_163 (G : jx_Gv) : ∀ e ∈ jbs_163 G, jx_mo e.2.1 := List.forall_mem_cons.mpr ⟨jm_163_0 G, List.forall_mem_cons.mpr ⟨jm_163_18 G, List.forall_mem_cons.mpr ⟨jm_163_24 G, List.forall_mem_cons.mpr ⟨jm_163_28 G, List.forall_mem_cons.mpr ⟨jm_163_34 G, List.forall_mem_cons.mpr ⟨jm_163_38 G, List.forall_mem_cons.mpr ⟨jm_163_50 G, List.forall_mem_cons.mpr ⟨jm_163_66 G, List.forall_mem_cons.mpr ⟨jm_163_86 G, List.forall_mem_cons.mpr ⟨jm_163_90 G, List.forall_mem_cons.mpr ⟨jm_163_96 G, List.forall_mem_cons.mpr ⟨jm_163_100 G, List.forall_mem_cons.mpr ⟨jm_163_102 G, List.forall_mem_cons.mpr ⟨jm_163_108 G, fun _ h => absurd h List.not_mem_nil⟩⟩⟩⟩⟩⟩⟩⟩⟩⟩⟩⟩⟩⟩
def jb_164_0 (G : jx_Gv) : jx_B := ([jo_aload 0, jo_iload 1], .inr (.inr (.inr (.inl (136, 2, 5, some 8)))))
theorem jm_164_0 (G : jx_Gv) : jx_mo (jb_164_0 G).1 := ⟨mo_aload _, mo_iload _, trivial⟩
def jb_164_5 (G : jx_Gv) : jx_B := ([jo_istore 2, jo_const (.int (0 : Int32)), jo_istore 3], .inr (.inl 8))
theorem jm_164_5 (G : jx_Gv) : jx_mo (jb_164_5 G).1 := ⟨mo_istore _, mo_const _, mo_istore _, trivial⟩
def jb_164_8 (G : jx_Gv) : jx_B := ([jo_iload 3, jo_aload 0, jo_getI 8 33], .inl (jc_ii (fun x y => decide (y ≤ x)), 38, 16))
theorem jm_164_8 (G : jx_Gv) : jx_mo (jb_164_8 G).1 := ⟨mo_iload _, mo_aload _, mo_getI _ _, trivial⟩
def jb_164_16 (G : jx_Gv) : jx_B := ([jo_aload 0, jo_getA 8 56, jo_iload 3, jo_iload 3, jo_iload 2], .inl (jc_ii (fun x y => decide (¬ x = y)), 30, 26))
theorem jm_164_16 (G : jx_Gv) : jx_mo (jb_164_16 G).1 := ⟨mo_aload _, mo_getA _ _, mo_iload _, mo_iload _, mo_iload _, trivial⟩
def jb_164_26 (G : jx_Gv) : jx_B := ([jo_const (.int (1 : Int32))], .inr (.inl 31))
theorem jm_164_26 (G : jx_Gv) : jx_mo (jb_164_26 G).1 := ⟨mo_const _, trivial⟩
def jb_164_30 (G : jx_Gv) : jx_B := ([jo_const (.int (0 : Int32))], .inr (.inl 31))
theorem jm_164_30 (G : jx_Gv) : jx_mo (jb_164_30 G).1 := ⟨mo_const _, trivial⟩
def jb_164_31 (G : jx_Gv) : jx_B := ([jo_zast 3, jo_iinc 3 (1 : Int32)], .inr (.inl 8))
theorem jm_164_31 (G : jx_Gv) : jx_mo (jb_164_31 G).1 := ⟨mo_zast _, mo_iinc _ _, trivial⟩
def jb_164_38 (G : jx_Gv) : jx_B := ([jo_iload 2], .inl (jc_i (fun x => decide (x < 0)), 46, 42))
theorem jm_164_38 (G : jx_Gv) : jx_mo (jb_164_38 G).1 := ⟨mo_iload _, trivial⟩
def jb_164_42 (G : jx_Gv) : jx_B := ([jo_const (.int (1 : Int32))], .inr (.inl 47))
theorem jm_164_42 (G : jx_Gv) : jx_mo (jb_164_42 G).1 := ⟨mo_const _, trivial⟩
def jb_164_46 (G : jx_Gv) : jx_B := ([jo_const (.int (0 : Int32))], .inr (.inl 47))
theorem jm_164_46 (G : jx_Gv) : jx_mo (jb_164_46 G).1 := ⟨mo_const _, trivial⟩
def jb_164_47 (G : jx_Gv) : jx_B := ([jo_istore 3], .inr (.inl 48))
theorem jm_164_47 (G : jx_Gv) : jx_mo (jb_164_47 G).1 := ⟨mo_istore _, trivial⟩
def jb_164_48 (G : jx_Gv) : jx_B := ([jo_iload 3], .inl (jc_i (fun x => decide (x = 0)), 141, 52))
theorem jm_164_48 (G : jx_Gv) : jx_mo (jb_164_48 G).1 := ⟨mo_iload _, trivial⟩
def jb_164_52 (G : jx_Gv) : jx_B := ([jo_const (.int (0 : Int32)), jo_istore 3, jo_const (.int (0 : Int32)), jo_istore 4], .inr (.inl 57))
theorem jm_164_52 (G : jx_Gv) : jx_mo (jb_164_52 G).1 := ⟨mo_const _, mo_istore _, mo_const _, mo_istore _, trivial⟩
def jb_164_57 (G : jx_Gv) : jx_B := ([jo_iload 4, jo_aload 0, jo_getI 8 33], .inl (jc_ii (fun x y => decide (y ≤ x)), 138, 66))
theorem jm_164_57 (G : jx_Gv) : jx_mo (jb_164_57 G).1 := ⟨mo_iload _, mo_aload _, mo_getI _ _, trivial⟩
def jb_164_66 (G : jx_Gv) : jx_B := ([jo_aload 0, jo_getA 8 34, jo_iload 4, jo_iald 0, jo_const (.int (11 : Int32))], .inl (jc_ii (fun x y => decide (¬ x = y)), 132, 78))
theorem jm_164_66 (G : jx_Gv) : jx_mo (jb_164_66 G).1 := ⟨mo_aload _, mo_getA _ _, mo_iload _, mo_iald _, mo_const _, trivial⟩
def jb_164_78 (G : jx_Gv) : jx_B := ([jo_aload 0, jo_getA 8 56, jo_aload 0, jo_getA 8 35, jo_iload 4, jo_iald 0, jo_iald 3], .inl (jc_i (fun x => decide (¬ x = 0)), 96, 93))
theorem jm_164_78 (G : jx_Gv) : jx_mo (jb_164_78 G).1 := ⟨mo_aload _, mo_getA _ _, mo_aload _, mo_getA _ _, mo_iload _, mo_iald _, mo_iald _, trivial⟩
def jb_164_93 (G : jx_Gv) : jx_B := ([], .inr (.inl 132))
theorem jm_164_93 (G : jx_Gv) : jx_mo (jb_164_93 G).1 := trivial
def jb_164_96 (G : jx_Gv) : jx_B := ([jo_aload 0, jo_iload 4], .inr (.inr (.inr (.inl (136, 2, 102, some 8)))))
theorem jm_164_96 (G : jx_Gv) : jx_mo (jb_164_96 G).1 := ⟨mo_aload _, mo_iload _, trivial⟩
def jb_164_102 (G : jx_Gv) : jx_B := ([jo_istore 5, jo_iload 5], .inl (jc_i (fun x => decide (x < 0)), 132, 109))
theorem jm_164_102 (G : jx_Gv) : jx_mo (jb_164_102 G).1 := ⟨mo_istore _, mo_iload _, trivial⟩
def jb_164_109 (G : jx_Gv) : jx_B := ([jo_aload 0, jo_getA 8 56, jo_iload 5, jo_iald 3], .inl (jc_i (fun x => decide (x = 0)), 122, 119))
theorem jm_164_109 (G : jx_Gv) : jx_mo (jb_164_109 G).1 := ⟨mo_aload _, mo_getA _ _, mo_iload _, mo_iald _, trivial⟩
def jb_164_119 (G : jx_Gv) : jx_B := ([], .inr (.inl 132))
theorem jm_164_119 (G : jx_Gv) : jx_mo (jb_164_119 G).1 := trivial
def jb_164_122 (G : jx_Gv) : jx_B := ([jo_aload 0, jo_getA 8 56, jo_iload 5, jo_const (.int (1 : Int32)), jo_zast 3, jo_const (.int (1 : Int32)), jo_istore 3], .inr (.inl 132))
theorem jm_164_122 (G : jx_Gv) : jx_mo (jb_164_122 G).1 := ⟨mo_aload _, mo_getA _ _, mo_iload _, mo_const _, mo_zast _, mo_const _, mo_istore _, trivial⟩
def jb_164_132 (G : jx_Gv) : jx_B := ([jo_iinc 4 (1 : Int32)], .inr (.inl 57))
theorem jm_164_132 (G : jx_Gv) : jx_mo (jb_164_132 G).1 := ⟨mo_iinc _ _, trivial⟩
def jb_164_138 (G : jx_Gv) : jx_B := ([], .inr (.inl 48))
theorem jm_164_138 (G : jx_Gv) : jx_mo (jb_164_138 G).1 := trivial
def jb_164_141 (G : jx_Gv) : jx_B := ([jo_iload 2], .inl (jc_i (fun x => decide (x < 0)), 163, 145))
theorem jm_164_141 (G : jx_Gv) : jx_mo (jb_164_141 G).1 := ⟨mo_iload _, trivial⟩
def jb_164_145 (G : jx_Gv) : jx_B := ([jo_aload 0, jo_getA 8 56, jo_aload 0, jo_getA 8 35, jo_iload 1, jo_iald 0, jo_iald 3], .inl (jc_i (fun x => decide (x = 0)), 163, 159))
theorem jm_164_145 (G : jx_Gv) : jx_mo (jb_164_145 G).1 := ⟨mo_aload _, mo_getA _ _, mo_aload _, mo_getA _ _, mo_iload _, mo_iald _, mo_iald _, trivial⟩
def jb_164_159 (G : jx_Gv) : jx_B := ([jo_const (.int (1 : Int32))], .inr (.inl 164))
theorem jm_164_159 (G : jx_Gv) : jx_mo (jb_164_159 G).1 := ⟨mo_const _, trivial⟩
def jb_164_163 (G : jx_Gv) : jx_B := ([jo_const (.int (0 : Int32))], .inr (.inl 164))
theorem jm_164_163 (G : jx_Gv) : jx_mo (jb_164_163 G).1 := ⟨mo_const _, trivial⟩
def jb_164_164 (G : jx_Gv) : jx_B := ([], .inr (.inr (.inr (.inr jr_z))))
theorem jm_164_164 (G : jx_Gv) : jx_mo (jb_164_164 G).1 := trivial
def jbs_164 (G : jx_Gv) : List (Nat × jx_B) := [(0, jb_164_0 G), (5, jb_164_5 G), (8, jb_164_8 G), (16, jb_164_16 G), (26, jb_164_26 G), (30, jb_164_30 G), (31, jb_164_31 G), (38, jb_164_38 G), (42, jb_164_42 G), (46, jb_164_46 G), (47, jb_164_47 G), (48, jb_164_48 G), (52, jb_164_52 G), (57, jb_164_57 G), (66, jb_164_66 G), (78, jb_164_78 G), (93, jb_164_93 G), (96, jb_164_96 G), (102, jb_164_102 G), (109, jb_164_109 G), (119, jb_164_119 G), (122, jb_164_122 G), (132, jb_164_132 G), (138, jb_164_138 G), (141, jb_164_141 G), (145, jb_164_145 G), (159, jb_164_159 G), (163, jb_164_163 G), (164, jb_164_164 G)]
theorem jms_164 (G : jx_Gv) : ∀ e ∈ jbs_164 G, jx_mo e.2.1 := List.forall_mem_cons.mpr ⟨jm_164_0 G, List.forall_mem_cons.mpr ⟨jm_164_5 G, List.forall_mem_cons.mpr ⟨jm_164_8 G, List.forall_mem_cons.mpr ⟨jm_164_16 G, List.forall_mem_cons.mpr ⟨jm_164_26 G, List.forall_mem_cons.mpr ⟨jm_164_30 G, List.forall_mem_cons.mpr ⟨jm_164_31 G, List.forall_mem_cons.mpr ⟨jm_164_38 G, List.forall_mem_cons.mpr ⟨jm_164_42 G, List.forall_mem_cons.mpr ⟨jm_164_46 G, List.forall_mem_cons.mpr ⟨jm_164_47 G, List.forall_mem_cons.mpr ⟨jm_164_48 G, List.forall_mem_cons.mpr ⟨jm_164_52 G, List.forall_mem_cons.mpr ⟨jm_164_57 G, List.forall_mem_cons.mpr ⟨jm_164_66 G, List.forall_mem_cons.mpr ⟨jm_164_78 G, List.forall_mem_cons.mpr ⟨jm_164_93 G, List.forall_mem_cons.mpr ⟨jm_164_96 G, List.forall_mem_cons.mpr ⟨jm_164_102 G, List.forall_mem_cons.mpr ⟨jm_164_109 G, List.forall_mem_cons.mpr ⟨jm_164_119 G, List.forall_mem_cons.mpr ⟨jm_164_122 G, List.forall_mem_cons.mpr ⟨jm_164_132 G, List.forall_mem_cons.mpr ⟨jm_164_138 G, List.forall_mem_cons.mpr ⟨jm_164_141 G, List.forall_mem_cons.mpr ⟨jm_164_145 G, List.forall_mem_cons.mpr ⟨jm_164_159 G, List.forall_mem_cons.mpr ⟨jm_164_163 G, List.forall_mem_cons.mpr ⟨jm_164_164 G, fun _ h => absurd h List.not_mem_nil⟩⟩⟩⟩⟩⟩⟩⟩⟩⟩⟩⟩⟩⟩⟩⟩⟩⟩⟩⟩⟩⟩⟩⟩⟩⟩⟩⟩⟩
def jb_165_0 (G : jx_Gv) : jx_B := ([jo_aload 0, jo_getA 8 34, jo_iload 1, jo_iald 0, jo_istore 3, jo_iload 2], .inr (.inr (.inl (jx_sw [((1 : Int32), 60), ((2 : Int32), 66), ((3 : Int32), 72), ((4 : Int32), 98), ((5 : Int32), 119), ((6 : Int32), 125), ((7 : Int32), 125), ((8 : Int32), 125), ((9 : Int32), 146)] 166))))
theorem jm_165_0 (G : jx_Gv) : jx_mo (jb_165_0 G).1 := ⟨mo_aload _, mo_getA _ _, mo_iload _, mo_iald _, mo_istore _, mo_iload _, trivial⟩
def jb_165_60 (G : jx_Gv) : jx_B := ([jo_aload 0, jo_iload 1], .inr (.inr (.inr (.inl (154, 2, 65, some 8)))))
theorem jm_165_60 (G : jx_Gv) : jx_mo (jb_165_60 G).1 := ⟨mo_aload _, mo_iload _, trivial⟩
def jb_165_65 (G : jx_Gv) : jx_B := ([], .inr (.inr (.inr (.inr jr_z))))
theorem jm_165_65 (G : jx_Gv) : jx_mo (jb_165_65 G).1 := trivial
def jb_165_66 (G : jx_Gv) : jx_B := ([jo_aload 0, jo_iload 1], .inr (.inr (.inr (.inl (157, 2, 71, some 8)))))
theorem jm_165_66 (G : jx_Gv) : jx_mo (jb_165_66 G).1 := ⟨mo_aload _, mo_iload _, trivial⟩
def jb_165_71 (G : jx_Gv) : jx_B := ([], .inr (.inr (.inr (.inr jr_z))))
theorem jm_165_71 (G : jx_Gv) : jx_mo (jb_165_71 G).1 := trivial
def jb_165_72 (G : jx_Gv) : jx_B := ([jo_iload 3, jo_const (.int (2 : Int32))], .inl (jc_ii (fun x y => decide (¬ x = y)), 96, 77))
theorem jm_165_72 (G : jx_Gv) : jx_mo (jb_165_72 G).1 := ⟨mo_iload _, mo_const _, trivial⟩
def jb_165_77 (G : jx_Gv) : jx_B := ([jo_aload 0, jo_getA 8 41, jo_iload 1, jo_iald 0, jo_aload 0, jo_getA 8 42, jo_iload 1, jo_iald 0], .inl (jc_ii (fun x y => decide (x ≤ y)), 96, 92))
theorem jm_165_77 (G : jx_Gv) : jx_mo (jb_165_77 G).1 := ⟨mo_aload _, mo_getA _ _, mo_iload _, mo_iald _, mo_aload _, mo_getA _ _, mo_iload _, mo_iald _, trivial⟩
def jb_165_92 (G : jx_Gv) : jx_B := ([jo_const (.int (1 : Int32))], .inr (.inl 97))
theorem jm_165_92 (G : jx_Gv) : jx_mo (jb_165_92 G).1 := ⟨mo_const _, trivial⟩
def jb_165_96 (G : jx_Gv) : jx_B := ([jo_const (.int (0 : Int32))], .inr (.inl 97))
theorem jm_165_96 (G : jx_Gv) : jx_mo (jb_165_96 G).1 := ⟨mo_const _, trivial⟩
def jb_165_97 (G : jx_Gv) : jx_B := ([], .inr (.inr (.inr (.inr jr_z))))
theorem jm_165_97 (G : jx_Gv) : jx_mo (jb_165_97 G).1 := trivial
def jb_165_98 (G : jx_Gv) : jx_B := ([jo_iload 3, jo_const (.int (10 : Int32))], .inl (jc_ii (fun x y => decide (¬ x = y)), 117, 104))
theorem jm_165_98 (G : jx_Gv) : jx_mo (jb_165_98 G).1 := ⟨mo_iload _, mo_const _, trivial⟩
def jb_165_104 (G : jx_Gv) : jx_B := ([jo_aload 0, jo_getA 8 43, jo_iload 1, jo_iald 0], .inl (jc_i (fun x => decide (¬ x = 0)), 117, 113))
theorem jm_165_104 (G : jx_Gv) : jx_mo (jb_165_104 G).1 := ⟨mo_aload _, mo_getA _ _, mo_iload _, mo_iald _, trivial⟩
def jb_165_113 (G : jx_Gv) : jx_B := ([jo_const (.int (1 : Int32))], .inr (.inl 118))
theorem jm_165_113 (G : jx_Gv) : jx_mo (jb_165_113 G).1 := ⟨mo_const _, trivial⟩
def jb_165_117 (G : jx_Gv) : jx_B := ([jo_const (.int (0 : Int32))], .inr (.inl 118))
theorem jm_165_117 (G : jx_Gv) : jx_mo (jb_165_117 G).1 := ⟨mo_const _, trivial⟩
def jb_165_118 (G : jx_Gv) : jx_B := ([], .inr (.inr (.inr (.inr jr_z))))
theorem jm_165_118 (G : jx_Gv) : jx_mo (jb_165_118 G).1 := trivial
def jb_165_119 (G : jx_Gv) : jx_B := ([jo_aload 0, jo_iload 1], .inr (.inr (.inr (.inl (160, 2, 124, some 8)))))
theorem jm_165_119 (G : jx_Gv) : jx_mo (jb_165_119 G).1 := ⟨mo_aload _, mo_iload _, trivial⟩
def jb_165_124 (G : jx_Gv) : jx_B := ([], .inr (.inr (.inr (.inr jr_z))))
theorem jm_165_124 (G : jx_Gv) : jx_mo (jb_165_124 G).1 := trivial
def jb_165_125 (G : jx_Gv) : jx_B := ([jo_iload 3, jo_const (.int (12 : Int32))], .inl (jc_ii (fun x y => decide (¬ x = y)), 144, 131))
theorem jm_165_125 (G : jx_Gv) : jx_mo (jb_165_125 G).1 := ⟨mo_iload _, mo_const _, trivial⟩
def jb_165_131 (G : jx_Gv) : jx_B := ([jo_aload 0, jo_iload 1, jo_iload 2], .inr (.inr (.inr (.inl (162, 3, 137, some 8)))))
theorem jm_165_131 (G : jx_Gv) : jx_mo (jb_165_131 G).1 := ⟨mo_aload _, mo_iload _, mo_iload _, trivial⟩
def jb_165_137 (G : jx_Gv) : jx_B := ([], .inl (jc_i (fun x => decide (x = 0)), 144, 140))
theorem jm_165_137 (G : jx_Gv) : jx_mo (jb_165_137 G).1 := trivial
def jb_165_140 (G : jx_Gv) : jx_B := ([jo_const (.int (1 : Int32))], .inr (.inl 145))
theorem jm_165_140 (G : jx_Gv) : jx_mo (jb_165_140 G).1 := ⟨mo_const _, trivial⟩
def jb_165_144 (G : jx_Gv) : jx_B := ([jo_const (.int (0 : Int32))], .inr (.inl 145))
theorem jm_165_144 (G : jx_Gv) : jx_mo (jb_165_144 G).1 := ⟨mo_const _, trivial⟩
def jb_165_145 (G : jx_Gv) : jx_B := ([], .inr (.inr (.inr (.inr jr_z))))
theorem jm_165_145 (G : jx_Gv) : jx_mo (jb_165_145 G).1 := trivial
def jb_165_146 (G : jx_Gv) : jx_B := ([jo_iload 3, jo_const (.int (12 : Int32))], .inl (jc_ii (fun x y => decide (¬ x = y)), 164, 152))
theorem jm_165_146 (G : jx_Gv) : jx_mo (jb_165_146 G).1 := ⟨mo_iload _, mo_const _, trivial⟩
def jb_165_152 (G : jx_Gv) : jx_B := ([jo_aload 0, jo_iload 1], .inr (.inr (.inr (.inl (163, 2, 157, some 8)))))
theorem jm_165_152 (G : jx_Gv) : jx_mo (jb_165_152 G).1 := ⟨mo_aload _, mo_iload _, trivial⟩
def jb_165_157 (G : jx_Gv) : jx_B := ([], .inl (jc_i (fun x => decide (x = 0)), 164, 160))
theorem jm_165_157 (G : jx_Gv) : jx_mo (jb_165_157 G).1 := trivial
def jb_165_160 (G : jx_Gv) : jx_B := ([jo_const (.int (1 : Int32))], .inr (.inl 165))
theorem jm_165_160 (G : jx_Gv) : jx_mo (jb_165_160 G).1 := ⟨mo_const _, trivial⟩
def jb_165_164 (G : jx_Gv) : jx_B := ([jo_const (.int (0 : Int32))], .inr (.inl 165))
theorem jm_165_164 (G : jx_Gv) : jx_mo (jb_165_164 G).1 := ⟨mo_const _, trivial⟩
def jb_165_165 (G : jx_Gv) : jx_B := ([], .inr (.inr (.inr (.inr jr_z))))
theorem jm_165_165 (G : jx_Gv) : jx_mo (jb_165_165 G).1 := trivial
def jb_165_166 (G : jx_Gv) : jx_B := ([jo_iload 3, jo_const (.int (11 : Int32))], .inl (jc_ii (fun x y => decide (¬ x = y)), 184, 172))
theorem jm_165_166 (G : jx_Gv) : jx_mo (jb_165_166 G).1 := ⟨mo_iload _, mo_const _, trivial⟩
def jb_165_172 (G : jx_Gv) : jx_B := ([jo_aload 0, jo_iload 1], .inr (.inr (.inr (.inl (164, 2, 177, some 8)))))
theorem jm_165_172 (G : jx_Gv) : jx_mo (jb_165_172 G).1 := ⟨mo_aload _, mo_iload _, trivial⟩
def jb_165_177 (G : jx_Gv) : jx_B := ([], .inl (jc_i (fun x => decide (x = 0)), 184, 180))
theorem jm_165_177 (G : jx_Gv) : jx_mo (jb_165_177 G).1 := trivial
def jb_165_180 (G : jx_Gv) : jx_B := ([jo_const (.int (1 : Int32))], .inr (.inl 185))
theorem jm_165_180 (G : jx_Gv) : jx_mo (jb_165_180 G).1 := ⟨mo_const _, trivial⟩
def jb_165_184 (G : jx_Gv) : jx_B := ([jo_const (.int (0 : Int32))], .inr (.inl 185))
theorem jm_165_184 (G : jx_Gv) : jx_mo (jb_165_184 G).1 := ⟨mo_const _, trivial⟩
def jb_165_185 (G : jx_Gv) : jx_B := ([], .inr (.inr (.inr (.inr jr_z))))
theorem jm_165_185 (G : jx_Gv) : jx_mo (jb_165_185 G).1 := trivial
def jbs_165 (G : jx_Gv) : List (Nat × jx_B) := [(0, jb_165_0 G), (60, jb_165_60 G), (65, jb_165_65 G), (66, jb_165_66 G), (71, jb_165_71 G), (72, jb_165_72 G), (77, jb_165_77 G), (92, jb_165_92 G), (96, jb_165_96 G), (97, jb_165_97 G), (98, jb_165_98 G), (104, jb_165_104 G), (113, jb_165_113 G), (117, jb_165_117 G), (118, jb_165_118 G), (119, jb_165_119 G), (124, jb_165_124 G), (125, jb_165_125 G), (131, jb_165_131 G), (137, jb_165_137 G), (140, jb_165_140 G), (144, jb_165_144 G), (145, jb_165_145 G), (146, jb_165_146 G), (152, jb_165_152 G), (157, jb_165_157 G), (160, jb_165_160 G), (164, jb_165_164 G), (165, jb_165_165 G), (166, jb_165_166 G), (172, jb_165_172 G), (177, jb_165_177 G), (180, jb_165_180 G), (184, jb_165_184 G), (185, jb_165_185 G)]
theorem jms_165 (G : jx_Gv) : ∀ e ∈ jbs_165 G, jx_mo e.2.1 := List.forall_mem_cons.mpr ⟨jm_165_0 G, List.forall_mem_cons.mpr ⟨jm_165_60 G, List.forall_mem_cons.mpr ⟨jm_165_65 G, List.forall_mem_cons.mpr ⟨jm_165_66 G, List.forall_mem_cons.mpr ⟨jm_165_71 G, List.forall_mem_cons.mpr ⟨jm_165_72 G, List.forall_mem_cons.mpr ⟨jm_165_77 G, List.forall_mem_cons.mpr ⟨jm_165_92 G, List.forall_mem_cons.mpr ⟨jm_165_96 G, List.forall_mem_cons.mpr ⟨jm_165_97 G, List.forall_mem_cons.mpr ⟨jm_165_98 G, List.forall_mem_cons.mpr ⟨jm_165_104 G, List.forall_mem_cons.mpr ⟨jm_165_113 G, List.forall_mem_cons.mpr ⟨jm_165_117 G, List.forall_mem_cons.mpr ⟨jm_165_118 G, List.forall_mem_cons.mpr ⟨jm_165_119 G, List.forall_mem_cons.mpr ⟨jm_165_124 G, List.forall_mem_cons.mpr ⟨jm_165_125 G, List.forall_mem_cons.mpr ⟨jm_165_131 G, List.forall_mem_cons.mpr ⟨jm_165_137 G, List.forall_mem_cons.mpr ⟨jm_165_140 G, List.forall_mem_cons.mpr ⟨jm_165_144 G, List.forall_mem_cons.mpr ⟨jm_165_145 G, List.forall_mem_cons.mpr ⟨jm_165_146 G, List.forall_mem_cons.mpr ⟨jm_165_152 G, List.forall_mem_cons.mpr ⟨jm_165_157 G, List.forall_mem_cons.mpr ⟨jm_165_160 G, List.forall_mem_cons.mpr ⟨jm_165_164 G, List.forall_mem_cons.mpr ⟨jm_165_165 G, List.forall_mem_cons.mpr ⟨jm_165_166 G, List.forall_mem_cons.mpr ⟨jm_165_172 G, List.forall_mem_cons.mpr ⟨jm_165_177 G, List.forall_mem_cons.mpr ⟨jm_165_180 G, List.forall_mem_cons.mpr ⟨jm_165_184 G, List.forall_mem_cons.mpr ⟨jm_165_185 G, fun _ h => absurd h List.not_mem_nil⟩⟩⟩⟩⟩⟩⟩⟩⟩⟩⟩⟩⟩⟩⟩⟩⟩⟩⟩⟩⟩⟩⟩⟩⟩⟩⟩⟩⟩⟩⟩⟩⟩⟩⟩
def jb_166_0 (G : jx_Gv) : jx_B := ([jo_aload 0, jo_getI 8 32], .inl (jc_i (fun x => decide (¬ x = 0)), 10, 7))
theorem jm_166_0 (G : jx_Gv) : jx_mo (jb_166_0 G).1 := ⟨mo_aload _, mo_getI _ _, trivial⟩
def jb_166_7 (G : jx_Gv) : jx_B := ([jo_const (.int (-3 : Int32))], .inr (.inr (.inr (.inr jr_i))))
theorem jm_166_7 (G : jx_Gv) : jx_mo (jb_166_7 G).1 := ⟨mo_const _, trivial⟩
def jb_166_10 (G : jx_Gv) : jx_B := ([jo_const (.int (0 : Int32)), jo_istore 1], .inr (.inl 12))
theorem jm_166_10 (G : jx_Gv) : jx_mo (jb_166_10 G).1 := ⟨mo_const _, mo_istore _, trivial⟩
def jb_166_12 (G : jx_Gv) : jx_B := ([jo_iload 1, jo_aload 0, jo_getI 8 33], .inl (jc_ii (fun x y => decide (y ≤ x)), 58, 20))
theorem jm_166_12 (G : jx_Gv) : jx_mo (jb_166_12 G).1 := ⟨mo_iload _, mo_aload _, mo_getI _ _, trivial⟩
def jb_166_20 (G : jx_Gv) : jx_B := ([jo_const (.int (1 : Int32)), jo_istore 2], .inr (.inl 22))
theorem jm_166_20 (G : jx_Gv) : jx_mo (jb_166_20 G).1 := ⟨mo_const _, mo_istore _, trivial⟩
def jb_166_22 (G : jx_Gv) : jx_B := ([jo_iload 2, jo_const (.int (11 : Int32))], .inl (jc_ii (fun x y => decide (y ≤ x)), 52, 28))
theorem jm_166_22 (G : jx_Gv) : jx_mo (jb_166_22 G).1 := ⟨mo_iload _, mo_const _, trivial⟩
def jb_166_28 (G : jx_Gv) : jx_B := ([jo_aload 0, jo_iload 1, jo_iload 2], .inr (.inr (.inr (.inl (165, 3, 34, some 8)))))
theorem jm_166_28 (G : jx_Gv) : jx_mo (jb_166_28 G).1 := ⟨mo_aload _, mo_iload _, mo_iload _, trivial⟩
def jb_166_34 (G : jx_Gv) : jx_B := ([], .inl (jc_i (fun x => decide (x = 0)), 46, 37))
theorem jm_166_34 (G : jx_Gv) : jx_mo (jb_166_34 G).1 := trivial
def jb_166_37 (G : jx_Gv) : jx_B := ([jo_const (.int (100 : Int32)), jo_iload 1, jo_const (.int (1 : Int32)), jo_ii (· + ·), jo_ii (· * ·), jo_iload 2, jo_ii (· + ·)], .inr (.inr (.inr (.inr jr_i))))
theorem jm_166_37 (G : jx_Gv) : jx_mo (jb_166_37 G).1 := ⟨mo_const _, mo_iload _, mo_const _, mo_ii _, mo_ii _, mo_iload _, mo_ii _, trivial⟩
def jb_166_46 (G : jx_Gv) : jx_B := ([jo_iinc 2 (1 : Int32)], .inr (.inl 22))
theorem jm_166_46 (G : jx_Gv) : jx_mo (jb_166_46 G).1 := ⟨mo_iinc _ _, trivial⟩
def jb_166_52 (G : jx_Gv) : jx_B := ([jo_iinc 1 (1 : Int32)], .inr (.inl 12))
theorem jm_166_52 (G : jx_Gv) : jx_mo (jb_166_52 G).1 := ⟨mo_iinc _ _, trivial⟩
def jb_166_58 (G : jx_Gv) : jx_B := ([jo_const (.int (0 : Int32))], .inr (.inr (.inr (.inr jr_i))))
theorem jm_166_58 (G : jx_Gv) : jx_mo (jb_166_58 G).1 := ⟨mo_const _, trivial⟩
def jbs_166 (G : jx_Gv) : List (Nat × jx_B) := [(0, jb_166_0 G), (7, jb_166_7 G), (10, jb_166_10 G), (12, jb_166_12 G), (20, jb_166_20 G), (22, jb_166_22 G), (28, jb_166_28 G), (34, jb_166_34 G), (37, jb_166_37 G), (46, jb_166_46 G), (52, jb_166_52 G), (58, jb_166_58 G)]
theorem jms_166 (G : jx_Gv) : ∀ e ∈ jbs_166 G, jx_mo e.2.1 := List.forall_mem_cons.mpr ⟨jm_166_0 G, List.forall_mem_cons.mpr ⟨jm_166_7 G, List.forall_mem_cons.mpr ⟨jm_166_10 G, List.forall_mem_cons.mpr ⟨jm_166_12 G, List.forall_mem_cons.mpr ⟨jm_166_20 G, List.forall_mem_cons.mpr ⟨jm_166_22 G, List.forall_mem_cons.mpr ⟨jm_166_28 G, List.forall_mem_cons.mpr ⟨jm_166_34 G, List.forall_mem_cons.mpr ⟨jm_166_37 G, List.forall_mem_cons.mpr ⟨jm_166_46 G, List.forall_mem_cons.mpr ⟨jm_166_52 G, List.forall_mem_cons.mpr ⟨jm_166_58 G, fun _ h => absurd h List.not_mem_nil⟩⟩⟩⟩⟩⟩⟩⟩⟩⟩⟩⟩
def jb_167_0 (G : jx_Gv) : jx_B := ([jo_iload 0, jo_istore 2, jo_iload 1, jo_istore 3, jo_const (.int (0 : Int32)), jo_istore 4], .inr (.inl 7))
theorem jm_167_0 (G : jx_Gv) : jx_mo (jb_167_0 G).1 := ⟨mo_iload _, mo_istore _, mo_iload _, mo_istore _, mo_const _, mo_istore _, trivial⟩
def jb_167_7 (G : jx_Gv) : jx_B := ([jo_iload 4, jo_const (.int (64 : Int32))], .inl (jc_ii (fun x y => decide (y ≤ x)), 34, 14))
theorem jm_167_7 (G : jx_Gv) : jx_mo (jb_167_7 G).1 := ⟨mo_iload _, mo_const _, trivial⟩
def jb_167_14 (G : jx_Gv) : jx_B := ([jo_iload 3], .inl (jc_i (fun x => decide (x ≤ 0)), 34, 18))
theorem jm_167_14 (G : jx_Gv) : jx_mo (jb_167_14 G).1 := ⟨mo_iload _, trivial⟩
def jb_167_18 (G : jx_Gv) : jx_B := ([jo_iload 2, jo_iload 3, jo_id (fun x y => x - x / y * y), jo_istore 5, jo_iload 3, jo_istore 2, jo_iload 5, jo_istore 3, jo_iinc 4 (1 : Int32)], .inr (.inl 7))
theorem jm_167_18 (G : jx_Gv) : jx_mo (jb_167_18 G).1 := ⟨mo_iload _, mo_iload _, mo_id _, mo_istore _, mo_iload _, mo_istore _, mo_iload _, mo_istore _, mo_iinc _ _, trivial⟩
def jb_167_34 (G : jx_Gv) : jx_B := ([jo_iload 2], .inr (.inr (.inr (.inr jr_i))))
theorem jm_167_34 (G : jx_Gv) : jx_mo (jb_167_34 G).1 := ⟨mo_iload _, trivial⟩
def jbs_167 (G : jx_Gv) : List (Nat × jx_B) := [(0, jb_167_0 G), (7, jb_167_7 G), (14, jb_167_14 G), (18, jb_167_18 G), (34, jb_167_34 G)]
theorem jms_167 (G : jx_Gv) : ∀ e ∈ jbs_167 G, jx_mo e.2.1 := List.forall_mem_cons.mpr ⟨jm_167_0 G, List.forall_mem_cons.mpr ⟨jm_167_7 G, List.forall_mem_cons.mpr ⟨jm_167_14 G, List.forall_mem_cons.mpr ⟨jm_167_18 G, List.forall_mem_cons.mpr ⟨jm_167_34 G, fun _ h => absurd h List.not_mem_nil⟩⟩⟩⟩⟩
def jb_168_0 (G : jx_Gv) : jx_B := ([jo_aload 0], .inr (.inr (.inr (.inl (106, 1, 4, some 0)))))
theorem jm_168_0 (G : jx_Gv) : jx_mo (jb_168_0 G).1 := ⟨mo_aload _, trivial⟩
def jb_168_4 (G : jx_Gv) : jx_B := ([jo_astore 4, jo_aload 4], .inl (jc_nonn, 13, 11))
theorem jm_168_4 (G : jx_Gv) : jx_mo (jb_168_4 G).1 := ⟨mo_astore _, mo_aload _, trivial⟩
def jb_168_11 (G : jx_Gv) : jx_B := ([jo_const (.int (-1 : Int32))], .inr (.inr (.inr (.inr jr_i))))
theorem jm_168_11 (G : jx_Gv) : jx_mo (jb_168_11 G).1 := ⟨mo_const _, trivial⟩
def jb_168_13 (G : jx_Gv) : jx_B := ([jo_aload 4, jo_const (.int (1 : Int32)), jo_const (.int (0 : Int32)), jo_iload 1], .inr (.inr (.inr (.inl (107, 4, 21, some 7)))))
theorem jm_168_13 (G : jx_Gv) : jx_mo (jb_168_13 G).1 := ⟨mo_aload _, mo_const _, mo_const _, mo_iload _, trivial⟩
def jb_168_21 (G : jx_Gv) : jx_B := ([jo_istore 5, jo_aload 4, jo_const (.int (1 : Int32)), jo_const (.int (0 : Int32)), jo_iload 2], .inr (.inr (.inr (.inl (107, 4, 31, some 7)))))
theorem jm_168_21 (G : jx_Gv) : jx_mo (jb_168_21 G).1 := ⟨mo_istore _, mo_aload _, mo_const _, mo_const _, mo_iload _, trivial⟩
def jb_168_31 (G : jx_Gv) : jx_B := ([jo_istore 6, jo_iload 5], .inl (jc_i (fun x => decide (x = 0)), 43, 38))
theorem jm_168_31 (G : jx_Gv) : jx_mo (jb_168_31 G).1 := ⟨mo_istore _, mo_iload _, trivial⟩
def jb_168_38 (G : jx_Gv) : jx_B := ([jo_iload 6], .inl (jc_i (fun x => decide (¬ x = 0)), 45, 43))
theorem jm_168_38 (G : jx_Gv) : jx_mo (jb_168_38 G).1 := ⟨mo_iload _, trivial⟩
def jb_168_43 (G : jx_Gv) : jx_B := ([jo_const (.int (-1 : Int32))], .inr (.inr (.inr (.inr jr_i))))
theorem jm_168_43 (G : jx_Gv) : jx_mo (jb_168_43 G).1 := ⟨mo_const _, trivial⟩
def jb_168_45 (G : jx_Gv) : jx_B := ([jo_aload 4, jo_iload 5, jo_const (.int (6 : Int32))], .inr (.inr (.inr (.inl (64, 3, 54, some 7)))))
theorem jm_168_45 (G : jx_Gv) : jx_mo (jb_168_45 G).1 := ⟨mo_aload _, mo_iload _, mo_const _, trivial⟩
def jb_168_54 (G : jx_Gv) : jx_B := ([jo_aload 4, jo_iload 6, jo_const (.int (6 : Int32))], .inr (.inr (.inr (.inl (64, 3, 63, some 7)))))
theorem jm_168_54 (G : jx_Gv) : jx_mo (jb_168_54 G).1 := ⟨mo_aload _, mo_iload _, mo_const _, trivial⟩
def jb_168_63 (G : jx_Gv) : jx_B := ([], .inl (jc_ii (fun x y => decide (x = y)), 69, 66))
theorem jm_168_63 (G : jx_Gv) : jx_mo (jb_168_63 G).1 := trivial
def jb_168_66 (G : jx_Gv) : jx_B := ([jo_const (.int (-3 : Int32))], .inr (.inr (.inr (.inr jr_i))))
theorem jm_168_66 (G : jx_Gv) : jx_mo (jb_168_66 G).1 := ⟨mo_const _, trivial⟩
def jb_168_69 (G : jx_Gv) : jx_B := ([jo_aload 4, jo_iload 5, jo_const (.int (3 : Int32))], .inr (.inr (.inr (.inl (64, 3, 77, some 7)))))
theorem jm_168_69 (G : jx_Gv) : jx_mo (jb_168_69 G).1 := ⟨mo_aload _, mo_iload _, mo_const _, trivial⟩
def jb_168_77 (G : jx_Gv) : jx_B := ([jo_aload 4, jo_iload 6, jo_const (.int (5 : Int32))], .inr (.inr (.inr (.inl (64, 3, 85, some 7)))))
theorem jm_168_77 (G : jx_Gv) : jx_mo (jb_168_77 G).1 := ⟨mo_aload _, mo_iload _, mo_const _, trivial⟩
def jb_168_85 (G : jx_Gv) : jx_B := ([jo_ii (· * ·), jo_istore 7, jo_aload 4, jo_iload 5, jo_const (.int (5 : Int32))], .inr (.inr (.inr (.inl (64, 3, 96, some 7)))))
theorem jm_168_85 (G : jx_Gv) : jx_mo (jb_168_85 G).1 := ⟨mo_ii _, mo_istore _, mo_aload _, mo_iload _, mo_const _, trivial⟩
def jb_168_96 (G : jx_Gv) : jx_B := ([jo_aload 4, jo_iload 6, jo_const (.int (3 : Int32))], .inr (.inr (.inr (.inl (64, 3, 104, some 7)))))
theorem jm_168_96 (G : jx_Gv) : jx_mo (jb_168_96 G).1 := ⟨mo_aload _, mo_iload _, mo_const _, trivial⟩
def jb_168_104 (G : jx_Gv) : jx_B := ([jo_ii (· * ·), jo_istore 8, jo_iload 7, jo_iload 8], .inr (.inr (.inr (.inl (167, 2, 114, none)))))
theorem jm_168_104 (G : jx_Gv) : jx_mo (jb_168_104 G).1 := ⟨mo_ii _, mo_istore _, mo_iload _, mo_iload _, trivial⟩
def jb_168_114 (G : jx_Gv) : jx_B := ([jo_istore 9, jo_iload 9], .inl (jc_i (fun x => decide (¬ x = 0)), 126, 121))
theorem jm_168_114 (G : jx_Gv) : jx_mo (jb_168_114 G).1 := ⟨mo_istore _, mo_iload _, trivial⟩
def jb_168_121 (G : jx_Gv) : jx_B := ([jo_const (.int (-3 : Int32))], .inr (.inl 140))
theorem jm_168_121 (G : jx_Gv) : jx_mo (jb_168_121 G).1 := ⟨mo_const _, trivial⟩
def jb_168_126 (G : jx_Gv) : jx_B := ([jo_iload 3], .inl (jc_i (fun x => decide (¬ x = 0)), 135, 130))
theorem jm_168_126 (G : jx_Gv) : jx_mo (jb_168_126 G).1 := ⟨mo_iload _, trivial⟩
def jb_168_130 (G : jx_Gv) : jx_B := ([jo_iload 7], .inr (.inl 137))
theorem jm_168_130 (G : jx_Gv) : jx_mo (jb_168_130 G).1 := ⟨mo_iload _, trivial⟩
def jb_168_135 (G : jx_Gv) : jx_B := ([jo_iload 8], .inr (.inl 137))
theorem jm_168_135 (G : jx_Gv) : jx_mo (jb_168_135 G).1 := ⟨mo_iload _, trivial⟩
def jb_168_137 (G : jx_Gv) : jx_B := ([jo_iload 9, jo_id (fun x y => x / y)], .inr (.inl 140))
theorem jm_168_137 (G : jx_Gv) : jx_mo (jb_168_137 G).1 := ⟨mo_iload _, mo_id _, trivial⟩
def jb_168_140 (G : jx_Gv) : jx_B := ([], .inr (.inr (.inr (.inr jr_i))))
theorem jm_168_140 (G : jx_Gv) : jx_mo (jb_168_140 G).1 := trivial
def jbs_168 (G : jx_Gv) : List (Nat × jx_B) := [(0, jb_168_0 G), (4, jb_168_4 G), (11, jb_168_11 G), (13, jb_168_13 G), (21, jb_168_21 G), (31, jb_168_31 G), (38, jb_168_38 G), (43, jb_168_43 G), (45, jb_168_45 G), (54, jb_168_54 G), (63, jb_168_63 G), (66, jb_168_66 G), (69, jb_168_69 G), (77, jb_168_77 G), (85, jb_168_85 G), (96, jb_168_96 G), (104, jb_168_104 G), (114, jb_168_114 G), (121, jb_168_121 G), (126, jb_168_126 G), (130, jb_168_130 G), (135, jb_168_135 G), (137, jb_168_137 G), (140, jb_168_140 G)]
theorem jms_168 (G : jx_Gv) : ∀ e ∈ jbs_168 G, jx_mo e.2.1 := List.forall_mem_cons.mpr ⟨jm_168_0 G, List.forall_mem_cons.mpr ⟨jm_168_4 G, List.forall_mem_cons.mpr ⟨jm_168_11 G, List.forall_mem_cons.mpr ⟨jm_168_13 G, List.forall_mem_cons.mpr ⟨jm_168_21 G, List.forall_mem_cons.mpr ⟨jm_168_31 G, List.forall_mem_cons.mpr ⟨jm_168_38 G, List.forall_mem_cons.mpr ⟨jm_168_43 G, List.forall_mem_cons.mpr ⟨jm_168_45 G, List.forall_mem_cons.mpr ⟨jm_168_54 G, List.forall_mem_cons.mpr ⟨jm_168_63 G, List.forall_mem_cons.mpr ⟨jm_168_66 G, List.forall_mem_cons.mpr ⟨jm_168_69 G, List.forall_mem_cons.mpr ⟨jm_168_77 G, List.forall_mem_cons.mpr ⟨jm_168_85 G, List.forall_mem_cons.mpr ⟨jm_168_96 G, List.forall_mem_cons.mpr ⟨jm_168_104 G, List.forall_mem_cons.mpr ⟨jm_168_114 G, List.forall_mem_cons.mpr ⟨jm_168_121 G, List.forall_mem_cons.mpr ⟨jm_168_126 G, List.forall_mem_cons.mpr ⟨jm_168_130 G, List.forall_mem_cons.mpr ⟨jm_168_135 G, List.forall_mem_cons.mpr ⟨jm_168_137 G, List.forall_mem_cons.mpr ⟨jm_168_140 G, fun _ h => absurd h List.not_mem_nil⟩⟩⟩⟩⟩⟩⟩⟩⟩⟩⟩⟩⟩⟩⟩⟩⟩⟩⟩⟩⟩⟩⟩⟩
def jb_169_0 (G : jx_Gv) : jx_B := ([jo_lload 0, jo_drop 3, jo_lstore 4, jo_lload 2, jo_drop 5, jo_lstore 6], .inr (.inl 6))
theorem jm_169_0 (G : jx_Gv) : jx_mo (jb_169_0 G).1 := ⟨mo_lload _, mo_drop _, mo_lstore _, mo_lload _, mo_drop _, mo_lstore _, trivial⟩
def jb_169_6 (G : jx_Gv) : jx_B := ([jo_lload 6, jo_const (.long (0 : Int64)), jo_lc lg_cmp], .inl (jc_i (fun x => decide (x ≤ 0)), 31, 13))
theorem jm_169_6 (G : jx_Gv) : jx_mo (jb_169_6 G).1 := ⟨mo_lload _, mo_const _, mo_lc _, trivial⟩
def jb_169_13 (G : jx_Gv) : jx_B := ([jo_lload 4, jo_lload 6, jo_ld (fun x y => x - x / y * y), jo_drop 7, jo_lstore 8, jo_lload 6, jo_drop 3, jo_lstore 4, jo_lload 8, jo_drop 5, jo_lstore 6], .inr (.inl 6))
theorem jm_169_13 (G : jx_Gv) : jx_mo (jb_169_13 G).1 := ⟨mo_lload _, mo_lload _, mo_ld _, mo_drop _, mo_lstore _, mo_lload _, mo_drop _, mo_lstore _, mo_lload _, mo_drop _, mo_lstore _, trivial⟩
def jb_169_31 (G : jx_Gv) : jx_B := ([jo_lload 4], .inr (.inr (.inr (.inr jr_l))))
theorem jm_169_31 (G : jx_Gv) : jx_mo (jb_169_31 G).1 := ⟨mo_lload _, trivial⟩
def jbs_169 (G : jx_Gv) : List (Nat × jx_B) := [(0, jb_169_0 G), (6, jb_169_6 G), (13, jb_169_13 G), (31, jb_169_31 G)]
theorem jms_169 (G : jx_Gv) : ∀ e ∈ jbs_169 G, jx_mo e.2.1 := List.forall_mem_cons.mpr ⟨jm_169_0 G, List.forall_mem_cons.mpr ⟨jm_169_6 G, List.forall_mem_cons.mpr ⟨jm_169_13 G, List.forall_mem_cons.mpr ⟨jm_169_31 G, fun _ h => absurd h List.not_mem_nil⟩⟩⟩⟩
def jb_170_0 (G : jx_Gv) : jx_B := ([jo_aload 0, jo_const (.int (0 : Int32)), jo_const (.int (-1 : Int32)), jo_iload 1], .inr (.inr (.inr (.inl (110, 4, 7, some 8)))))
theorem jm_170_0 (G : jx_Gv) : jx_mo (jb_170_0 G).1 := ⟨mo_aload _, mo_const _, mo_const _, mo_iload _, trivial⟩
def jb_170_7 (G : jx_Gv) : jx_B := ([jo_istore 4, jo_aload 0, jo_const (.int (0 : Int32)), jo_const (.int (-1 : Int32)), jo_iload 2], .inr (.inr (.inr (.inl (110, 4, 16, some 8)))))
theorem jm_170_7 (G : jx_Gv) : jx_mo (jb_170_7 G).1 := ⟨mo_istore _, mo_aload _, mo_const _, mo_const _, mo_iload _, trivial⟩
def jb_170_16 (G : jx_Gv) : jx_B := ([jo_istore 5, jo_iload 4], .inl (jc_i (fun x => decide (x < 0)), 28, 23))
theorem jm_170_16 (G : jx_Gv) : jx_mo (jb_170_16 G).1 := ⟨mo_istore _, mo_iload _, trivial⟩
def jb_170_23 (G : jx_Gv) : jx_B := ([jo_iload 5], .inl (jc_i (fun x => decide (0 ≤ x)), 30, 28))
theorem jm_170_23 (G : jx_Gv) : jx_mo (jb_170_23 G).1 := ⟨mo_iload _, trivial⟩
def jb_170_28 (G : jx_Gv) : jx_B := ([jo_const (.int (-1 : Int32))], .inr (.inr (.inr (.inr jr_i))))
theorem jm_170_28 (G : jx_Gv) : jx_mo (jb_170_28 G).1 := ⟨mo_const _, trivial⟩
def jb_170_30 (G : jx_Gv) : jx_B := ([jo_aload 0, jo_getA 8 37, jo_iload 4, jo_iald 0, jo_aload 0, jo_getA 8 37, jo_iload 5, jo_iald 0], .inl (jc_ii (fun x y => decide (x = y)), 50, 47))
theorem jm_170_30 (G : jx_Gv) : jx_mo (jb_170_30 G).1 := ⟨mo_aload _, mo_getA _ _, mo_iload _, mo_iald _, mo_aload _, mo_getA _ _, mo_iload _, mo_iald _, trivial⟩
def jb_170_47 (G : jx_Gv) : jx_B := ([jo_const (.int (-3 : Int32))], .inr (.inr (.inr (.inr jr_i))))
theorem jm_170_47 (G : jx_Gv) : jx_mo (jb_170_47 G).1 := ⟨mo_const _, trivial⟩
def jb_170_50 (G : jx_Gv) : jx_B := ([jo_aload 0, jo_getA 8 41, jo_iload 4, jo_iald 0, jo_i2l, jo_aload 0, jo_getA 8 42, jo_iload 5, jo_iald 0, jo_i2l, jo_ll (· * ·), jo_lstore 6, jo_aload 0, jo_getA 8 42, jo_iload 4, jo_iald 0, jo_i2l, jo_aload 0, jo_getA 8 41, jo_iload 5, jo_iald 0, jo_i2l, jo_ll (· * ·), jo_drop 7, jo_lstore 8], .inr (.inl 88))
theorem jm_170_50 (G : jx_Gv) : jx_mo (jb_170_50 G).1 := ⟨mo_aload _, mo_getA _ _, mo_iload _, mo_iald _, mo_i2l, mo_aload _, mo_getA _ _, mo_iload _, mo_iald _, mo_i2l, mo_ll _, mo_lstore _, mo_aload _, mo_getA _ _, mo_iload _, mo_iald _, mo_i2l, mo_aload _, mo_getA _ _, mo_iload _, mo_iald _, mo_i2l, mo_ll _, mo_drop _, mo_lstore _, trivial⟩
def jb_170_88 (G : jx_Gv) : jx_B := ([jo_lload 6, jo_lload 8], .inr (.inr (.inr (.inl (169, 2, 95, none)))))
theorem jm_170_88 (G : jx_Gv) : jx_mo (jb_170_88 G).1 := ⟨mo_lload _, mo_lload _, trivial⟩
def jb_170_95 (G : jx_Gv) : jx_B := ([jo_drop 9, jo_lstore 10, jo_iload 3], .inl (jc_i (fun x => decide (¬ x = 0)), 109, 101))
theorem jm_170_95 (G : jx_Gv) : jx_mo (jb_170_95 G).1 := ⟨mo_drop _, mo_lstore _, mo_iload _, trivial⟩
def jb_170_101 (G : jx_Gv) : jx_B := ([jo_lload 6, jo_lload 10, jo_ld (fun x y => x / y)], .inr (.inl 114))
theorem jm_170_101 (G : jx_Gv) : jx_mo (jb_170_101 G).1 := ⟨mo_lload _, mo_lload _, mo_ld _, trivial⟩
def jb_170_109 (G : jx_Gv) : jx_B := ([jo_lload 8, jo_lload 10, jo_ld (fun x y => x / y)], .inr (.inl 114))
theorem jm_170_109 (G : jx_Gv) : jx_mo (jb_170_109 G).1 := ⟨mo_lload _, mo_lload _, mo_ld _, trivial⟩
def jb_170_114 (G : jx_Gv) : jx_B := ([jo_l2i], .inr (.inr (.inr (.inr jr_i))))
theorem jm_170_114 (G : jx_Gv) : jx_mo (jb_170_114 G).1 := ⟨mo_l2i, trivial⟩
def jbs_170 (G : jx_Gv) : List (Nat × jx_B) := [(0, jb_170_0 G), (7, jb_170_7 G), (16, jb_170_16 G), (23, jb_170_23 G), (28, jb_170_28 G), (30, jb_170_30 G), (47, jb_170_47 G), (50, jb_170_50 G), (88, jb_170_88 G), (95, jb_170_95 G), (101, jb_170_101 G), (109, jb_170_109 G), (114, jb_170_114 G)]
theorem jms_170 (G : jx_Gv) : ∀ e ∈ jbs_170 G, jx_mo e.2.1 := List.forall_mem_cons.mpr ⟨jm_170_0 G, List.forall_mem_cons.mpr ⟨jm_170_7 G, List.forall_mem_cons.mpr ⟨jm_170_16 G, List.forall_mem_cons.mpr ⟨jm_170_23 G, List.forall_mem_cons.mpr ⟨jm_170_28 G, List.forall_mem_cons.mpr ⟨jm_170_30 G, List.forall_mem_cons.mpr ⟨jm_170_47 G, List.forall_mem_cons.mpr ⟨jm_170_50 G, List.forall_mem_cons.mpr ⟨jm_170_88 G, List.forall_mem_cons.mpr ⟨jm_170_95 G, List.forall_mem_cons.mpr ⟨jm_170_101 G, List.forall_mem_cons.mpr ⟨jm_170_109 G, List.forall_mem_cons.mpr ⟨jm_170_114 G, fun _ h => absurd h List.not_mem_nil⟩⟩⟩⟩⟩⟩⟩⟩⟩⟩⟩⟩⟩
def jb_171_0 (G : jx_Gv) : jx_B := ([jo_const (.int (0 : Int32)), jo_istore 2], .inr (.inl 2))
theorem jm_171_0 (G : jx_Gv) : jx_mo (jb_171_0 G).1 := ⟨mo_const _, mo_istore _, trivial⟩
def jb_171_2 (G : jx_Gv) : jx_B := ([jo_iload 2, jo_aload 0, jo_getA 2 0, jo_alen 1], .inl (jc_ii (fun x y => decide (y ≤ x)), 31, 11))
theorem jm_171_2 (G : jx_Gv) : jx_mo (jb_171_2 G).1 := ⟨mo_iload _, mo_aload _, mo_getA _ _, mo_alen _, trivial⟩
def jb_171_11 (G : jx_Gv) : jx_B := ([jo_const (.int (1 : Int32)), jo_iload 2, jo_ii (fun x y => x <<< (y &&& 31)), jo_iload 1], .inl (jc_ii (fun x y => decide (¬ x = y)), 25, 18))
theorem jm_171_11 (G : jx_Gv) : jx_mo (jb_171_11 G).1 := ⟨mo_const _, mo_iload _, mo_ii _, mo_iload _, trivial⟩
def jb_171_18 (G : jx_Gv) : jx_B := ([jo_aload 0, jo_getA 2 0, jo_iload 2, jo_lald 1], .inr (.inr (.inr (.inr jr_l))))
theorem jm_171_18 (G : jx_Gv) : jx_mo (jb_171_18 G).1 := ⟨mo_aload _, mo_getA _ _, mo_iload _, mo_lald _, trivial⟩
def jb_171_25 (G : jx_Gv) : jx_B := ([jo_iinc 2 (1 : Int32)], .inr (.inl 2))
theorem jm_171_25 (G : jx_Gv) : jx_mo (jb_171_25 G).1 := ⟨mo_iinc _ _, trivial⟩
def jb_171_31 (G : jx_Gv) : jx_B := ([jo_const (.long (0 : Int64))], .inr (.inr (.inr (.inr jr_l))))
theorem jm_171_31 (G : jx_Gv) : jx_mo (jb_171_31 G).1 := ⟨mo_const _, trivial⟩
def jbs_171 (G : jx_Gv) : List (Nat × jx_B) := [(0, jb_171_0 G), (2, jb_171_2 G), (11, jb_171_11 G), (18, jb_171_18 G), (25, jb_171_25 G), (31, jb_171_31 G)]
theorem jms_171 (G : jx_Gv) : ∀ e ∈ jbs_171 G, jx_mo e.2.1 := List.forall_mem_cons.mpr ⟨jm_171_0 G, List.forall_mem_cons.mpr ⟨jm_171_2 G, List.forall_mem_cons.mpr ⟨jm_171_11 G, List.forall_mem_cons.mpr ⟨jm_171_18 G, List.forall_mem_cons.mpr ⟨jm_171_25 G, List.forall_mem_cons.mpr ⟨jm_171_31 G, fun _ h => absurd h List.not_mem_nil⟩⟩⟩⟩⟩⟩
def jb_172_0 (G : jx_Gv) : jx_B := ([jo_iload 0, jo_const (.int (10 : Int32))], .inl (jc_ii (fun x y => decide (y < x)), 15, 6))
theorem jm_172_0 (G : jx_Gv) : jx_mo (jb_172_0 G).1 := ⟨mo_iload _, mo_const _, trivial⟩
def jb_172_6 (G : jx_Gv) : jx_B := ([jo_iload 0, jo_const (.int (1 : Int32)), jo_ii (· - ·), jo_const (.int (48 : Int32)), jo_ii (· + ·)], .inr (.inl 22))
theorem jm_172_6 (G : jx_Gv) : jx_mo (jb_172_6 G).1 := ⟨mo_iload _, mo_const _, mo_ii _, mo_const _, mo_ii _, trivial⟩
def jb_172_15 (G : jx_Gv) : jx_B := ([jo_iload 0, jo_const (.int (11 : Int32)), jo_ii (· - ·), jo_const (.int (97 : Int32)), jo_ii (· + ·)], .inr (.inl 22))
theorem jm_172_15 (G : jx_Gv) : jx_mo (jb_172_15 G).1 := ⟨mo_iload _, mo_const _, mo_ii _, mo_const _, mo_ii _, trivial⟩
def jb_172_22 (G : jx_Gv) : jx_B := ([], .inr (.inr (.inr (.inr jr_i))))
theorem jm_172_22 (G : jx_Gv) : jx_mo (jb_172_22 G).1 := trivial
def jbs_172 (G : jx_Gv) : List (Nat × jx_B) := [(0, jb_172_0 G), (6, jb_172_6 G), (15, jb_172_15 G), (22, jb_172_22 G)]
theorem jms_172 (G : jx_Gv) : ∀ e ∈ jbs_172 G, jx_mo e.2.1 := List.forall_mem_cons.mpr ⟨jm_172_0 G, List.forall_mem_cons.mpr ⟨jm_172_6 G, List.forall_mem_cons.mpr ⟨jm_172_15 G, List.forall_mem_cons.mpr ⟨jm_172_22 G, fun _ h => absurd h List.not_mem_nil⟩⟩⟩⟩
def jb_173_0 (G : jx_Gv) : jx_B := ([jo_lload 1, jo_drop 2, jo_lstore 3, jo_const (.int (0 : Int32)), jo_drop 4, jo_istore 5], .inr (.inl 5))
theorem jm_173_0 (G : jx_Gv) : jx_mo (jb_173_0 G).1 := ⟨mo_lload _, mo_drop _, mo_lstore _, mo_const _, mo_drop _, mo_istore _, trivial⟩
def jb_173_5 (G : jx_Gv) : jx_B := ([jo_iload 5, jo_const (.int (12 : Int32))], .inl (jc_ii (fun x y => decide (y ≤ x)), 46, 12))
theorem jm_173_5 (G : jx_Gv) : jx_mo (jb_173_5 G).1 := ⟨mo_iload _, mo_const _, trivial⟩
def jb_173_12 (G : jx_Gv) : jx_B := ([jo_lload 3, jo_const (.long (0 : Int64)), jo_lc lg_cmp], .inl (jc_i (fun x => decide (x ≤ 0)), 46, 18))
theorem jm_173_12 (G : jx_Gv) : jx_mo (jb_173_12 G).1 := ⟨mo_lload _, mo_const _, mo_lc _, trivial⟩
def jb_173_18 (G : jx_Gv) : jx_B := ([jo_aload 0, jo_getA 5 0, jo_lload 3, jo_const (.long (37 : Int64)), jo_ld (fun x y => x - x / y * y), jo_l2i], .inr (.inr (.inr (.inl (172, 1, 31, none)))))
theorem jm_173_18 (G : jx_Gv) : jx_mo (jb_173_18 G).1 := ⟨mo_aload _, mo_getA _ _, mo_lload _, mo_const _, mo_ld _, mo_l2i, trivial⟩
def jb_173_31 (G : jx_Gv) : jx_B := ([], .inr (.inr (.inr (.inl (18, 2, 34, some 1)))))
theorem jm_173_31 (G : jx_Gv) : jx_mo (jb_173_31 G).1 := trivial
def jb_173_34 (G : jx_Gv) : jx_B := ([jo_lload 3, jo_const (.long (37 : Int64)), jo_ld (fun x y => x / y), jo_drop 2, jo_lstore 3, jo_drop 4, jo_iinc 5 (1 : Int32)], .inr (.inl 5))
theorem jm_173_34 (G : jx_Gv) : jx_mo (jb_173_34 G).1 := ⟨mo_lload _, mo_const _, mo_ld _, mo_drop _, mo_lstore _, mo_drop _, mo_iinc _ _, trivial⟩
def jb_173_46 (G : jx_Gv) : jx_B := ([], .inr (.inr (.inr (.inr jr_v))))
theorem jm_173_46 (G : jx_Gv) : jx_mo (jb_173_46 G).1 := trivial
def jbs_173 (G : jx_Gv) : List (Nat × jx_B) := [(0, jb_173_0 G), (5, jb_173_5 G), (12, jb_173_12 G), (18, jb_173_18 G), (31, jb_173_31 G), (34, jb_173_34 G), (46, jb_173_46 G)]
theorem jms_173 (G : jx_Gv) : ∀ e ∈ jbs_173 G, jx_mo e.2.1 := List.forall_mem_cons.mpr ⟨jm_173_0 G, List.forall_mem_cons.mpr ⟨jm_173_5 G, List.forall_mem_cons.mpr ⟨jm_173_12 G, List.forall_mem_cons.mpr ⟨jm_173_18 G, List.forall_mem_cons.mpr ⟨jm_173_31 G, List.forall_mem_cons.mpr ⟨jm_173_34 G, List.forall_mem_cons.mpr ⟨jm_173_46 G, fun _ h => absurd h List.not_mem_nil⟩⟩⟩⟩⟩⟩⟩
def jb_174_0 (G : jx_Gv) : jx_B := ([jo_iload 1, jo_const (.int (1 : Int32))], .inl (jc_ii (fun x y => decide (x < y)), 13, 5))
theorem jm_174_0 (G : jx_Gv) : jx_mo (jb_174_0 G).1 := ⟨mo_iload _, mo_const _, trivial⟩
def jb_174_5 (G : jx_Gv) : jx_B := ([jo_iload 1, jo_aload 0, jo_getI 7 4], .inl (jc_ii (fun x y => decide (x ≤ y)), 17, 13))
theorem jm_174_5 (G : jx_Gv) : jx_mo (jb_174_5 G).1 := ⟨mo_iload _, mo_aload _, mo_getI _ _, trivial⟩
def jb_174_13 (G : jx_Gv) : jx_B := ([jo_const (.long (0 : Int64))], .inr (.inl 25))
theorem jm_174_13 (G : jx_Gv) : jx_mo (jb_174_13 G).1 := ⟨mo_const _, trivial⟩
def jb_174_17 (G : jx_Gv) : jx_B := ([jo_aload 0, jo_getA 7 3, jo_iload 1, jo_const (.int (1 : Int32)), jo_ii (· - ·), jo_lald 1], .inr (.inl 25))
theorem jm_174_17 (G : jx_Gv) : jx_mo (jb_174_17 G).1 := ⟨mo_aload _, mo_getA _ _, mo_iload _, mo_const _, mo_ii _, mo_lald _, trivial⟩
def jb_174_25 (G : jx_Gv) : jx_B := ([], .inr (.inr (.inr (.inr jr_l))))
theorem jm_174_25 (G : jx_Gv) : jx_mo (jb_174_25 G).1 := trivial
def jbs_174 (G : jx_Gv) : List (Nat × jx_B) := [(0, jb_174_0 G), (5, jb_174_5 G), (13, jb_174_13 G), (17, jb_174_17 G), (25, jb_174_25 G)]
theorem jms_174 (G : jx_Gv) : ∀ e ∈ jbs_174 G, jx_mo e.2.1 := List.forall_mem_cons.mpr ⟨jm_174_0 G, List.forall_mem_cons.mpr ⟨jm_174_5 G, List.forall_mem_cons.mpr ⟨jm_174_13 G, List.forall_mem_cons.mpr ⟨jm_174_17 G, List.forall_mem_cons.mpr ⟨jm_174_25 G, fun _ h => absurd h List.not_mem_nil⟩⟩⟩⟩⟩
def jb_175_0 (G : jx_Gv) : jx_B := ([jo_iload 1], .inl (jc_i (fun x => decide (0 ≤ x)), 22, 4))
theorem jm_175_0 (G : jx_Gv) : jx_mo (jb_175_0 G).1 := ⟨mo_iload _, trivial⟩
def jb_175_4 (G : jx_Gv) : jx_B := ([jo_aload 0, jo_getA 5 0, jo_const (.int (45 : Int32))], .inr (.inr (.inr (.inl (18, 2, 13, some 1)))))
theorem jm_175_4 (G : jx_Gv) : jx_mo (jb_175_4 G).1 := ⟨mo_aload _, mo_getA _ _, mo_const _, trivial⟩
def jb_175_13 (G : jx_Gv) : jx_B := ([jo_aload 0, jo_getA 5 0, jo_const (.int (32 : Int32))], .inr (.inr (.inr (.inl (18, 2, 22, some 1)))))
theorem jm_175_13 (G : jx_Gv) : jx_mo (jb_175_13 G).1 := ⟨mo_aload _, mo_getA _ _, mo_const _, trivial⟩
def jb_175_22 (G : jx_Gv) : jx_B := ([jo_iload 1, jo_m1 (fun x => if 0 ≤ x then x else 0 - x), jo_istore 2, jo_const (.int (100000 : Int32)), jo_istore 3], .inr (.inl 30))
theorem jm_175_22 (G : jx_Gv) : jx_mo (jb_175_22 G).1 := ⟨mo_iload _, mo_m1 _, mo_istore _, mo_const _, mo_istore _, trivial⟩
def jb_175_30 (G : jx_Gv) : jx_B := ([jo_iload 3], .inl (jc_i (fun x => decide (x ≤ 0)), 68, 34))
theorem jm_175_30 (G : jx_Gv) : jx_mo (jb_175_30 G).1 := ⟨mo_iload _, trivial⟩
def jb_175_34 (G : jx_Gv) : jx_B := ([jo_iload 2, jo_iload 3], .inl (jc_ii (fun x y => decide (y ≤ x)), 44, 39))
theorem jm_175_34 (G : jx_Gv) : jx_mo (jb_175_34 G).1 := ⟨mo_iload _, mo_iload _, trivial⟩
def jb_175_39 (G : jx_Gv) : jx_B := ([jo_iload 3, jo_const (.int (1 : Int32))], .inl (jc_ii (fun x y => decide (¬ x = y)), 60, 44))
theorem jm_175_39 (G : jx_Gv) : jx_mo (jb_175_39 G).1 := ⟨mo_iload _, mo_const _, trivial⟩
def jb_175_44 (G : jx_Gv) : jx_B := ([jo_aload 0, jo_getA 5 0, jo_const (.int (48 : Int32)), jo_iload 2, jo_iload 3, jo_id (fun x y => x / y), jo_const (.int (10 : Int32)), jo_id (fun x y => x - x / y * y), jo_ii (· + ·)], .inr (.inr (.inr (.inl (18, 2, 60, some 1)))))
theorem jm_175_44 (G : jx_Gv) : jx_mo (jb_175_44 G).1 := ⟨mo_aload _, mo_getA _ _, mo_const _, mo_iload _, mo_iload _, mo_id _, mo_const _, mo_id _, mo_ii _, trivial⟩
def jb_175_60 (G : jx_Gv) : jx_B := ([jo_iload 3, jo_const (.int (10 : Int32)), jo_id (fun x y => x / y), jo_istore 3], .inr (.inl 30))
theorem jm_175_60 (G : jx_Gv) : jx_mo (jb_175_60 G).1 := ⟨mo_iload _, mo_const _, mo_id _, mo_istore _, trivial⟩
def jb_175_68 (G : jx_Gv) : jx_B := ([], .inr (.inr (.inr (.inr jr_v))))
theorem jm_175_68 (G : jx_Gv) : jx_mo (jb_175_68 G).1 := trivial
def jbs_175 (G : jx_Gv) : List (Nat × jx_B) := [(0, jb_175_0 G), (4, jb_175_4 G), (13, jb_175_13 G), (22, jb_175_22 G), (30, jb_175_30 G), (34, jb_175_34 G), (39, jb_175_39 G), (44, jb_175_44 G), (60, jb_175_60 G), (68, jb_175_68 G)]
theorem jms_175 (G : jx_Gv) : ∀ e ∈ jbs_175 G, jx_mo e.2.1 := List.forall_mem_cons.mpr ⟨jm_175_0 G, List.forall_mem_cons.mpr ⟨jm_175_4 G, List.forall_mem_cons.mpr ⟨jm_175_13 G, List.forall_mem_cons.mpr ⟨jm_175_22 G, List.forall_mem_cons.mpr ⟨jm_175_30 G, List.forall_mem_cons.mpr ⟨jm_175_34 G, List.forall_mem_cons.mpr ⟨jm_175_39 G, List.forall_mem_cons.mpr ⟨jm_175_44 G, List.forall_mem_cons.mpr ⟨jm_175_60 G, List.forall_mem_cons.mpr ⟨jm_175_68 G, fun _ h => absurd h List.not_mem_nil⟩⟩⟩⟩⟩⟩⟩⟩⟩⟩
def jb_176_0 (G : jx_Gv) : jx_B := ([jo_aload 1, jo_iload 2, jo_iload 3], .inr (.inr (.inr (.inl (64, 3, 6, some 7)))))
theorem jm_176_0 (G : jx_Gv) : jx_mo (jb_176_0 G).1 := ⟨mo_aload _, mo_iload _, mo_iload _, trivial⟩
def jb_176_6 (G : jx_Gv) : jx_B := ([jo_istore 4, jo_aload 1, jo_iload 2, jo_iload 3], .inr (.inr (.inr (.inl (120, 3, 14, some 7)))))
theorem jm_176_6 (G : jx_Gv) : jx_mo (jb_176_6 G).1 := ⟨mo_istore _, mo_aload _, mo_iload _, mo_iload _, trivial⟩
def jb_176_14 (G : jx_Gv) : jx_B := ([], .inr (.inr (.inl (jx_sw [((1 : Int32), 40), ((2 : Int32), 56), ((3 : Int32), 69)] 78))))
theorem jm_176_14 (G : jx_Gv) : jx_mo (jb_176_14 G).1 := trivial
def jb_176_40 (G : jx_Gv) : jx_B := ([jo_aload 0, jo_aload 0, jo_getA 5 1, jo_iload 4], .inr (.inr (.inr (.inl (171, 2, 50, some 2)))))
theorem jm_176_40 (G : jx_Gv) : jx_mo (jb_176_40 G).1 := ⟨mo_aload _, mo_aload _, mo_getA _ _, mo_iload _, trivial⟩
def jb_176_50 (G : jx_Gv) : jx_B := ([], .inr (.inr (.inr (.inl (173, 2, 53, some 5)))))
theorem jm_176_50 (G : jx_Gv) : jx_mo (jb_176_50 G).1 := trivial
def jb_176_53 (G : jx_Gv) : jx_B := ([], .inr (.inl 87))
theorem jm_176_53 (G : jx_Gv) : jx_mo (jb_176_53 G).1 := trivial
def jb_176_56 (G : jx_Gv) : jx_B := ([jo_aload 0, jo_aload 1, jo_iload 4], .inr (.inr (.inr (.inl (174, 2, 63, some 7)))))
theorem jm_176_56 (G : jx_Gv) : jx_mo (jb_176_56 G).1 := ⟨mo_aload _, mo_aload _, mo_iload _, trivial⟩
def jb_176_63 (G : jx_Gv) : jx_B := ([], .inr (.inr (.inr (.inl (173, 2, 66, some 5)))))
theorem jm_176_63 (G : jx_Gv) : jx_mo (jb_176_63 G).1 := trivial
def jb_176_66 (G : jx_Gv) : jx_B := ([], .inr (.inl 87))
theorem jm_176_66 (G : jx_Gv) : jx_mo (jb_176_66 G).1 := trivial
def jb_176_69 (G : jx_Gv) : jx_B := ([jo_aload 0, jo_iload 4], .inr (.inr (.inr (.inl (175, 2, 75, some 5)))))
theorem jm_176_69 (G : jx_Gv) : jx_mo (jb_176_69 G).1 := ⟨mo_aload _, mo_iload _, trivial⟩
def jb_176_75 (G : jx_Gv) : jx_B := ([], .inr (.inl 87))
theorem jm_176_75 (G : jx_Gv) : jx_mo (jb_176_75 G).1 := trivial
def jb_176_78 (G : jx_Gv) : jx_B := ([jo_aload 0, jo_getA 5 0, jo_iload 4], .inr (.inr (.inr (.inl (18, 2, 87, some 1)))))
theorem jm_176_78 (G : jx_Gv) : jx_mo (jb_176_78 G).1 := ⟨mo_aload _, mo_getA _ _, mo_iload _, trivial⟩
def jb_176_87 (G : jx_Gv) : jx_B := ([], .inr (.inr (.inr (.inr jr_v))))
theorem jm_176_87 (G : jx_Gv) : jx_mo (jb_176_87 G).1 := trivial
def jbs_176 (G : jx_Gv) : List (Nat × jx_B) := [(0, jb_176_0 G), (6, jb_176_6 G), (14, jb_176_14 G), (40, jb_176_40 G), (50, jb_176_50 G), (53, jb_176_53 G), (56, jb_176_56 G), (63, jb_176_63 G), (66, jb_176_66 G), (69, jb_176_69 G), (75, jb_176_75 G), (78, jb_176_78 G), (87, jb_176_87 G)]
theorem jms_176 (G : jx_Gv) : ∀ e ∈ jbs_176 G, jx_mo e.2.1 := List.forall_mem_cons.mpr ⟨jm_176_0 G, List.forall_mem_cons.mpr ⟨jm_176_6 G, List.forall_mem_cons.mpr ⟨jm_176_14 G, List.forall_mem_cons.mpr ⟨jm_176_40 G, List.forall_mem_cons.mpr ⟨jm_176_50 G, List.forall_mem_cons.mpr ⟨jm_176_53 G, List.forall_mem_cons.mpr ⟨jm_176_56 G, List.forall_mem_cons.mpr ⟨jm_176_63 G, List.forall_mem_cons.mpr ⟨jm_176_66 G, List.forall_mem_cons.mpr ⟨jm_176_69 G, List.forall_mem_cons.mpr ⟨jm_176_75 G, List.forall_mem_cons.mpr ⟨jm_176_78 G, List.forall_mem_cons.mpr ⟨jm_176_87 G, fun _ h => absurd h List.not_mem_nil⟩⟩⟩⟩⟩⟩⟩⟩⟩⟩⟩⟩⟩
def jb_177_0 (G : jx_Gv) : jx_B := ([jo_const (.int (0 : Int32)), jo_istore 3], .inr (.inl 2))
theorem jm_177_0 (G : jx_Gv) : jx_mo (jb_177_0 G).1 := ⟨mo_const _, mo_istore _, trivial⟩
def jb_177_2 (G : jx_Gv) : jx_B := ([jo_iload 3, jo_aload 1, jo_iload 2], .inr (.inr (.inr (.inl (125, 2, 8, some 7)))))
theorem jm_177_2 (G : jx_Gv) : jx_mo (jb_177_2 G).1 := ⟨mo_iload _, mo_aload _, mo_iload _, trivial⟩
def jb_177_8 (G : jx_Gv) : jx_B := ([], .inl (jc_ii (fun x y => decide (y ≤ x)), 37, 11))
theorem jm_177_8 (G : jx_Gv) : jx_mo (jb_177_8 G).1 := trivial
def jb_177_11 (G : jx_Gv) : jx_B := ([jo_iload 3], .inl (jc_i (fun x => decide (x ≤ 0)), 24, 15))
theorem jm_177_11 (G : jx_Gv) : jx_mo (jb_177_11 G).1 := ⟨mo_iload _, trivial⟩
def jb_177_15 (G : jx_Gv) : jx_B := ([jo_aload 0, jo_getA 5 0, jo_const (.int (32 : Int32))], .inr (.inr (.inr (.inl (18, 2, 24, some 1)))))
theorem jm_177_15 (G : jx_Gv) : jx_mo (jb_177_15 G).1 := ⟨mo_aload _, mo_getA _ _, mo_const _, trivial⟩
def jb_177_24 (G : jx_Gv) : jx_B := ([jo_aload 0, jo_aload 1, jo_iload 2, jo_iload 3], .inr (.inr (.inr (.inl (176, 4, 31, some 5)))))
theorem jm_177_24 (G : jx_Gv) : jx_mo (jb_177_24 G).1 := ⟨mo_aload _, mo_aload _, mo_iload _, mo_iload _, trivial⟩
def jb_177_31 (G : jx_Gv) : jx_B := ([jo_iinc 3 (1 : Int32)], .inr (.inl 2))
theorem jm_177_31 (G : jx_Gv) : jx_mo (jb_177_31 G).1 := ⟨mo_iinc _ _, trivial⟩
def jb_177_37 (G : jx_Gv) : jx_B := ([jo_aload 0, jo_getA 5 0, jo_const (.int (10 : Int32))], .inr (.inr (.inr (.inl (18, 2, 46, some 1)))))
theorem jm_177_37 (G : jx_Gv) : jx_mo (jb_177_37 G).1 := ⟨mo_aload _, mo_getA _ _, mo_const _, trivial⟩
def jb_177_46 (G : jx_Gv) : jx_B := ([], .inr (.inr (.inr (.inr jr_v))))
theorem jm_177_46 (G : jx_Gv) : jx_mo (jb_177_46 G).1 := trivial
def jbs_177 (G : jx_Gv) : List (Nat × jx_B) := [(0, jb_177_0 G), (2, jb_177_2 G), (8, jb_177_8 G), (11, jb_177_11 G), (15, jb_177_15 G), (24, jb_177_24 G), (31, jb_177_31 G), (37, jb_177_37 G), (46, jb_177_46 G)]
theorem jms_177 (G : jx_Gv) : ∀ e ∈ jbs_177 G, jx_mo e.2.1 := List.forall_mem_cons.mpr ⟨jm_177_0 G, List.forall_mem_cons.mpr ⟨jm_177_2 G, List.forall_mem_cons.mpr ⟨jm_177_8 G, List.forall_mem_cons.mpr ⟨jm_177_11 G, List.forall_mem_cons.mpr ⟨jm_177_15 G, List.forall_mem_cons.mpr ⟨jm_177_24 G, List.forall_mem_cons.mpr ⟨jm_177_31 G, List.forall_mem_cons.mpr ⟨jm_177_37 G, List.forall_mem_cons.mpr ⟨jm_177_46 G, fun _ h => absurd h List.not_mem_nil⟩⟩⟩⟩⟩⟩⟩⟩⟩
def jb_178_0 (G : jx_Gv) : jx_B := ([jo_aload 0, jo_getA 5 0], .inr (.inr (.inr (.inl (61, 1, 7, some 1)))))
theorem jm_178_0 (G : jx_Gv) : jx_mo (jb_178_0 G).1 := ⟨mo_aload _, mo_getA _ _, trivial⟩
def jb_178_7 (G : jx_Gv) : jx_B := ([jo_const (.int (1 : Int32)), jo_istore 2], .inr (.inl 9))
theorem jm_178_7 (G : jx_Gv) : jx_mo (jb_178_7 G).1 := ⟨mo_const _, mo_istore _, trivial⟩
def jb_178_9 (G : jx_Gv) : jx_B := ([jo_iload 2, jo_aload 1], .inr (.inr (.inr (.inl (42, 1, 14, some 7)))))
theorem jm_178_9 (G : jx_Gv) : jx_mo (jb_178_9 G).1 := ⟨mo_iload _, mo_aload _, trivial⟩
def jb_178_14 (G : jx_Gv) : jx_B := ([], .inl (jc_ii (fun x y => decide (y < x)), 29, 17))
theorem jm_178_14 (G : jx_Gv) : jx_mo (jb_178_14 G).1 := trivial
def jb_178_17 (G : jx_Gv) : jx_B := ([jo_aload 0, jo_aload 1, jo_iload 2], .inr (.inr (.inr (.inl (177, 3, 23, some 5)))))
theorem jm_178_17 (G : jx_Gv) : jx_mo (jb_178_17 G).1 := ⟨mo_aload _, mo_aload _, mo_iload _, trivial⟩
def jb_178_23 (G : jx_Gv) : jx_B := ([jo_iinc 2 (1 : Int32)], .inr (.inl 9))
theorem jm_178_23 (G : jx_Gv) : jx_mo (jb_178_23 G).1 := ⟨mo_iinc _ _, trivial⟩
def jb_178_29 (G : jx_Gv) : jx_B := ([], .inr (.inr (.inr (.inr jr_v))))
theorem jm_178_29 (G : jx_Gv) : jx_mo (jb_178_29 G).1 := trivial
def jbs_178 (G : jx_Gv) : List (Nat × jx_B) := [(0, jb_178_0 G), (7, jb_178_7 G), (9, jb_178_9 G), (14, jb_178_14 G), (17, jb_178_17 G), (23, jb_178_23 G), (29, jb_178_29 G)]
theorem jms_178 (G : jx_Gv) : ∀ e ∈ jbs_178 G, jx_mo e.2.1 := List.forall_mem_cons.mpr ⟨jm_178_0 G, List.forall_mem_cons.mpr ⟨jm_178_7 G, List.forall_mem_cons.mpr ⟨jm_178_9 G, List.forall_mem_cons.mpr ⟨jm_178_14 G, List.forall_mem_cons.mpr ⟨jm_178_17 G, List.forall_mem_cons.mpr ⟨jm_178_23 G, List.forall_mem_cons.mpr ⟨jm_178_29 G, fun _ h => absurd h List.not_mem_nil⟩⟩⟩⟩⟩⟩⟩
def jb_179_0 (G : jx_Gv) : jx_B := ([jo_aload 0, jo_getI 1 2], .inr (.inr (.inr (.inr jr_z))))
theorem jm_179_0 (G : jx_Gv) : jx_mo (jb_179_0 G).1 := ⟨mo_aload _, mo_getI _ _, trivial⟩
def jbs_179 (G : jx_Gv) : List (Nat × jx_B) := [(0, jb_179_0 G)]
theorem jms_179 (G : jx_Gv) : ∀ e ∈ jbs_179 G, jx_mo e.2.1 := List.forall_mem_cons.mpr ⟨jm_179_0 G, fun _ h => absurd h List.not_mem_nil⟩
def jb_180_0 (G : jx_Gv) : jx_B := ([jo_aload 0], .inr (.inr (.inr (.inl (106, 1, 4, some 0)))))
theorem jm_180_0 (G : jx_Gv) : jx_mo (jb_180_0 G).1 := ⟨mo_aload _, trivial⟩
def jb_180_4 (G : jx_Gv) : jx_B := ([jo_astore 1, jo_aload 1], .inl (jc_nonn, 12, 9))
theorem jm_180_4 (G : jx_Gv) : jx_mo (jb_180_4 G).1 := ⟨mo_astore _, mo_aload _, trivial⟩
def jb_180_9 (G : jx_Gv) : jx_B := ([jo_const (.int (-3 : Int32))], .inr (.inr (.inr (.inr jr_i))))
theorem jm_180_9 (G : jx_Gv) : jx_mo (jb_180_9 G).1 := ⟨mo_const _, trivial⟩
def jb_180_12 (G : jx_Gv) : jx_B := ([jo_aload 0, jo_getA 0 2, jo_aload 1], .inr (.inr (.inr (.inl (178, 2, 20, some 5)))))
theorem jm_180_12 (G : jx_Gv) : jx_mo (jb_180_12 G).1 := ⟨mo_aload _, mo_getA _ _, mo_aload _, trivial⟩
def jb_180_20 (G : jx_Gv) : jx_B := ([jo_aload 0, jo_getA 0 0], .inr (.inr (.inr (.inl (179, 1, 27, some 1)))))
theorem jm_180_20 (G : jx_Gv) : jx_mo (jb_180_20 G).1 := ⟨mo_aload _, mo_getA _ _, trivial⟩
def jb_180_27 (G : jx_Gv) : jx_B := ([], .inl (jc_i (fun x => decide (x = 0)), 40, 30))
theorem jm_180_27 (G : jx_Gv) : jx_mo (jb_180_27 G).1 := trivial
def jb_180_30 (G : jx_Gv) : jx_B := ([jo_aload 0, jo_getA 0 0], .inr (.inr (.inr (.inl (61, 1, 37, some 1)))))
theorem jm_180_30 (G : jx_Gv) : jx_mo (jb_180_30 G).1 := ⟨mo_aload _, mo_getA _ _, trivial⟩
def jb_180_37 (G : jx_Gv) : jx_B := ([jo_const (.int (-4 : Int32))], .inr (.inr (.inr (.inr jr_i))))
theorem jm_180_37 (G : jx_Gv) : jx_mo (jb_180_37 G).1 := ⟨mo_const _, trivial⟩
def jb_180_40 (G : jx_Gv) : jx_B := ([jo_aload 0, jo_getA 0 0], .inr (.inr (.inr (.inl (27, 1, 47, some 1)))))
theorem jm_180_40 (G : jx_Gv) : jx_mo (jb_180_40 G).1 := ⟨mo_aload _, mo_getA _ _, trivial⟩
def jb_180_47 (G : jx_Gv) : jx_B := ([], .inr (.inr (.inr (.inr jr_i))))
theorem jm_180_47 (G : jx_Gv) : jx_mo (jb_180_47 G).1 := trivial
def jbs_180 (G : jx_Gv) : List (Nat × jx_B) := [(0, jb_180_0 G), (4, jb_180_4 G), (9, jb_180_9 G), (12, jb_180_12 G), (20, jb_180_20 G), (27, jb_180_27 G), (30, jb_180_30 G), (37, jb_180_37 G), (40, jb_180_40 G), (47, jb_180_47 G)]
theorem jms_180 (G : jx_Gv) : ∀ e ∈ jbs_180 G, jx_mo e.2.1 := List.forall_mem_cons.mpr ⟨jm_180_0 G, List.forall_mem_cons.mpr ⟨jm_180_4 G, List.forall_mem_cons.mpr ⟨jm_180_9 G, List.forall_mem_cons.mpr ⟨jm_180_12 G, List.forall_mem_cons.mpr ⟨jm_180_20 G, List.forall_mem_cons.mpr ⟨jm_180_27 G, List.forall_mem_cons.mpr ⟨jm_180_30 G, List.forall_mem_cons.mpr ⟨jm_180_37 G, List.forall_mem_cons.mpr ⟨jm_180_40 G, List.forall_mem_cons.mpr ⟨jm_180_47 G, fun _ h => absurd h List.not_mem_nil⟩⟩⟩⟩⟩⟩⟩⟩⟩⟩
def jb_181_0 (G : jx_Gv) : jx_B := ([jo_aload 0, jo_getI 8 32], .inl (jc_i (fun x => decide (¬ x = 0)), 10, 7))
theorem jm_181_0 (G : jx_Gv) : jx_mo (jb_181_0 G).1 := ⟨mo_aload _, mo_getI _ _, trivial⟩
def jb_181_7 (G : jx_Gv) : jx_B := ([jo_const (.int (-3 : Int32))], .inr (.inr (.inr (.inr jr_i))))
theorem jm_181_7 (G : jx_Gv) : jx_mo (jb_181_7 G).1 := ⟨mo_const _, trivial⟩
def jb_181_10 (G : jx_Gv) : jx_B := ([jo_aload 0, jo_const (.int (0 : Int32)), jo_putI 8 0, jo_aload 0, jo_getA 8 50, jo_aload 0, jo_getI 8 33, jo_iald 0, jo_aload 0, jo_getI 8 33, jo_ii (· + ·), jo_const (.int (2000 : Int32))], .inl (jc_ii (fun x y => decide (x ≤ y)), 38, 35))
theorem jm_181_10 (G : jx_Gv) : jx_mo (jb_181_10 G).1 := ⟨mo_aload _, mo_const _, mo_putI _ _, mo_aload _, mo_getA _ _, mo_aload _, mo_getI _ _, mo_iald _, mo_aload _, mo_getI _ _, mo_ii _, mo_const _, trivial⟩
def jb_181_35 (G : jx_Gv) : jx_B := ([jo_const (.int (-4 : Int32))], .inr (.inr (.inr (.inr jr_i))))
theorem jm_181_35 (G : jx_Gv) : jx_mo (jb_181_35 G).1 := ⟨mo_const _, trivial⟩
def jb_181_38 (G : jx_Gv) : jx_B := ([jo_const (.int (0 : Int32)), jo_istore 1], .inr (.inl 40))
theorem jm_181_38 (G : jx_Gv) : jx_mo (jb_181_38 G).1 := ⟨mo_const _, mo_istore _, trivial⟩
def jb_181_40 (G : jx_Gv) : jx_B := ([jo_iload 1, jo_aload 0, jo_getI 8 33], .inl (jc_ii (fun x y => decide (y ≤ x)), 125, 48))
theorem jm_181_40 (G : jx_Gv) : jx_mo (jb_181_40 G).1 := ⟨mo_iload _, mo_aload _, mo_getI _ _, trivial⟩
def jb_181_48 (G : jx_Gv) : jx_B := ([jo_aload 0, jo_getA 8 50, jo_iload 1, jo_iald 0, jo_istore 2], .inr (.inl 55))
theorem jm_181_48 (G : jx_Gv) : jx_mo (jb_181_48 G).1 := ⟨mo_aload _, mo_getA _ _, mo_iload _, mo_iald _, mo_istore _, trivial⟩
def jb_181_55 (G : jx_Gv) : jx_B := ([jo_iload 2, jo_aload 0, jo_getA 8 50, jo_iload 1, jo_const (.int (1 : Int32)), jo_ii (· + ·), jo_iald 0], .inl (jc_ii (fun x y => decide (y ≤ x)), 98, 67))
theorem jm_181_55 (G : jx_Gv) : jx_mo (jb_181_55 G).1 := ⟨mo_iload _, mo_aload _, mo_getA _ _, mo_iload _, mo_const _, mo_ii _, mo_iald _, trivial⟩
def jb_181_67 (G : jx_Gv) : jx_B := ([jo_aload 0, jo_getA 8 1, jo_aload 0, jo_getI 8 0, jo_aload 0, jo_getA 8 49, jo_iload 2, jo_iald 0, jo_iast 0, jo_aload 0, jo_dup, jo_getI 8 0, jo_const (.int (1 : Int32)), jo_ii (· + ·), jo_putI 8 0, jo_iinc 2 (1 : Int32)], .inr (.inl 55))
theorem jm_181_67 (G : jx_Gv) : jx_mo (jb_181_67 G).1 := ⟨mo_aload _, mo_getA _ _, mo_aload _, mo_getI _ _, mo_aload _, mo_getA _ _, mo_iload _, mo_iald _, mo_iast _, mo_aload _, mo_dup, mo_getI _ _, mo_const _, mo_ii _, mo_putI _ _, mo_iinc _ _, trivial⟩
def jb_181_98 (G : jx_Gv) : jx_B := ([jo_aload 0, jo_getA 8 1, jo_aload 0, jo_getI 8 0, jo_const (.int (10 : Int32)), jo_iast 0, jo_aload 0, jo_dup, jo_getI 8 0, jo_const (.int (1 : Int32)), jo_ii (· + ·), jo_putI 8 0, jo_iinc 1 (1 : Int32)], .inr (.inl 40))
theorem jm_181_98 (G : jx_Gv) : jx_mo (jb_181_98 G).1 := ⟨mo_aload _, mo_getA _ _, mo_aload _, mo_getI _ _, mo_const _, mo_iast _, mo_aload _, mo_dup, mo_getI _ _, mo_const _, mo_ii _, mo_putI _ _, mo_iinc _ _, trivial⟩
def jb_181_125 (G : jx_Gv) : jx_B := ([jo_aload 0, jo_getI 8 0], .inr (.inr (.inr (.inr jr_i))))
theorem jm_181_125 (G : jx_Gv) : jx_mo (jb_181_125 G).1 := ⟨mo_aload _, mo_getI _ _, trivial⟩
def jbs_181 (G : jx_Gv) : List (Nat × jx_B) := [(0, jb_181_0 G), (7, jb_181_7 G), (10, jb_181_10 G), (35, jb_181_35 G), (38, jb_181_38 G), (40, jb_181_40 G), (48, jb_181_48 G), (55, jb_181_55 G), (67, jb_181_67 G), (98, jb_181_98 G), (125, jb_181_125 G)]
theorem jms_181 (G : jx_Gv) : ∀ e ∈ jbs_181 G, jx_mo e.2.1 := List.forall_mem_cons.mpr ⟨jm_181_0 G, List.forall_mem_cons.mpr ⟨jm_181_7 G, List.forall_mem_cons.mpr ⟨jm_181_10 G, List.forall_mem_cons.mpr ⟨jm_181_35 G, List.forall_mem_cons.mpr ⟨jm_181_38 G, List.forall_mem_cons.mpr ⟨jm_181_40 G, List.forall_mem_cons.mpr ⟨jm_181_48 G, List.forall_mem_cons.mpr ⟨jm_181_55 G, List.forall_mem_cons.mpr ⟨jm_181_67 G, List.forall_mem_cons.mpr ⟨jm_181_98 G, List.forall_mem_cons.mpr ⟨jm_181_125 G, fun _ h => absurd h List.not_mem_nil⟩⟩⟩⟩⟩⟩⟩⟩⟩⟩⟩
def jb_182_0 (G : jx_Gv) : jx_B := ([jo_aload 0, jo_getA 0 0, jo_iload 1], .inr (.inr (.inr (.inl (28, 2, 8, some 1)))))
theorem jm_182_0 (G : jx_Gv) : jx_mo (jb_182_0 G).1 := ⟨mo_aload _, mo_getA _ _, mo_iload _, trivial⟩
def jb_182_8 (G : jx_Gv) : jx_B := ([], .inr (.inr (.inr (.inr jr_i))))
theorem jm_182_8 (G : jx_Gv) : jx_mo (jb_182_8 G).1 := trivial
def jbs_182 (G : jx_Gv) : List (Nat × jx_B) := [(0, jb_182_0 G), (8, jb_182_8 G)]
theorem jms_182 (G : jx_Gv) : ∀ e ∈ jbs_182 G, jx_mo e.2.1 := List.forall_mem_cons.mpr ⟨jm_182_0 G, List.forall_mem_cons.mpr ⟨jm_182_8 G, fun _ h => absurd h List.not_mem_nil⟩⟩
def jb_183_0 (G : jx_Gv) : jx_B := ([jo_iload 1], .inl (jc_i (fun x => decide (x < 0)), 12, 4))
theorem jm_183_0 (G : jx_Gv) : jx_mo (jb_183_0 G).1 := ⟨mo_iload _, trivial⟩
def jb_183_4 (G : jx_Gv) : jx_B := ([jo_iload 1, jo_aload 0, jo_getI 8 0], .inl (jc_ii (fun x y => decide (x < y)), 16, 12))
theorem jm_183_4 (G : jx_Gv) : jx_mo (jb_183_4 G).1 := ⟨mo_iload _, mo_aload _, mo_getI _ _, trivial⟩
def jb_183_12 (G : jx_Gv) : jx_B := ([jo_const (.int (-1 : Int32))], .inr (.inl 22))
theorem jm_183_12 (G : jx_Gv) : jx_mo (jb_183_12 G).1 := ⟨mo_const _, trivial⟩
def jb_183_16 (G : jx_Gv) : jx_B := ([jo_aload 0, jo_getA 8 1, jo_iload 1, jo_iald 0], .inr (.inl 22))
theorem jm_183_16 (G : jx_Gv) : jx_mo (jb_183_16 G).1 := ⟨mo_aload _, mo_getA _ _, mo_iload _, mo_iald _, trivial⟩
def jb_183_22 (G : jx_Gv) : jx_B := ([], .inr (.inr (.inr (.inr jr_i))))
theorem jm_183_22 (G : jx_Gv) : jx_mo (jb_183_22 G).1 := trivial
def jbs_183 (G : jx_Gv) : List (Nat × jx_B) := [(0, jb_183_0 G), (4, jb_183_4 G), (12, jb_183_12 G), (16, jb_183_16 G), (22, jb_183_22 G)]
theorem jms_183 (G : jx_Gv) : ∀ e ∈ jbs_183 G, jx_mo e.2.1 := List.forall_mem_cons.mpr ⟨jm_183_0 G, List.forall_mem_cons.mpr ⟨jm_183_4 G, List.forall_mem_cons.mpr ⟨jm_183_12 G, List.forall_mem_cons.mpr ⟨jm_183_16 G, List.forall_mem_cons.mpr ⟨jm_183_22 G, fun _ h => absurd h List.not_mem_nil⟩⟩⟩⟩⟩
def jb_184_0 (G : jx_Gv) : jx_B := ([jo_aload 0, jo_iload 1, jo_iload 2], .inr (.inr (.inr (.inl (120, 3, 6, some 7)))))
theorem jm_184_0 (G : jx_Gv) : jx_mo (jb_184_0 G).1 := ⟨mo_aload _, mo_iload _, mo_iload _, trivial⟩
def jb_184_6 (G : jx_Gv) : jx_B := ([jo_istore 5, jo_iload 5, jo_aload 3, jo_iload 4, jo_iload 2], .inr (.inr (.inr (.inl (120, 3, 17, some 7)))))
theorem jm_184_6 (G : jx_Gv) : jx_mo (jb_184_6 G).1 := ⟨mo_istore _, mo_iload _, mo_aload _, mo_iload _, mo_iload _, trivial⟩
def jb_184_17 (G : jx_Gv) : jx_B := ([], .inl (jc_ii (fun x y => decide (x = y)), 22, 20))
theorem jm_184_17 (G : jx_Gv) : jx_mo (jb_184_17 G).1 := trivial
def jb_184_20 (G : jx_Gv) : jx_B := ([jo_const (.int (0 : Int32))], .inr (.inr (.inr (.inr jr_z))))
theorem jm_184_20 (G : jx_Gv) : jx_mo (jb_184_20 G).1 := ⟨mo_const _, trivial⟩
def jb_184_22 (G : jx_Gv) : jx_B := ([jo_aload 0, jo_iload 1, jo_iload 2], .inr (.inr (.inr (.inl (64, 3, 28, some 7)))))
theorem jm_184_22 (G : jx_Gv) : jx_mo (jb_184_22 G).1 := ⟨mo_aload _, mo_iload _, mo_iload _, trivial⟩
def jb_184_28 (G : jx_Gv) : jx_B := ([jo_istore 6, jo_aload 3, jo_iload 4, jo_iload 2], .inr (.inr (.inr (.inl (64, 3, 37, some 7)))))
theorem jm_184_28 (G : jx_Gv) : jx_mo (jb_184_28 G).1 := ⟨mo_istore _, mo_aload _, mo_iload _, mo_iload _, trivial⟩
def jb_184_37 (G : jx_Gv) : jx_B := ([jo_istore 7, jo_iload 5, jo_const (.int (2 : Int32))], .inl (jc_ii (fun x y => decide (¬ x = y)), 69, 45))
theorem jm_184_37 (G : jx_Gv) : jx_mo (jb_184_37 G).1 := ⟨mo_istore _, mo_iload _, mo_const _, trivial⟩
def jb_184_45 (G : jx_Gv) : jx_B := ([jo_aload 0, jo_iload 6], .inr (.inr (.inr (.inl (174, 2, 51, some 7)))))
theorem jm_184_45 (G : jx_Gv) : jx_mo (jb_184_45 G).1 := ⟨mo_aload _, mo_iload _, trivial⟩
def jb_184_51 (G : jx_Gv) : jx_B := ([jo_aload 3, jo_iload 7], .inr (.inr (.inr (.inl (174, 2, 57, some 7)))))
theorem jm_184_51 (G : jx_Gv) : jx_mo (jb_184_51 G).1 := ⟨mo_aload _, mo_iload _, trivial⟩
def jb_184_57 (G : jx_Gv) : jx_B := ([jo_lc lg_cmp], .inl (jc_i (fun x => decide (¬ x = 0)), 65, 61))
theorem jm_184_57 (G : jx_Gv) : jx_mo (jb_184_57 G).1 := ⟨mo_lc _, trivial⟩
def jb_184_61 (G : jx_Gv) : jx_B := ([jo_const (.int (1 : Int32))], .inr (.inl 81))
theorem jm_184_61 (G : jx_Gv) : jx_mo (jb_184_61 G).1 := ⟨mo_const _, trivial⟩
def jb_184_65 (G : jx_Gv) : jx_B := ([jo_const (.int (0 : Int32))], .inr (.inl 81))
theorem jm_184_65 (G : jx_Gv) : jx_mo (jb_184_65 G).1 := ⟨mo_const _, trivial⟩
def jb_184_69 (G : jx_Gv) : jx_B := ([jo_iload 6, jo_iload 7], .inl (jc_ii (fun x y => decide (¬ x = y)), 80, 76))
theorem jm_184_69 (G : jx_Gv) : jx_mo (jb_184_69 G).1 := ⟨mo_iload _, mo_iload _, trivial⟩
def jb_184_76 (G : jx_Gv) : jx_B := ([jo_const (.int (1 : Int32))], .inr (.inl 81))
theorem jm_184_76 (G : jx_Gv) : jx_mo (jb_184_76 G).1 := ⟨mo_const _, trivial⟩
def jb_184_80 (G : jx_Gv) : jx_B := ([jo_const (.int (0 : Int32))], .inr (.inl 81))
theorem jm_184_80 (G : jx_Gv) : jx_mo (jb_184_80 G).1 := ⟨mo_const _, trivial⟩
def jb_184_81 (G : jx_Gv) : jx_B := ([], .inr (.inr (.inr (.inr jr_z))))
theorem jm_184_81 (G : jx_Gv) : jx_mo (jb_184_81 G).1 := trivial
def jbs_184 (G : jx_Gv) : List (Nat × jx_B) := [(0, jb_184_0 G), (6, jb_184_6 G), (17, jb_184_17 G), (20, jb_184_20 G), (22, jb_184_22 G), (28, jb_184_28 G), (37, jb_184_37 G), (45, jb_184_45 G), (51, jb_184_51 G), (57, jb_184_57 G), (61, jb_184_61 G), (65, jb_184_65 G), (69, jb_184_69 G), (76, jb_184_76 G), (80, jb_184_80 G), (81, jb_184_81 G)]
theorem jms_184 (G : jx_Gv) : ∀ e ∈ jbs_184 G, jx_mo e.2.1 := List.forall_mem_cons.mpr ⟨jm_184_0 G, List.forall_mem_cons.mpr ⟨jm_184_6 G, List.forall_mem_cons.mpr ⟨jm_184_17 G, List.forall_mem_cons.mpr ⟨jm_184_20 G, List.forall_mem_cons.mpr ⟨jm_184_22 G, List.forall_mem_cons.mpr ⟨jm_184_28 G, List.forall_mem_cons.mpr ⟨jm_184_37 G, List.forall_mem_cons.mpr ⟨jm_184_45 G, List.forall_mem_cons.mpr ⟨jm_184_51 G, List.forall_mem_cons.mpr ⟨jm_184_57 G, List.forall_mem_cons.mpr ⟨jm_184_61 G, List.forall_mem_cons.mpr ⟨jm_184_65 G, List.forall_mem_cons.mpr ⟨jm_184_69 G, List.forall_mem_cons.mpr ⟨jm_184_76 G, List.forall_mem_cons.mpr ⟨jm_184_80 G, List.forall_mem_cons.mpr ⟨jm_184_81 G, fun _ h => absurd h List.not_mem_nil⟩⟩⟩⟩⟩⟩⟩⟩⟩⟩⟩⟩⟩⟩⟩⟩
def jb_185_0 (G : jx_Gv) : jx_B := ([jo_aload 0, jo_iload 1], .inr (.inr (.inr (.inl (47, 2, 5, some 7)))))
theorem jm_185_0 (G : jx_Gv) : jx_mo (jb_185_0 G).1 := ⟨mo_aload _, mo_iload _, trivial⟩
def jb_185_5 (G : jx_Gv) : jx_B := ([jo_aload 2, jo_iload 3], .inr (.inr (.inr (.inl (47, 2, 10, some 7)))))
theorem jm_185_5 (G : jx_Gv) : jx_mo (jb_185_5 G).1 := ⟨mo_aload _, mo_iload _, trivial⟩
def jb_185_10 (G : jx_Gv) : jx_B := ([], .inl (jc_ii (fun x y => decide (¬ x = y)), 26, 13))
theorem jm_185_10 (G : jx_Gv) : jx_mo (jb_185_10 G).1 := trivial
def jb_185_13 (G : jx_Gv) : jx_B := ([jo_aload 0, jo_iload 1], .inr (.inr (.inr (.inl (125, 2, 18, some 7)))))
theorem jm_185_13 (G : jx_Gv) : jx_mo (jb_185_13 G).1 := ⟨mo_aload _, mo_iload _, trivial⟩
def jb_185_18 (G : jx_Gv) : jx_B := ([jo_aload 2, jo_iload 3], .inr (.inr (.inr (.inl (125, 2, 23, some 7)))))
theorem jm_185_18 (G : jx_Gv) : jx_mo (jb_185_18 G).1 := ⟨mo_aload _, mo_iload _, trivial⟩
def jb_185_23 (G : jx_Gv) : jx_B := ([], .inl (jc_ii (fun x y => decide (x = y)), 28, 26))
theorem jm_185_23 (G : jx_Gv) : jx_mo (jb_185_23 G).1 := trivial
def jb_185_26 (G : jx_Gv) : jx_B := ([jo_const (.int (0 : Int32))], .inr (.inr (.inr (.inr jr_z))))
theorem jm_185_26 (G : jx_Gv) : jx_mo (jb_185_26 G).1 := ⟨mo_const _, trivial⟩
def jb_185_28 (G : jx_Gv) : jx_B := ([jo_const (.int (0 : Int32)), jo_istore 4], .inr (.inl 31))
theorem jm_185_28 (G : jx_Gv) : jx_mo (jb_185_28 G).1 := ⟨mo_const _, mo_istore _, trivial⟩
def jb_185_31 (G : jx_Gv) : jx_B := ([jo_iload 4, jo_aload 0, jo_iload 1], .inr (.inr (.inr (.inl (125, 2, 38, some 7)))))
theorem jm_185_31 (G : jx_Gv) : jx_mo (jb_185_31 G).1 := ⟨mo_iload _, mo_aload _, mo_iload _, trivial⟩
def jb_185_38 (G : jx_Gv) : jx_B := ([], .inl (jc_ii (fun x y => decide (y ≤ x)), 61, 41))
theorem jm_185_38 (G : jx_Gv) : jx_mo (jb_185_38 G).1 := trivial
def jb_185_41 (G : jx_Gv) : jx_B := ([jo_aload 0, jo_iload 1, jo_iload 4, jo_aload 2, jo_iload 3], .inr (.inr (.inr (.inl (184, 5, 50, some 7)))))
theorem jm_185_41 (G : jx_Gv) : jx_mo (jb_185_41 G).1 := ⟨mo_aload _, mo_iload _, mo_iload _, mo_aload _, mo_iload _, trivial⟩
def jb_185_50 (G : jx_Gv) : jx_B := ([], .inl (jc_i (fun x => decide (¬ x = 0)), 55, 53))
theorem jm_185_50 (G : jx_Gv) : jx_mo (jb_185_50 G).1 := trivial
def jb_185_53 (G : jx_Gv) : jx_B := ([jo_const (.int (0 : Int32))], .inr (.inr (.inr (.inr jr_z))))
theorem jm_185_53 (G : jx_Gv) : jx_mo (jb_185_53 G).1 := ⟨mo_const _, trivial⟩
def jb_185_55 (G : jx_Gv) : jx_B := ([jo_iinc 4 (1 : Int32)], .inr (.inl 31))
theorem jm_185_55 (G : jx_Gv) : jx_mo (jb_185_55 G).1 := ⟨mo_iinc _ _, trivial⟩
def jb_185_61 (G : jx_Gv) : jx_B := ([jo_const (.int (1 : Int32))], .inr (.inr (.inr (.inr jr_z))))
theorem jm_185_61 (G : jx_Gv) : jx_mo (jb_185_61 G).1 := ⟨mo_const _, trivial⟩
def jbs_185 (G : jx_Gv) : List (Nat × jx_B) := [(0, jb_185_0 G), (5, jb_185_5 G), (10, jb_185_10 G), (13, jb_185_13 G), (18, jb_185_18 G), (23, jb_185_23 G), (26, jb_185_26 G), (28, jb_185_28 G), (31, jb_185_31 G), (38, jb_185_38 G), (41, jb_185_41 G), (50, jb_185_50 G), (53, jb_185_53 G), (55, jb_185_55 G), (61, jb_185_61 G)]
theorem jms_185 (G : jx_Gv) : ∀ e ∈ jbs_185 G, jx_mo e.2.1 := List.forall_mem_cons.mpr ⟨jm_185_0 G, List.forall_mem_cons.mpr ⟨jm_185_5 G, List.forall_mem_cons.mpr ⟨jm_185_10 G, List.forall_mem_cons.mpr ⟨jm_185_13 G, List.forall_mem_cons.mpr ⟨jm_185_18 G, List.forall_mem_cons.mpr ⟨jm_185_23 G, List.forall_mem_cons.mpr ⟨jm_185_26 G, List.forall_mem_cons.mpr ⟨jm_185_28 G, List.forall_mem_cons.mpr ⟨jm_185_31 G, List.forall_mem_cons.mpr ⟨jm_185_38 G, List.forall_mem_cons.mpr ⟨jm_185_41 G, List.forall_mem_cons.mpr ⟨jm_185_50 G, List.forall_mem_cons.mpr ⟨jm_185_53 G, List.forall_mem_cons.mpr ⟨jm_185_55 G, List.forall_mem_cons.mpr ⟨jm_185_61 G, fun _ h => absurd h List.not_mem_nil⟩⟩⟩⟩⟩⟩⟩⟩⟩⟩⟩⟩⟩⟩⟩
def jb_186_0 (G : jx_Gv) : jx_B := ([jo_const (.int (1 : Int32)), jo_istore 3], .inr (.inl 2))
theorem jm_186_0 (G : jx_Gv) : jx_mo (jb_186_0 G).1 := ⟨mo_const _, mo_istore _, trivial⟩
def jb_186_2 (G : jx_Gv) : jx_B := ([jo_iload 3, jo_aload 1, jo_getI 7 10], .inl (jc_ii (fun x y => decide (y < x)), 48, 10))
theorem jm_186_2 (G : jx_Gv) : jx_mo (jb_186_2 G).1 := ⟨mo_iload _, mo_aload _, mo_getI _ _, trivial⟩
def jb_186_10 (G : jx_Gv) : jx_B := ([jo_aload 0, jo_iload 2, jo_aload 1, jo_iload 3], .inr (.inr (.inr (.inl (185, 4, 17, some 7)))))
theorem jm_186_10 (G : jx_Gv) : jx_mo (jb_186_10 G).1 := ⟨mo_aload _, mo_iload _, mo_aload _, mo_iload _, trivial⟩
def jb_186_17 (G : jx_Gv) : jx_B := ([], .inl (jc_i (fun x => decide (x = 0)), 42, 20))
theorem jm_186_17 (G : jx_Gv) : jx_mo (jb_186_17 G).1 := trivial
def jb_186_20 (G : jx_Gv) : jx_B := ([jo_aload 0, jo_aload 0, jo_getA 7 6, jo_iload 2, jo_iald 0, jo_aload 1, jo_aload 1, jo_getA 7 6, jo_iload 3, jo_iald 0], .inr (.inr (.inr (.inl (185, 4, 37, some 7)))))
theorem jm_186_20 (G : jx_Gv) : jx_mo (jb_186_20 G).1 := ⟨mo_aload _, mo_aload _, mo_getA _ _, mo_iload _, mo_iald _, mo_aload _, mo_aload _, mo_getA _ _, mo_iload _, mo_iald _, trivial⟩
def jb_186_37 (G : jx_Gv) : jx_B := ([], .inl (jc_i (fun x => decide (x = 0)), 42, 40))
theorem jm_186_37 (G : jx_Gv) : jx_mo (jb_186_37 G).1 := trivial
def jb_186_40 (G : jx_Gv) : jx_B := ([jo_const (.int (1 : Int32))], .inr (.inr (.inr (.inr jr_z))))
theorem jm_186_40 (G : jx_Gv) : jx_mo (jb_186_40 G).1 := ⟨mo_const _, trivial⟩
def jb_186_42 (G : jx_Gv) : jx_B := ([jo_iinc 3 (1 : Int32)], .inr (.inl 2))
theorem jm_186_42 (G : jx_Gv) : jx_mo (jb_186_42 G).1 := ⟨mo_iinc _ _, trivial⟩
def jb_186_48 (G : jx_Gv) : jx_B := ([jo_const (.int (0 : Int32))], .inr (.inr (.inr (.inr jr_z))))
theorem jm_186_48 (G : jx_Gv) : jx_mo (jb_186_48 G).1 := ⟨mo_const _, trivial⟩
def jbs_186 (G : jx_Gv) : List (Nat × jx_B) := [(0, jb_186_0 G), (2, jb_186_2 G), (10, jb_186_10 G), (17, jb_186_17 G), (20, jb_186_20 G), (37, jb_186_37 G), (40, jb_186_40 G), (42, jb_186_42 G), (48, jb_186_48 G)]
theorem jms_186 (G : jx_Gv) : ∀ e ∈ jbs_186 G, jx_mo e.2.1 := List.forall_mem_cons.mpr ⟨jm_186_0 G, List.forall_mem_cons.mpr ⟨jm_186_2 G, List.forall_mem_cons.mpr ⟨jm_186_10 G, List.forall_mem_cons.mpr ⟨jm_186_17 G, List.forall_mem_cons.mpr ⟨jm_186_20 G, List.forall_mem_cons.mpr ⟨jm_186_37 G, List.forall_mem_cons.mpr ⟨jm_186_40 G, List.forall_mem_cons.mpr ⟨jm_186_42 G, List.forall_mem_cons.mpr ⟨jm_186_48 G, fun _ h => absurd h List.not_mem_nil⟩⟩⟩⟩⟩⟩⟩⟩⟩
def jb_187_0 (G : jx_Gv) : jx_B := ([jo_const (.int (0 : Int32)), jo_istore 2, jo_const (.int (1 : Int32)), jo_istore 3], .inr (.inl 4))
theorem jm_187_0 (G : jx_Gv) : jx_mo (jb_187_0 G).1 := ⟨mo_const _, mo_istore _, mo_const _, mo_istore _, trivial⟩
def jb_187_4 (G : jx_Gv) : jx_B := ([jo_iload 3, jo_aload 0, jo_getI 7 10], .inl (jc_ii (fun x y => decide (y < x)), 30, 12))
theorem jm_187_4 (G : jx_Gv) : jx_mo (jb_187_4 G).1 := ⟨mo_iload _, mo_aload _, mo_getI _ _, trivial⟩
def jb_187_12 (G : jx_Gv) : jx_B := ([jo_aload 0, jo_aload 1, jo_iload 3], .inr (.inr (.inr (.inl (186, 3, 18, some 7)))))
theorem jm_187_12 (G : jx_Gv) : jx_mo (jb_187_12 G).1 := ⟨mo_aload _, mo_aload _, mo_iload _, trivial⟩
def jb_187_18 (G : jx_Gv) : jx_B := ([], .inl (jc_i (fun x => decide (¬ x = 0)), 24, 21))
theorem jm_187_18 (G : jx_Gv) : jx_mo (jb_187_18 G).1 := trivial
def jb_187_21 (G : jx_Gv) : jx_B := ([jo_iinc 2 (1 : Int32)], .inr (.inl 24))
theorem jm_187_21 (G : jx_Gv) : jx_mo (jb_187_21 G).1 := ⟨mo_iinc _ _, trivial⟩
def jb_187_24 (G : jx_Gv) : jx_B := ([jo_iinc 3 (1 : Int32)], .inr (.inl 4))
theorem jm_187_24 (G : jx_Gv) : jx_mo (jb_187_24 G).1 := ⟨mo_iinc _ _, trivial⟩
def jb_187_30 (G : jx_Gv) : jx_B := ([jo_iload 2], .inr (.inr (.inr (.inr jr_i))))
theorem jm_187_30 (G : jx_Gv) : jx_mo (jb_187_30 G).1 := ⟨mo_iload _, trivial⟩
def jbs_187 (G : jx_Gv) : List (Nat × jx_B) := [(0, jb_187_0 G), (4, jb_187_4 G), (12, jb_187_12 G), (18, jb_187_18 G), (21, jb_187_21 G), (24, jb_187_24 G), (30, jb_187_30 G)]
theorem jms_187 (G : jx_Gv) : ∀ e ∈ jbs_187 G, jx_mo e.2.1 := List.forall_mem_cons.mpr ⟨jm_187_0 G, List.forall_mem_cons.mpr ⟨jm_187_4 G, List.forall_mem_cons.mpr ⟨jm_187_12 G, List.forall_mem_cons.mpr ⟨jm_187_18 G, List.forall_mem_cons.mpr ⟨jm_187_21 G, List.forall_mem_cons.mpr ⟨jm_187_24 G, List.forall_mem_cons.mpr ⟨jm_187_30 G, fun _ h => absurd h List.not_mem_nil⟩⟩⟩⟩⟩⟩⟩
def jb_188_0 (G : jx_Gv) : jx_B := ([jo_aload 0], .inr (.inr (.inr (.inl (106, 1, 4, some 0)))))
theorem jm_188_0 (G : jx_Gv) : jx_mo (jb_188_0 G).1 := ⟨mo_aload _, trivial⟩
def jb_188_4 (G : jx_Gv) : jx_B := ([jo_astore 2, jo_aload 2], .inl (jc_null, 31, 9))
theorem jm_188_4 (G : jx_Gv) : jx_mo (jb_188_4 G).1 := ⟨mo_astore _, mo_aload _, trivial⟩
def jb_188_9 (G : jx_Gv) : jx_B := ([jo_iload 1, jo_const (.int (1 : Int32))], .inl (jc_ii (fun x y => decide (x < y)), 31, 14))
theorem jm_188_9 (G : jx_Gv) : jx_mo (jb_188_9 G).1 := ⟨mo_iload _, mo_const _, trivial⟩
def jb_188_14 (G : jx_Gv) : jx_B := ([jo_iload 1, jo_aload 0, jo_getI 0 5], .inl (jc_ii (fun x y => decide (y < x)), 31, 22))
theorem jm_188_14 (G : jx_Gv) : jx_mo (jb_188_14 G).1 := ⟨mo_iload _, mo_aload _, mo_getI _ _, trivial⟩
def jb_188_22 (G : jx_Gv) : jx_B := ([jo_iload 1, jo_aload 0, jo_getA 0 4, jo_alen 4], .inl (jc_ii (fun x y => decide (x ≤ y)), 33, 31))
theorem jm_188_22 (G : jx_Gv) : jx_mo (jb_188_22 G).1 := ⟨mo_iload _, mo_aload _, mo_getA _ _, mo_alen _, trivial⟩
def jb_188_31 (G : jx_Gv) : jx_B := ([jo_const (.int (-1 : Int32))], .inr (.inr (.inr (.inr jr_i))))
theorem jm_188_31 (G : jx_Gv) : jx_mo (jb_188_31 G).1 := ⟨mo_const _, trivial⟩
def jb_188_33 (G : jx_Gv) : jx_B := ([jo_aload 0, jo_getA 0 4, jo_iload 1, jo_const (.int (1 : Int32)), jo_ii (· - ·), jo_aald 4, jo_astore 3, jo_aload 3], .inl (jc_nonn, 50, 46))
theorem jm_188_33 (G : jx_Gv) : jx_mo (jb_188_33 G).1 := ⟨mo_aload _, mo_getA _ _, mo_iload _, mo_const _, mo_ii _, mo_aald _, mo_astore _, mo_aload _, trivial⟩
def jb_188_46 (G : jx_Gv) : jx_B := ([jo_const (.int (-1 : Int32))], .inr (.inl 55))
theorem jm_188_46 (G : jx_Gv) : jx_mo (jb_188_46 G).1 := ⟨mo_const _, trivial⟩
def jb_188_50 (G : jx_Gv) : jx_B := ([jo_aload 2, jo_aload 3], .inr (.inr (.inr (.inl (187, 2, 55, some 7)))))
theorem jm_188_50 (G : jx_Gv) : jx_mo (jb_188_50 G).1 := ⟨mo_aload _, mo_aload _, trivial⟩
def jb_188_55 (G : jx_Gv) : jx_B := ([], .inr (.inr (.inr (.inr jr_i))))
theorem jm_188_55 (G : jx_Gv) : jx_mo (jb_188_55 G).1 := trivial
def jbs_188 (G : jx_Gv) : List (Nat × jx_B) := [(0, jb_188_0 G), (4, jb_188_4 G), (9, jb_188_9 G), (14, jb_188_14 G), (22, jb_188_22 G), (31, jb_188_31 G), (33, jb_188_33 G), (46, jb_188_46 G), (50, jb_188_50 G), (55, jb_188_55 G)]
theorem jms_188 (G : jx_Gv) : ∀ e ∈ jbs_188 G, jx_mo e.2.1 := List.forall_mem_cons.mpr ⟨jm_188_0 G, List.forall_mem_cons.mpr ⟨jm_188_4 G, List.forall_mem_cons.mpr ⟨jm_188_9 G, List.forall_mem_cons.mpr ⟨jm_188_14 G, List.forall_mem_cons.mpr ⟨jm_188_22 G, List.forall_mem_cons.mpr ⟨jm_188_31 G, List.forall_mem_cons.mpr ⟨jm_188_33 G, List.forall_mem_cons.mpr ⟨jm_188_46 G, List.forall_mem_cons.mpr ⟨jm_188_50 G, List.forall_mem_cons.mpr ⟨jm_188_55 G, fun _ h => absurd h List.not_mem_nil⟩⟩⟩⟩⟩⟩⟩⟩⟩⟩
def jb_189_0 (G : jx_Gv) : jx_B := ([jo_aload 0, jo_getA 8 50, jo_iload 1, jo_const (.int (1 : Int32)), jo_ii (· + ·), jo_iald 0, jo_aload 0, jo_getA 8 50, jo_iload 1, jo_iald 0, jo_ii (· - ·), jo_istore 4, jo_aload 0, jo_getA 8 54, jo_const (.int (121 : Int32)), jo_iload 2, jo_ii (· * ·), jo_iload 3, jo_ii (· + ·), jo_const (.int (1 : Int32)), jo_ii (· + ·), jo_iald 0, jo_aload 0, jo_getA 8 54], .inr (.inl 34))
theorem jm_189_0 (G : jx_Gv) : jx_mo (jb_189_0 G).1 := ⟨mo_aload _, mo_getA _ _, mo_iload _, mo_const _, mo_ii _, mo_iald _, mo_aload _, mo_getA _ _, mo_iload _, mo_iald _, mo_ii _, mo_istore _, mo_aload _, mo_getA _ _, mo_const _, mo_iload _, mo_ii _, mo_iload _, mo_ii _, mo_const _, mo_ii _, mo_iald _, mo_aload _, mo_getA _ _, trivial⟩
def jb_189_34 (G : jx_Gv) : jx_B := ([jo_const (.int (121 : Int32)), jo_iload 2, jo_ii (· * ·), jo_iload 3, jo_ii (· + ·), jo_iald 0, jo_ii (· - ·), jo_iload 4], .inl (jc_ii (fun x y => decide (¬ x = y)), 51, 47))
theorem jm_189_34 (G : jx_Gv) : jx_mo (jb_189_34 G).1 := ⟨mo_const _, mo_iload _, mo_ii _, mo_iload _, mo_ii _, mo_iald _, mo_ii _, mo_iload _, trivial⟩
def jb_189_47 (G : jx_Gv) : jx_B := ([jo_const (.int (1 : Int32))], .inr (.inl 52))
theorem jm_189_47 (G : jx_Gv) : jx_mo (jb_189_47 G).1 := ⟨mo_const _, trivial⟩
def jb_189_51 (G : jx_Gv) : jx_B := ([jo_const (.int (0 : Int32))], .inr (.inl 52))
theorem jm_189_51 (G : jx_Gv) : jx_mo (jb_189_51 G).1 := ⟨mo_const _, trivial⟩
def jb_189_52 (G : jx_Gv) : jx_B := ([jo_istore 5, jo_const (.int (0 : Int32)), jo_istore 6], .inr (.inl 57))
theorem jm_189_52 (G : jx_Gv) : jx_mo (jb_189_52 G).1 := ⟨mo_istore _, mo_const _, mo_istore _, trivial⟩
def jb_189_57 (G : jx_Gv) : jx_B := ([jo_iload 6, jo_iload 4], .inl (jc_ii (fun x y => decide (y ≤ x)), 124, 64))
theorem jm_189_57 (G : jx_Gv) : jx_mo (jb_189_57 G).1 := ⟨mo_iload _, mo_iload _, trivial⟩
def jb_189_64 (G : jx_Gv) : jx_B := ([jo_iload 5], .inl (jc_i (fun x => decide (x = 0)), 124, 69))
theorem jm_189_64 (G : jx_Gv) : jx_mo (jb_189_64 G).1 := ⟨mo_iload _, trivial⟩
def jb_189_69 (G : jx_Gv) : jx_B := ([jo_aload 0, jo_getA 8 49, jo_aload 0, jo_getA 8 50, jo_iload 1, jo_iald 0, jo_iload 6, jo_ii (· + ·), jo_iald 0, jo_aload 0, jo_getA 8 55, jo_const (.int (6000 : Int32)), jo_iload 2, jo_ii (· * ·), jo_aload 0, jo_getA 8 54, jo_const (.int (121 : Int32)), jo_iload 2, jo_ii (· * ·), jo_iload 3, jo_ii (· + ·), jo_iald 0, jo_ii (· + ·), jo_iload 6], .inr (.inl 106))
theorem jm_189_69 (G : jx_Gv) : jx_mo (jb_189_69 G).1 := ⟨mo_aload _, mo_getA _ _, mo_aload _, mo_getA _ _, mo_iload _, mo_iald _, mo_iload _, mo_ii _, mo_iald _, mo_aload _, mo_getA _ _, mo_const _, mo_iload _, mo_ii _, mo_aload _, mo_getA _ _, mo_const _, mo_iload _, mo_ii _, mo_iload _, mo_ii _, mo_iald _, mo_ii _, mo_iload _, trivial⟩
def jb_189_106 (G : jx_Gv) : jx_B := ([jo_ii (· + ·), jo_iald 0], .inl (jc_ii (fun x y => decide (¬ x = y)), 115, 111))
theorem jm_189_106 (G : jx_Gv) : jx_mo (jb_189_106 G).1 := ⟨mo_ii _, mo_iald _, trivial⟩
def jb_189_111 (G : jx_Gv) : jx_B := ([jo_const (.int (1 : Int32))], .inr (.inl 116))
theorem jm_189_111 (G : jx_Gv) : jx_mo (jb_189_111 G).1 := ⟨mo_const _, trivial⟩
def jb_189_115 (G : jx_Gv) : jx_B := ([jo_const (.int (0 : Int32))], .inr (.inl 116))
theorem jm_189_115 (G : jx_Gv) : jx_mo (jb_189_115 G).1 := ⟨mo_const _, trivial⟩
def jb_189_116 (G : jx_Gv) : jx_B := ([jo_istore 5, jo_iinc 6 (1 : Int32)], .inr (.inl 57))
theorem jm_189_116 (G : jx_Gv) : jx_mo (jb_189_116 G).1 := ⟨mo_istore _, mo_iinc _ _, trivial⟩
def jb_189_124 (G : jx_Gv) : jx_B := ([jo_iload 5], .inr (.inr (.inr (.inr jr_z))))
theorem jm_189_124 (G : jx_Gv) : jx_mo (jb_189_124 G).1 := ⟨mo_iload _, trivial⟩
def jbs_189 (G : jx_Gv) : List (Nat × jx_B) := [(0, jb_189_0 G), (34, jb_189_34 G), (47, jb_189_47 G), (51, jb_189_51 G), (52, jb_189_52 G), (57, jb_189_57 G), (64, jb_189_64 G), (69, jb_189_69 G), (106, jb_189_106 G), (111, jb_189_111 G), (115, jb_189_115 G), (116, jb_189_116 G), (124, jb_189_124 G)]
theorem jms_189 (G : jx_Gv) : ∀ e ∈ jbs_189 G, jx_mo e.2.1 := List.forall_mem_cons.mpr ⟨jm_189_0 G, List.forall_mem_cons.mpr ⟨jm_189_34 G, List.forall_mem_cons.mpr ⟨jm_189_47 G, List.forall_mem_cons.mpr ⟨jm_189_51 G, List.forall_mem_cons.mpr ⟨jm_189_52 G, List.forall_mem_cons.mpr ⟨jm_189_57 G, List.forall_mem_cons.mpr ⟨jm_189_64 G, List.forall_mem_cons.mpr ⟨jm_189_69 G, List.forall_mem_cons.mpr ⟨jm_189_106 G, List.forall_mem_cons.mpr ⟨jm_189_111 G, List.forall_mem_cons.mpr ⟨jm_189_115 G, List.forall_mem_cons.mpr ⟨jm_189_116 G, List.forall_mem_cons.mpr ⟨jm_189_124 G, fun _ h => absurd h List.not_mem_nil⟩⟩⟩⟩⟩⟩⟩⟩⟩⟩⟩⟩⟩
def jb_190_0 (G : jx_Gv) : jx_B := ([jo_iload 1, jo_const (.int (1 : Int32)), jo_ii (· - ·), jo_istore 2, jo_iload 1, jo_const (.int (1 : Int32))], .inl (jc_ii (fun x y => decide (x < y)), 23, 9))
theorem jm_190_0 (G : jx_Gv) : jx_mo (jb_190_0 G).1 := ⟨mo_iload _, mo_const _, mo_ii _, mo_istore _, mo_iload _, mo_const _, trivial⟩
def jb_190_9 (G : jx_Gv) : jx_B := ([jo_iload 1, jo_const (.int (8 : Int32))], .inl (jc_ii (fun x y => decide (y < x)), 23, 15))
theorem jm_190_9 (G : jx_Gv) : jx_mo (jb_190_9 G).1 := ⟨mo_iload _, mo_const _, trivial⟩
def jb_190_15 (G : jx_Gv) : jx_B := ([jo_iload 1, jo_aload 0, jo_getI 8 51], .inl (jc_ii (fun x y => decide (x ≤ y)), 25, 23))
theorem jm_190_15 (G : jx_Gv) : jx_mo (jb_190_15 G).1 := ⟨mo_iload _, mo_aload _, mo_getI _ _, trivial⟩
def jb_190_23 (G : jx_Gv) : jx_B := ([jo_const (.int (-1 : Int32))], .inr (.inr (.inr (.inr jr_i))))
theorem jm_190_23 (G : jx_Gv) : jx_mo (jb_190_23 G).1 := ⟨mo_const _, trivial⟩
def jb_190_25 (G : jx_Gv) : jx_B := ([jo_const (.int (0 : Int32)), jo_istore 3, jo_const (.int (0 : Int32)), jo_istore 4], .inr (.inl 30))
theorem jm_190_25 (G : jx_Gv) : jx_mo (jb_190_25 G).1 := ⟨mo_const _, mo_istore _, mo_const _, mo_istore _, trivial⟩
def jb_190_30 (G : jx_Gv) : jx_B := ([jo_iload 4, jo_aload 0, jo_getI 8 33], .inl (jc_ii (fun x y => decide (y ≤ x)), 159, 39))
theorem jm_190_30 (G : jx_Gv) : jx_mo (jb_190_30 G).1 := ⟨mo_iload _, mo_aload _, mo_getI _ _, trivial⟩
def jb_190_39 (G : jx_Gv) : jx_B := ([jo_const (.int (0 : Int32)), jo_istore 5, jo_const (.int (0 : Int32)), jo_istore 6], .inr (.inl 45))
theorem jm_190_39 (G : jx_Gv) : jx_mo (jb_190_39 G).1 := ⟨mo_const _, mo_istore _, mo_const _, mo_istore _, trivial⟩
def jb_190_45 (G : jx_Gv) : jx_B := ([jo_iload 6, jo_aload 0, jo_getA 8 52, jo_iload 2, jo_iald 0], .inl (jc_ii (fun x y => decide (y ≤ x)), 140, 56))
theorem jm_190_45 (G : jx_Gv) : jx_mo (jb_190_45 G).1 := ⟨mo_iload _, mo_aload _, mo_getA _ _, mo_iload _, mo_iald _, trivial⟩
def jb_190_56 (G : jx_Gv) : jx_B := ([jo_iload 5], .inl (jc_i (fun x => decide (¬ x = 0)), 140, 61))
theorem jm_190_56 (G : jx_Gv) : jx_mo (jb_190_56 G).1 := ⟨mo_iload _, trivial⟩
def jb_190_61 (G : jx_Gv) : jx_B := ([jo_aload 0, jo_getA 8 53, jo_const (.int (120 : Int32)), jo_iload 2, jo_ii (· * ·), jo_iload 6, jo_ii (· + ·), jo_iald 0, jo_istore 7, jo_aload 0, jo_iload 4, jo_iload 2, jo_iload 6], .inr (.inr (.inr (.inl (189, 4, 84, some 8)))))
theorem jm_190_61 (G : jx_Gv) : jx_mo (jb_190_61 G).1 := ⟨mo_aload _, mo_getA _ _, mo_const _, mo_iload _, mo_ii _, mo_iload _, mo_ii _, mo_iald _, mo_istore _, mo_aload _, mo_iload _, mo_iload _, mo_iload _, trivial⟩
def jb_190_84 (G : jx_Gv) : jx_B := ([], .inl (jc_i (fun x => decide (x = 0)), 131, 87))
theorem jm_190_84 (G : jx_Gv) : jx_mo (jb_190_84 G).1 := trivial
def jb_190_87 (G : jx_Gv) : jx_B := ([jo_aload 0, jo_getA 8 35, jo_iload 4, jo_iald 0], .inl (jc_i (fun x => decide (0 ≤ x)), 105, 97))
theorem jm_190_87 (G : jx_Gv) : jx_mo (jb_190_87 G).1 := ⟨mo_aload _, mo_getA _ _, mo_iload _, mo_iald _, trivial⟩
def jb_190_97 (G : jx_Gv) : jx_B := ([jo_iload 7], .inl (jc_i (fun x => decide (0 ≤ x)), 131, 102))
theorem jm_190_97 (G : jx_Gv) : jx_mo (jb_190_97 G).1 := ⟨mo_iload _, trivial⟩
def jb_190_102 (G : jx_Gv) : jx_B := ([], .inr (.inl 127))
theorem jm_190_102 (G : jx_Gv) : jx_mo (jb_190_102 G).1 := trivial
def jb_190_105 (G : jx_Gv) : jx_B := ([jo_iload 7], .inl (jc_i (fun x => decide (x < 0)), 131, 110))
theorem jm_190_105 (G : jx_Gv) : jx_mo (jb_190_105 G).1 := ⟨mo_iload _, trivial⟩
def jb_190_110 (G : jx_Gv) : jx_B := ([jo_aload 0, jo_aload 0, jo_getA 8 35, jo_iload 4, jo_iald 0, jo_iload 2, jo_iload 7], .inr (.inr (.inr (.inl (189, 4, 124, some 8)))))
theorem jm_190_110 (G : jx_Gv) : jx_mo (jb_190_110 G).1 := ⟨mo_aload _, mo_aload _, mo_getA _ _, mo_iload _, mo_iald _, mo_iload _, mo_iload _, trivial⟩
def jb_190_124 (G : jx_Gv) : jx_B := ([], .inl (jc_i (fun x => decide (x = 0)), 131, 127))
theorem jm_190_124 (G : jx_Gv) : jx_mo (jb_190_124 G).1 := trivial
def jb_190_127 (G : jx_Gv) : jx_B := ([jo_const (.int (1 : Int32))], .inr (.inl 132))
theorem jm_190_127 (G : jx_Gv) : jx_mo (jb_190_127 G).1 := ⟨mo_const _, trivial⟩
def jb_190_131 (G : jx_Gv) : jx_B := ([jo_const (.int (0 : Int32))], .inr (.inl 132))
theorem jm_190_131 (G : jx_Gv) : jx_mo (jb_190_131 G).1 := ⟨mo_const _, trivial⟩
def jb_190_132 (G : jx_Gv) : jx_B := ([jo_istore 5, jo_iinc 6 (1 : Int32)], .inr (.inl 45))
theorem jm_190_132 (G : jx_Gv) : jx_mo (jb_190_132 G).1 := ⟨mo_istore _, mo_iinc _ _, trivial⟩
def jb_190_140 (G : jx_Gv) : jx_B := ([jo_iload 3, jo_iload 5], .inl (jc_i (fun x => decide (x = 0)), 150, 146))
theorem jm_190_140 (G : jx_Gv) : jx_mo (jb_190_140 G).1 := ⟨mo_iload _, mo_iload _, trivial⟩
def jb_190_146 (G : jx_Gv) : jx_B := ([jo_const (.int (0 : Int32))], .inr (.inl 151))
theorem jm_190_146 (G : jx_Gv) : jx_mo (jb_190_146 G).1 := ⟨mo_const _, trivial⟩
def jb_190_150 (G : jx_Gv) : jx_B := ([jo_const (.int (1 : Int32))], .inr (.inl 151))
theorem jm_190_150 (G : jx_Gv) : jx_mo (jb_190_150 G).1 := ⟨mo_const _, trivial⟩
def jb_190_151 (G : jx_Gv) : jx_B := ([jo_ii (· + ·), jo_istore 3, jo_iinc 4 (1 : Int32)], .inr (.inl 30))
theorem jm_190_151 (G : jx_Gv) : jx_mo (jb_190_151 G).1 := ⟨mo_ii _, mo_istore _, mo_iinc _ _, trivial⟩
def jb_190_159 (G : jx_Gv) : jx_B := ([jo_iload 3], .inr (.inr (.inr (.inr jr_i))))
theorem jm_190_159 (G : jx_Gv) : jx_mo (jb_190_159 G).1 := ⟨mo_iload _, trivial⟩
def jbs_190 (G : jx_Gv) : List (Nat × jx_B) := [(0, jb_190_0 G), (9, jb_190_9 G), (15, jb_190_15 G), (23, jb_190_23 G), (25, jb_190_25 G), (30, jb_190_30 G), (39, jb_190_39 G), (45, jb_190_45 G), (56, jb_190_56 G), (61, jb_190_61 G), (84, jb_190_84 G), (87, jb_190_87 G), (97, jb_190_97 G), (102, jb_190_102 G), (105, jb_190_105 G), (110, jb_190_110 G), (124, jb_190_124 G), (127, jb_190_127 G), (131, jb_190_131 G), (132, jb_190_132 G), (140, jb_190_140 G), (146, jb_190_146 G), (150, jb_190_150 G), (151, jb_190_151 G), (159, jb_190_159 G)]
theorem jms_190 (G : jx_Gv) : ∀ e ∈ jbs_190 G, jx_mo e.2.1 := List.forall_mem_cons.mpr ⟨jm_190_0 G, List.forall_mem_cons.mpr ⟨jm_190_9 G, List.forall_mem_cons.mpr ⟨jm_190_15 G, List.forall_mem_cons.mpr ⟨jm_190_23 G, List.forall_mem_cons.mpr ⟨jm_190_25 G, List.forall_mem_cons.mpr ⟨jm_190_30 G, List.forall_mem_cons.mpr ⟨jm_190_39 G, List.forall_mem_cons.mpr ⟨jm_190_45 G, List.forall_mem_cons.mpr ⟨jm_190_56 G, List.forall_mem_cons.mpr ⟨jm_190_61 G, List.forall_mem_cons.mpr ⟨jm_190_84 G, List.forall_mem_cons.mpr ⟨jm_190_87 G, List.forall_mem_cons.mpr ⟨jm_190_97 G, List.forall_mem_cons.mpr ⟨jm_190_102 G, List.forall_mem_cons.mpr ⟨jm_190_105 G, List.forall_mem_cons.mpr ⟨jm_190_110 G, List.forall_mem_cons.mpr ⟨jm_190_124 G, List.forall_mem_cons.mpr ⟨jm_190_127 G, List.forall_mem_cons.mpr ⟨jm_190_131 G, List.forall_mem_cons.mpr ⟨jm_190_132 G, List.forall_mem_cons.mpr ⟨jm_190_140 G, List.forall_mem_cons.mpr ⟨jm_190_146 G, List.forall_mem_cons.mpr ⟨jm_190_150 G, List.forall_mem_cons.mpr ⟨jm_190_151 G, List.forall_mem_cons.mpr ⟨jm_190_159 G, fun _ h => absurd h List.not_mem_nil⟩⟩⟩⟩⟩⟩⟩⟩⟩⟩⟩⟩⟩⟩⟩⟩⟩⟩⟩⟩⟩⟩⟩⟩⟩
def jb_191_0 (G : jx_Gv) : jx_B := ([jo_new 0 7 [.null, .null, .null, .null, .null, .int 0, .int 0], jo_dup], .inr (.inr (.inr (.inl (16, 1, 7, some 0)))))
theorem jm_191_0 (G : jx_Gv) : jx_mo (jb_191_0 G).1 := ⟨mo_new _ _ _, mo_dup, trivial⟩
def jb_191_7 (G : jx_Gv) : jx_B := ([jo_astore 1, jo_new 8 57 [.int 0, .null, .int 0, .int 0, .int 0, .int 0, .int 0, .int 0, .int 0, .null, .null, .int 0, .null, .null, .null, .null, .null, .null, .null, .null, .null, .null, .null, .null, .int 0, .null, .null, .null, .int 0, .null, .null, .int 0, .int 0, .int 0, .null, .null, .null, .null, .null, .null, .null, .null, .null, .null, .null, .null, .null, .null, .null, .null, .null, .int 0, .null, .null, .null, .null, .null], jo_dup], .inr (.inr (.inr (.inl (17, 1, 15, some 8)))))
theorem jm_191_7 (G : jx_Gv) : jx_mo (jb_191_7 G).1 := ⟨mo_astore _, mo_new _ _ _, mo_dup, trivial⟩
def jb_191_15 (G : jx_Gv) : jx_B := ([jo_astore 2, jo_const (.int (0 : Int32)), jo_istore 3], .inr (.inl 18))
theorem jm_191_15 (G : jx_Gv) : jx_mo (jb_191_15 G).1 := ⟨mo_astore _, mo_const _, mo_istore _, trivial⟩
def jb_191_18 (G : jx_Gv) : jx_B := ([jo_iload 3, jo_aload 0, jo_xln G.2.2.1.1 G.2.2.1.2.1, jo_const (.int (4 : Int32)), jo_ii (· - ·)], .inl (jc_ii (fun x y => decide (y < x)), 399, 26))
theorem jm_191_18 (G : jx_Gv) : jx_mo (jb_191_18 G).1 := ⟨mo_iload _, mo_aload _, mo_xln _ _, mo_const _, mo_ii _, trivial⟩
def jb_191_26 (G : jx_Gv) : jx_B := ([jo_aload 0, jo_iload 3, jo_xld G.2.2.1.1 G.2.2.1.2.1 G.2.2.1.2.2, jo_const (.int (15 : Int32)), jo_ii (· &&& ·)], .inr (.inr (.inl (jx_sw [((0 : Int32), 92), ((1 : Int32), 113), ((2 : Int32), 126), ((3 : Int32), 159), ((4 : Int32), 202), ((5 : Int32), 245), ((6 : Int32), 278), ((7 : Int32), 291), ((8 : Int32), 334), ((9 : Int32), 347), ((10 : Int32), 370)] 393))))
theorem jm_191_26 (G : jx_Gv) : jx_mo (jb_191_26 G).1 := ⟨mo_aload _, mo_iload _, mo_xld _ _ _, mo_const _, mo_ii _, trivial⟩
def jb_191_92 (G : jx_Gv) : jx_B := ([jo_aload 1, jo_aload 0, jo_iload 3, jo_const (.int (1 : Int32)), jo_ii (· + ·), jo_xld G.2.2.1.1 G.2.2.1.2.1 G.2.2.1.2.2], .inr (.inr (.inr (.inl (19, 2, 101, some 0)))))
theorem jm_191_92 (G : jx_Gv) : jx_mo (jb_191_92 G).1 := ⟨mo_aload _, mo_aload _, mo_iload _, mo_const _, mo_ii _, mo_xld _ _ _, trivial⟩
def jb_191_101 (G : jx_Gv) : jx_B := ([jo_aload 2, jo_aload 0, jo_iload 3, jo_const (.int (1 : Int32)), jo_ii (· + ·), jo_xld G.2.2.1.1 G.2.2.1.2.1 G.2.2.1.2.2], .inr (.inr (.inr (.inl (20, 2, 110, some 8)))))
theorem jm_191_101 (G : jx_Gv) : jx_mo (jb_191_101 G).1 := ⟨mo_aload _, mo_aload _, mo_iload _, mo_const _, mo_ii _, mo_xld _ _ _, trivial⟩
def jb_191_110 (G : jx_Gv) : jx_B := ([], .inr (.inl 393))
theorem jm_191_110 (G : jx_Gv) : jx_mo (jb_191_110 G).1 := trivial
def jb_191_113 (G : jx_Gv) : jx_B := ([jo_aload 1], .inr (.inr (.inr (.inl (70, 1, 117, some 0)))))
theorem jm_191_113 (G : jx_Gv) : jx_mo (jb_191_113 G).1 := ⟨mo_aload _, trivial⟩
def jb_191_117 (G : jx_Gv) : jx_B := ([jo_aload 2], .inr (.inr (.inr (.inl (105, 1, 121, some 8)))))
theorem jm_191_117 (G : jx_Gv) : jx_mo (jb_191_117 G).1 := ⟨mo_aload _, trivial⟩
def jb_191_121 (G : jx_Gv) : jx_B := ([], .inl (jc_ii (fun x y => decide (x = y)), 393, 124))
theorem jm_191_121 (G : jx_Gv) : jx_mo (jb_191_121 G).1 := trivial
def jb_191_124 (G : jx_Gv) : jx_B := ([jo_const (.int (0 : Int32))], .inr (.inr (.inr (.inr jr_z))))
theorem jm_191_124 (G : jx_Gv) : jx_mo (jb_191_124 G).1 := ⟨mo_const _, trivial⟩
def jb_191_126 (G : jx_Gv) : jx_B := ([jo_aload 1, jo_aload 0, jo_iload 3, jo_const (.int (1 : Int32)), jo_ii (· + ·), jo_xld G.2.2.1.1 G.2.2.1.2.1 G.2.2.1.2.2, jo_aload 0, jo_iload 3, jo_const (.int (2 : Int32)), jo_ii (· + ·), jo_xld G.2.2.1.1 G.2.2.1.2.1 G.2.2.1.2.2], .inr (.inr (.inr (.inl (109, 3, 140, some 0)))))
theorem jm_191_126 (G : jx_Gv) : jx_mo (jb_191_126 G).1 := ⟨mo_aload _, mo_aload _, mo_iload _, mo_const _, mo_ii _, mo_xld _ _ _, mo_aload _, mo_iload _, mo_const _, mo_ii _, mo_xld _ _ _, trivial⟩
def jb_191_140 (G : jx_Gv) : jx_B := ([jo_aload 2, jo_aload 0, jo_iload 3, jo_const (.int (1 : Int32)), jo_ii (· + ·), jo_xld G.2.2.1.1 G.2.2.1.2.1 G.2.2.1.2.2, jo_aload 0, jo_iload 3, jo_const (.int (2 : Int32)), jo_ii (· + ·), jo_xld G.2.2.1.1 G.2.2.1.2.1 G.2.2.1.2.2], .inr (.inr (.inr (.inl (111, 3, 154, some 8)))))
theorem jm_191_140 (G : jx_Gv) : jx_mo (jb_191_140 G).1 := ⟨mo_aload _, mo_aload _, mo_iload _, mo_const _, mo_ii _, mo_xld _ _ _, mo_aload _, mo_iload _, mo_const _, mo_ii _, mo_xld _ _ _, trivial⟩
def jb_191_154 (G : jx_Gv) : jx_B := ([], .inl (jc_ii (fun x y => decide (x = y)), 393, 157))
theorem jm_191_154 (G : jx_Gv) : jx_mo (jb_191_154 G).1 := trivial
def jb_191_157 (G : jx_Gv) : jx_B := ([jo_const (.int (0 : Int32))], .inr (.inr (.inr (.inr jr_z))))
theorem jm_191_157 (G : jx_Gv) : jx_mo (jb_191_157 G).1 := ⟨mo_const _, trivial⟩
def jb_191_159 (G : jx_Gv) : jx_B := ([jo_aload 1, jo_aload 0, jo_iload 3, jo_const (.int (1 : Int32)), jo_ii (· + ·), jo_xld G.2.2.1.1 G.2.2.1.2.1 G.2.2.1.2.2, jo_aload 0, jo_iload 3, jo_const (.int (2 : Int32)), jo_ii (· + ·), jo_xld G.2.2.1.1 G.2.2.1.2.1 G.2.2.1.2.2, jo_aload 0, jo_iload 3, jo_const (.int (3 : Int32)), jo_ii (· + ·), jo_xld G.2.2.1.1 G.2.2.1.2.1 G.2.2.1.2.2], .inr (.inr (.inr (.inl (115, 4, 178, some 0)))))
theorem jm_191_159 (G : jx_Gv) : jx_mo (jb_191_159 G).1 := ⟨mo_aload _, mo_aload _, mo_iload _, mo_const _, mo_ii _, mo_xld _ _ _, mo_aload _, mo_iload _, mo_const _, mo_ii _, mo_xld _ _ _, mo_aload _, mo_iload _, mo_const _, mo_ii _, mo_xld _ _ _, trivial⟩
def jb_191_178 (G : jx_Gv) : jx_B := ([jo_aload 2, jo_aload 0, jo_iload 3, jo_const (.int (1 : Int32)), jo_ii (· + ·), jo_xld G.2.2.1.1 G.2.2.1.2.1 G.2.2.1.2.2, jo_aload 0, jo_iload 3, jo_const (.int (2 : Int32)), jo_ii (· + ·), jo_xld G.2.2.1.1 G.2.2.1.2.1 G.2.2.1.2.2, jo_aload 0, jo_iload 3, jo_const (.int (3 : Int32)), jo_ii (· + ·), jo_xld G.2.2.1.1 G.2.2.1.2.1 G.2.2.1.2.2], .inr (.inr (.inr (.inl (119, 4, 197, some 8)))))
theorem jm_191_178 (G : jx_Gv) : jx_mo (jb_191_178 G).1 := ⟨mo_aload _, mo_aload _, mo_iload _, mo_const _, mo_ii _, mo_xld _ _ _, mo_aload _, mo_iload _, mo_const _, mo_ii _, mo_xld _ _ _, mo_aload _, mo_iload _, mo_const _, mo_ii _, mo_xld _ _ _, trivial⟩
def jb_191_197 (G : jx_Gv) : jx_B := ([], .inl (jc_ii (fun x y => decide (x = y)), 393, 200))
theorem jm_191_197 (G : jx_Gv) : jx_mo (jb_191_197 G).1 := trivial
def jb_191_200 (G : jx_Gv) : jx_B := ([jo_const (.int (0 : Int32))], .inr (.inr (.inr (.inr jr_z))))
theorem jm_191_200 (G : jx_Gv) : jx_mo (jb_191_200 G).1 := ⟨mo_const _, trivial⟩
def jb_191_202 (G : jx_Gv) : jx_B := ([jo_aload 1, jo_aload 0, jo_iload 3, jo_const (.int (1 : Int32)), jo_ii (· + ·), jo_xld G.2.2.1.1 G.2.2.1.2.1 G.2.2.1.2.2, jo_aload 0, jo_iload 3, jo_const (.int (2 : Int32)), jo_ii (· + ·), jo_xld G.2.2.1.1 G.2.2.1.2.1 G.2.2.1.2.2, jo_aload 0, jo_iload 3, jo_const (.int (3 : Int32)), jo_ii (· + ·), jo_xld G.2.2.1.1 G.2.2.1.2.1 G.2.2.1.2.2], .inr (.inr (.inr (.inl (127, 4, 221, some 0)))))
theorem jm_191_202 (G : jx_Gv) : jx_mo (jb_191_202 G).1 := ⟨mo_aload _, mo_aload _, mo_iload _, mo_const _, mo_ii _, mo_xld _ _ _, mo_aload _, mo_iload _, mo_const _, mo_ii _, mo_xld _ _ _, mo_aload _, mo_iload _, mo_const _, mo_ii _, mo_xld _ _ _, trivial⟩
def jb_191_221 (G : jx_Gv) : jx_B := ([jo_aload 2, jo_aload 0, jo_iload 3, jo_const (.int (1 : Int32)), jo_ii (· + ·), jo_xld G.2.2.1.1 G.2.2.1.2.1 G.2.2.1.2.2, jo_aload 0, jo_iload 3, jo_const (.int (2 : Int32)), jo_ii (· + ·), jo_xld G.2.2.1.1 G.2.2.1.2.1 G.2.2.1.2.2, jo_aload 0, jo_iload 3, jo_const (.int (3 : Int32)), jo_ii (· + ·), jo_xld G.2.2.1.1 G.2.2.1.2.1 G.2.2.1.2.2], .inr (.inr (.inr (.inl (130, 4, 240, some 8)))))
theorem jm_191_221 (G : jx_Gv) : jx_mo (jb_191_221 G).1 := ⟨mo_aload _, mo_aload _, mo_iload _, mo_const _, mo_ii _, mo_xld _ _ _, mo_aload _, mo_iload _, mo_const _, mo_ii _, mo_xld _ _ _, mo_aload _, mo_iload _, mo_const _, mo_ii _, mo_xld _ _ _, trivial⟩
def jb_191_240 (G : jx_Gv) : jx_B := ([], .inl (jc_ii (fun x y => decide (x = y)), 393, 243))
theorem jm_191_240 (G : jx_Gv) : jx_mo (jb_191_240 G).1 := trivial
def jb_191_243 (G : jx_Gv) : jx_B := ([jo_const (.int (0 : Int32))], .inr (.inr (.inr (.inr jr_z))))
theorem jm_191_243 (G : jx_Gv) : jx_mo (jb_191_243 G).1 := ⟨mo_const _, trivial⟩
def jb_191_245 (G : jx_Gv) : jx_B := ([jo_aload 1, jo_aload 0, jo_iload 3, jo_const (.int (1 : Int32)), jo_ii (· + ·), jo_xld G.2.2.1.1 G.2.2.1.2.1 G.2.2.1.2.2, jo_aload 0, jo_iload 3, jo_const (.int (2 : Int32)), jo_ii (· + ·), jo_xld G.2.2.1.1 G.2.2.1.2.1 G.2.2.1.2.2], .inr (.inr (.inr (.inl (135, 3, 259, some 0)))))
theorem jm_191_245 (G : jx_Gv) : jx_mo (jb_191_245 G).1 := ⟨mo_aload _, mo_aload _, mo_iload _, mo_const _, mo_ii _, mo_xld _ _ _, mo_aload _, mo_iload _, mo_const _, mo_ii _, mo_xld _ _ _, trivial⟩
def jb_191_259 (G : jx_Gv) : jx_B := ([jo_aload 2, jo_aload 0, jo_iload 3, jo_const (.int (1 : Int32)), jo_ii (· + ·), jo_xld G.2.2.1.1 G.2.2.1.2.1 G.2.2.1.2.2, jo_aload 0, jo_iload 3, jo_const (.int (2 : Int32)), jo_ii (· + ·), jo_xld G.2.2.1.1 G.2.2.1.2.1 G.2.2.1.2.2], .inr (.inr (.inr (.inl (137, 3, 273, some 8)))))
theorem jm_191_259 (G : jx_Gv) : jx_mo (jb_191_259 G).1 := ⟨mo_aload _, mo_aload _, mo_iload _, mo_const _, mo_ii _, mo_xld _ _ _, mo_aload _, mo_iload _, mo_const _, mo_ii _, mo_xld _ _ _, trivial⟩
def jb_191_273 (G : jx_Gv) : jx_B := ([], .inl (jc_ii (fun x y => decide (x = y)), 393, 276))
theorem jm_191_273 (G : jx_Gv) : jx_mo (jb_191_273 G).1 := trivial
def jb_191_276 (G : jx_Gv) : jx_B := ([jo_const (.int (0 : Int32))], .inr (.inr (.inr (.inr jr_z))))
theorem jm_191_276 (G : jx_Gv) : jx_mo (jb_191_276 G).1 := ⟨mo_const _, trivial⟩
def jb_191_278 (G : jx_Gv) : jx_B := ([jo_aload 1], .inr (.inr (.inr (.inl (153, 1, 282, some 0)))))
theorem jm_191_278 (G : jx_Gv) : jx_mo (jb_191_278 G).1 := ⟨mo_aload _, trivial⟩
def jb_191_282 (G : jx_Gv) : jx_B := ([jo_aload 2], .inr (.inr (.inr (.inl (166, 1, 286, some 8)))))
theorem jm_191_282 (G : jx_Gv) : jx_mo (jb_191_282 G).1 := ⟨mo_aload _, trivial⟩
def jb_191_286 (G : jx_Gv) : jx_B := ([], .inl (jc_ii (fun x y => decide (x = y)), 393, 289))
theorem jm_191_286 (G : jx_Gv) : jx_mo (jb_191_286 G).1 := trivial
def jb_191_289 (G : jx_Gv) : jx_B := ([jo_const (.int (0 : Int32))], .inr (.inr (.inr (.inr jr_z))))
theorem jm_191_289 (G : jx_Gv) : jx_mo (jb_191_289 G).1 := ⟨mo_const _, trivial⟩
def jb_191_291 (G : jx_Gv) : jx_B := ([jo_aload 1, jo_aload 0, jo_iload 3, jo_const (.int (1 : Int32)), jo_ii (· + ·), jo_xld G.2.2.1.1 G.2.2.1.2.1 G.2.2.1.2.2, jo_aload 0, jo_iload 3, jo_const (.int (2 : Int32)), jo_ii (· + ·), jo_xld G.2.2.1.1 G.2.2.1.2.1 G.2.2.1.2.2, jo_aload 0, jo_iload 3, jo_const (.int (3 : Int32)), jo_ii (· + ·), jo_xld G.2.2.1.1 G.2.2.1.2.1 G.2.2.1.2.2], .inr (.inr (.inr (.inl (168, 4, 310, some 0)))))
theorem jm_191_291 (G : jx_Gv) : jx_mo (jb_191_291 G).1 := ⟨mo_aload _, mo_aload _, mo_iload _, mo_const _, mo_ii _, mo_xld _ _ _, mo_aload _, mo_iload _, mo_const _, mo_ii _, mo_xld _ _ _, mo_aload _, mo_iload _, mo_const _, mo_ii _, mo_xld _ _ _, trivial⟩
def jb_191_310 (G : jx_Gv) : jx_B := ([jo_aload 2, jo_aload 0, jo_iload 3, jo_const (.int (1 : Int32)), jo_ii (· + ·), jo_xld G.2.2.1.1 G.2.2.1.2.1 G.2.2.1.2.2, jo_aload 0, jo_iload 3, jo_const (.int (2 : Int32)), jo_ii (· + ·), jo_xld G.2.2.1.1 G.2.2.1.2.1 G.2.2.1.2.2, jo_aload 0, jo_iload 3, jo_const (.int (3 : Int32)), jo_ii (· + ·), jo_xld G.2.2.1.1 G.2.2.1.2.1 G.2.2.1.2.2], .inr (.inr (.inr (.inl (170, 4, 329, some 8)))))
theorem jm_191_310 (G : jx_Gv) : jx_mo (jb_191_310 G).1 := ⟨mo_aload _, mo_aload _, mo_iload _, mo_const _, mo_ii _, mo_xld _ _ _, mo_aload _, mo_iload _, mo_const _, mo_ii _, mo_xld _ _ _, mo_aload _, mo_iload _, mo_const _, mo_ii _, mo_xld _ _ _, trivial⟩
def jb_191_329 (G : jx_Gv) : jx_B := ([], .inl (jc_ii (fun x y => decide (x = y)), 393, 332))
theorem jm_191_329 (G : jx_Gv) : jx_mo (jb_191_329 G).1 := trivial
def jb_191_332 (G : jx_Gv) : jx_B := ([jo_const (.int (0 : Int32))], .inr (.inr (.inr (.inr jr_z))))
theorem jm_191_332 (G : jx_Gv) : jx_mo (jb_191_332 G).1 := ⟨mo_const _, trivial⟩
def jb_191_334 (G : jx_Gv) : jx_B := ([jo_aload 1], .inr (.inr (.inr (.inl (180, 1, 338, some 0)))))
theorem jm_191_334 (G : jx_Gv) : jx_mo (jb_191_334 G).1 := ⟨mo_aload _, trivial⟩
def jb_191_338 (G : jx_Gv) : jx_B := ([jo_aload 2], .inr (.inr (.inr (.inl (181, 1, 342, some 8)))))
theorem jm_191_338 (G : jx_Gv) : jx_mo (jb_191_338 G).1 := ⟨mo_aload _, trivial⟩
def jb_191_342 (G : jx_Gv) : jx_B := ([], .inl (jc_ii (fun x y => decide (x = y)), 393, 345))
theorem jm_191_342 (G : jx_Gv) : jx_mo (jb_191_342 G).1 := trivial
def jb_191_345 (G : jx_Gv) : jx_B := ([jo_const (.int (0 : Int32))], .inr (.inr (.inr (.inr jr_z))))
theorem jm_191_345 (G : jx_Gv) : jx_mo (jb_191_345 G).1 := ⟨mo_const _, trivial⟩
def jb_191_347 (G : jx_Gv) : jx_B := ([jo_aload 1, jo_aload 0, jo_iload 3, jo_const (.int (1 : Int32)), jo_ii (· + ·), jo_xld G.2.2.1.1 G.2.2.1.2.1 G.2.2.1.2.2], .inr (.inr (.inr (.inl (182, 2, 356, some 0)))))
theorem jm_191_347 (G : jx_Gv) : jx_mo (jb_191_347 G).1 := ⟨mo_aload _, mo_aload _, mo_iload _, mo_const _, mo_ii _, mo_xld _ _ _, trivial⟩
def jb_191_356 (G : jx_Gv) : jx_B := ([jo_aload 2, jo_aload 0, jo_iload 3, jo_const (.int (1 : Int32)), jo_ii (· + ·), jo_xld G.2.2.1.1 G.2.2.1.2.1 G.2.2.1.2.2], .inr (.inr (.inr (.inl (183, 2, 365, some 8)))))
theorem jm_191_356 (G : jx_Gv) : jx_mo (jb_191_356 G).1 := ⟨mo_aload _, mo_aload _, mo_iload _, mo_const _, mo_ii _, mo_xld _ _ _, trivial⟩
def jb_191_365 (G : jx_Gv) : jx_B := ([], .inl (jc_ii (fun x y => decide (x = y)), 393, 368))
theorem jm_191_365 (G : jx_Gv) : jx_mo (jb_191_365 G).1 := trivial
def jb_191_368 (G : jx_Gv) : jx_B := ([jo_const (.int (0 : Int32))], .inr (.inr (.inr (.inr jr_z))))
theorem jm_191_368 (G : jx_Gv) : jx_mo (jb_191_368 G).1 := ⟨mo_const _, trivial⟩
def jb_191_370 (G : jx_Gv) : jx_B := ([jo_aload 1, jo_aload 0, jo_iload 3, jo_const (.int (1 : Int32)), jo_ii (· + ·), jo_xld G.2.2.1.1 G.2.2.1.2.1 G.2.2.1.2.2], .inr (.inr (.inr (.inl (188, 2, 379, some 0)))))
theorem jm_191_370 (G : jx_Gv) : jx_mo (jb_191_370 G).1 := ⟨mo_aload _, mo_aload _, mo_iload _, mo_const _, mo_ii _, mo_xld _ _ _, trivial⟩
def jb_191_379 (G : jx_Gv) : jx_B := ([jo_aload 2, jo_aload 0, jo_iload 3, jo_const (.int (1 : Int32)), jo_ii (· + ·), jo_xld G.2.2.1.1 G.2.2.1.2.1 G.2.2.1.2.2], .inr (.inr (.inr (.inl (190, 2, 388, some 8)))))
theorem jm_191_379 (G : jx_Gv) : jx_mo (jb_191_379 G).1 := ⟨mo_aload _, mo_aload _, mo_iload _, mo_const _, mo_ii _, mo_xld _ _ _, trivial⟩
def jb_191_388 (G : jx_Gv) : jx_B := ([], .inl (jc_ii (fun x y => decide (x = y)), 393, 391))
theorem jm_191_388 (G : jx_Gv) : jx_mo (jb_191_388 G).1 := trivial
def jb_191_391 (G : jx_Gv) : jx_B := ([jo_const (.int (0 : Int32))], .inr (.inr (.inr (.inr jr_z))))
theorem jm_191_391 (G : jx_Gv) : jx_mo (jb_191_391 G).1 := ⟨mo_const _, trivial⟩
def jb_191_393 (G : jx_Gv) : jx_B := ([jo_iinc 3 (4 : Int32)], .inr (.inl 18))
theorem jm_191_393 (G : jx_Gv) : jx_mo (jb_191_393 G).1 := ⟨mo_iinc _ _, trivial⟩
def jb_191_399 (G : jx_Gv) : jx_B := ([jo_const (.int (1 : Int32))], .inr (.inr (.inr (.inr jr_z))))
theorem jm_191_399 (G : jx_Gv) : jx_mo (jb_191_399 G).1 := ⟨mo_const _, trivial⟩
def jbs_191 (G : jx_Gv) : List (Nat × jx_B) := [(0, jb_191_0 G), (7, jb_191_7 G), (15, jb_191_15 G), (18, jb_191_18 G), (26, jb_191_26 G), (92, jb_191_92 G), (101, jb_191_101 G), (110, jb_191_110 G), (113, jb_191_113 G), (117, jb_191_117 G), (121, jb_191_121 G), (124, jb_191_124 G), (126, jb_191_126 G), (140, jb_191_140 G), (154, jb_191_154 G), (157, jb_191_157 G), (159, jb_191_159 G), (178, jb_191_178 G), (197, jb_191_197 G), (200, jb_191_200 G), (202, jb_191_202 G), (221, jb_191_221 G), (240, jb_191_240 G), (243, jb_191_243 G), (245, jb_191_245 G), (259, jb_191_259 G), (273, jb_191_273 G), (276, jb_191_276 G), (278, jb_191_278 G), (282, jb_191_282 G), (286, jb_191_286 G), (289, jb_191_289 G), (291, jb_191_291 G), (310, jb_191_310 G), (329, jb_191_329 G), (332, jb_191_332 G), (334, jb_191_334 G), (338, jb_191_338 G), (342, jb_191_342 G), (345, jb_191_345 G), (347, jb_191_347 G), (356, jb_191_356 G), (365, jb_191_365 G), (368, jb_191_368 G), (370, jb_191_370 G), (379, jb_191_379 G), (388, jb_191_388 G), (391, jb_191_391 G), (393, jb_191_393 G), (399, jb_191_399 G)]
theorem jms_191 (G : jx_Gv) : ∀ e ∈ jbs_191 G, jx_mo e.2.1 := List.forall_mem_cons.mpr ⟨jm_191_0 G, List.forall_mem_cons.mpr ⟨jm_191_7 G, List.forall_mem_cons.mpr ⟨jm_191_15 G, List.forall_mem_cons.mpr ⟨jm_191_18 G, List.forall_mem_cons.mpr ⟨jm_191_26 G, List.forall_mem_cons.mpr ⟨jm_191_92 G, List.forall_mem_cons.mpr ⟨jm_191_101 G, List.forall_mem_cons.mpr ⟨jm_191_110 G, List.forall_mem_cons.mpr ⟨jm_191_113 G, List.forall_mem_cons.mpr ⟨jm_191_117 G, List.forall_mem_cons.mpr ⟨jm_191_121 G, List.forall_mem_cons.mpr ⟨jm_191_124 G, List.forall_mem_cons.mpr ⟨jm_191_126 G, List.forall_mem_cons.mpr ⟨jm_191_140 G, List.forall_mem_cons.mpr ⟨jm_191_154 G, List.forall_mem_cons.mpr ⟨jm_191_157 G, List.forall_mem_cons.mpr ⟨jm_191_159 G, List.forall_mem_cons.mpr ⟨jm_191_178 G, List.forall_mem_cons.mpr ⟨jm_191_197 G, List.forall_mem_cons.mpr ⟨jm_191_200 G, List.forall_mem_cons.mpr ⟨jm_191_202 G, List.forall_mem_cons.mpr ⟨jm_191_221 G, List.forall_mem_cons.mpr ⟨jm_191_240 G, List.forall_mem_cons.mpr ⟨jm_191_243 G, List.forall_mem_cons.mpr ⟨jm_191_245 G, List.forall_mem_cons.mpr ⟨jm_191_259 G, List.forall_mem_cons.mpr ⟨jm_191_273 G, List.forall_mem_cons.mpr ⟨jm_191_276 G, List.forall_mem_cons.mpr ⟨jm_191_278 G, List.forall_mem_cons.mpr ⟨jm_191_282 G, List.forall_mem_cons.mpr ⟨jm_191_286 G, List.forall_mem_cons.mpr ⟨jm_191_289 G, List.forall_mem_cons.mpr ⟨jm_191_291 G, List.forall_mem_cons.mpr ⟨jm_191_310 G, List.forall_mem_cons.mpr ⟨jm_191_329 G, List.forall_mem_cons.mpr ⟨jm_191_332 G, List.forall_mem_cons.mpr ⟨jm_191_334 G, List.forall_mem_cons.mpr ⟨jm_191_338 G, List.forall_mem_cons.mpr ⟨jm_191_342 G, List.forall_mem_cons.mpr ⟨jm_191_345 G, List.forall_mem_cons.mpr ⟨jm_191_347 G, List.forall_mem_cons.mpr ⟨jm_191_356 G, List.forall_mem_cons.mpr ⟨jm_191_365 G, List.forall_mem_cons.mpr ⟨jm_191_368 G, List.forall_mem_cons.mpr ⟨jm_191_370 G, List.forall_mem_cons.mpr ⟨jm_191_379 G, List.forall_mem_cons.mpr ⟨jm_191_388 G, List.forall_mem_cons.mpr ⟨jm_191_391 G, List.forall_mem_cons.mpr ⟨jm_191_393 G, List.forall_mem_cons.mpr ⟨jm_191_399 G, fun _ h => absurd h List.not_mem_nil⟩⟩⟩⟩⟩⟩⟩⟩⟩⟩⟩⟩⟩⟩⟩⟩⟩⟩⟩⟩⟩⟩⟩⟩⟩⟩⟩⟩⟩⟩⟩⟩⟩⟩⟩⟩⟩⟩⟩⟩⟩⟩⟩⟩⟩⟩⟩⟩⟩⟩
def jBs (G : jx_Gv) : List (List (Nat × jx_B)) := [jbs_0 G, jbs_1 G, jbs_2 G, jbs_3 G, jbs_4 G, jbs_5 G, jbs_6 G, jbs_7 G, jbs_8 G, jbs_9 G, jbs_10 G, jbs_11 G, jbs_12 G, jbs_13 G, jbs_14 G, jbs_15 G, jbs_16 G, jbs_17 G, jbs_18 G, jbs_19 G, jbs_20 G, jbs_21 G, jbs_22 G, jbs_23 G, jbs_24 G, jbs_25 G, jbs_26 G, jbs_27 G, jbs_28 G, jbs_29 G, jbs_30 G, jbs_31 G, jbs_32 G, jbs_33 G, jbs_34 G, jbs_35 G, jbs_36 G, jbs_37 G, jbs_38 G, jbs_39 G, jbs_40 G, jbs_41 G, jbs_42 G, jbs_43 G, jbs_44 G, jbs_45 G, jbs_46 G, jbs_47 G, jbs_48 G, jbs_49 G, jbs_50 G, jbs_51 G, jbs_52 G, jbs_53 G, jbs_54 G, jbs_55 G, jbs_56 G, jbs_57 G, jbs_58 G, jbs_59 G, jbs_60 G, jbs_61 G, jbs_62 G, jbs_63 G, jbs_64 G, jbs_65 G, jbs_66 G, jbs_67 G, jbs_68 G, jbs_69 G, jbs_70 G, jbs_71 G, jbs_72 G, jbs_73 G, jbs_74 G, jbs_75 G, jbs_76 G, jbs_77 G, jbs_78 G, jbs_79 G, jbs_80 G, jbs_81 G, jbs_82 G, jbs_83 G, jbs_84 G, jbs_85 G, jbs_86 G, jbs_87 G, jbs_88 G, jbs_89 G, jbs_90 G, jbs_91 G, jbs_92 G, jbs_93 G, jbs_94 G, jbs_95 G, jbs_96 G, jbs_97 G, jbs_98 G, jbs_99 G, jbs_100 G, jbs_101 G, jbs_102 G, jbs_103 G, jbs_104 G, jbs_105 G, jbs_106 G, jbs_107 G, jbs_108 G, jbs_109 G, jbs_110 G, jbs_111 G, jbs_112 G, jbs_113 G, jbs_114 G, jbs_115 G, jbs_116 G, jbs_117 G, jbs_118 G, jbs_119 G, jbs_120 G, jbs_121 G, jbs_122 G, jbs_123 G, jbs_124 G, jbs_125 G, jbs_126 G, jbs_127 G, jbs_128 G, jbs_129 G, jbs_130 G, jbs_131 G, jbs_132 G, jbs_133 G, jbs_134 G, jbs_135 G, jbs_136 G, jbs_137 G, jbs_138 G, jbs_139 G, jbs_140 G, jbs_141 G, jbs_142 G, jbs_143 G, jbs_144 G, jbs_145 G, jbs_146 G, jbs_147 G, jbs_148 G, jbs_149 G, jbs_150 G, jbs_151 G, jbs_152 G, jbs_153 G, jbs_154 G, jbs_155 G, jbs_156 G, jbs_157 G, jbs_158 G, jbs_159 G, jbs_160 G, jbs_161 G, jbs_162 G, jbs_163 G, jbs_164 G, jbs_165 G, jbs_166 G, jbs_167 G, jbs_168 G, jbs_169 G, jbs_170 G, jbs_171 G, jbs_172 G, jbs_173 G, jbs_174 G, jbs_175 G, jbs_176 G, jbs_177 G, jbs_178 G, jbs_179 G, jbs_180 G, jbs_181 G, jbs_182 G, jbs_183 G, jbs_184 G, jbs_185 G, jbs_186 G, jbs_187 G, jbs_188 G, jbs_189 G, jbs_190 G, jbs_191 G]
def jB (G : jx_Gv) (m pc : Nat) : Option jx_B := jx_lk ((jBs G).getD m []) pc
set_option maxRecDepth 100000 in
theorem jBs_mo (G : jx_Gv) : ∀ l ∈ jBs G, ∀ e ∈ l, jx_mo e.2.1 := List.forall_mem_cons.mpr ⟨jms_0 G, List.forall_mem_cons.mpr ⟨jms_1 G, List.forall_mem_cons.mpr ⟨jms_2 G, List.forall_mem_cons.mpr ⟨jms_3 G, List.forall_mem_cons.mpr ⟨jms_4 G, List.forall_mem_cons.mpr ⟨jms_5 G, List.forall_mem_cons.mpr ⟨jms_6 G, List.forall_mem_cons.mpr ⟨jms_7 G, List.forall_mem_cons.mpr ⟨jms_8 G, List.forall_mem_cons.mpr ⟨jms_9 G, List.forall_mem_cons.mpr ⟨jms_10 G, List.forall_mem_cons.mpr ⟨jms_11 G, List.forall_mem_cons.mpr ⟨jms_12 G, List.forall_mem_cons.mpr ⟨jms_13 G, List.forall_mem_cons.mpr ⟨jms_14 G, List.forall_mem_cons.mpr ⟨jms_15 G, List.forall_mem_cons.mpr ⟨jms_16 G, List.forall_mem_cons.mpr ⟨jms_17 G, List.forall_mem_cons.mpr ⟨jms_18 G, List.forall_mem_cons.mpr ⟨jms_19 G, List.forall_mem_cons.mpr ⟨jms_20 G, List.forall_mem_cons.mpr ⟨jms_21 G, List.forall_mem_cons.mpr ⟨jms_22 G, List.forall_mem_cons.mpr ⟨jms_23 G, List.forall_mem_cons.mpr ⟨jms_24 G, List.forall_mem_cons.mpr ⟨jms_25 G, List.forall_mem_cons.mpr ⟨jms_26 G, List.forall_mem_cons.mpr ⟨jms_27 G, List.forall_mem_cons.mpr ⟨jms_28 G, List.forall_mem_cons.mpr ⟨jms_29 G, List.forall_mem_cons.mpr ⟨jms_30 G, List.forall_mem_cons.mpr ⟨jms_31 G, List.forall_mem_cons.mpr ⟨jms_32 G, List.forall_mem_cons.mpr ⟨jms_33 G, List.forall_mem_cons.mpr ⟨jms_34 G, List.forall_mem_cons.mpr ⟨jms_35 G, List.forall_mem_cons.mpr ⟨jms_36 G, List.forall_mem_cons.mpr ⟨jms_37 G, List.forall_mem_cons.mpr ⟨jms_38 G, List.forall_mem_cons.mpr ⟨jms_39 G, List.forall_mem_cons.mpr ⟨jms_40 G, List.forall_mem_cons.mpr ⟨jms_41 G, List.forall_mem_cons.mpr ⟨jms_42 G, List.forall_mem_cons.mpr ⟨jms_43 G, List.forall_mem_cons.mpr ⟨jms_44 G, List.forall_mem_cons.mpr ⟨jms_45 G, List.forall_mem_cons.mpr ⟨jms_46 G, List.forall_mem_cons.mpr ⟨jms_47 G, List.forall_mem_cons.mpr ⟨jms_48 G, List.forall_mem_cons.mpr ⟨jms_49 G, List.forall_mem_cons.mpr ⟨jms_50 G, List.forall_mem_cons.mpr ⟨jms_51 G, List.forall_mem_cons.mpr ⟨jms_52 G, List.forall_mem_cons.mpr ⟨jms_53 G, List.forall_mem_cons.mpr ⟨jms_54 G, List.forall_mem_cons.mpr ⟨jms_55 G, List.forall_mem_cons.mpr ⟨jms_56 G, List.forall_mem_cons.mpr ⟨jms_57 G, List.forall_mem_cons.mpr ⟨jms_58 G, List.forall_mem_cons.mpr ⟨jms_59 G, List.forall_mem_cons.mpr ⟨jms_60 G, List.forall_mem_cons.mpr ⟨jms_61 G, List.forall_mem_cons.mpr ⟨jms_62 G, List.forall_mem_cons.mpr ⟨jms_63 G, List.forall_mem_cons.mpr ⟨jms_64 G, List.forall_mem_cons.mpr ⟨jms_65 G, List.forall_mem_cons.mpr ⟨jms_66 G, List.forall_mem_cons.mpr ⟨jms_67 G, List.forall_mem_cons.mpr ⟨jms_68 G, List.forall_mem_cons.mpr ⟨jms_69 G, List.forall_mem_cons.mpr ⟨jms_70 G, List.forall_mem_cons.mpr ⟨jms_71 G, List.forall_mem_cons.mpr ⟨jms_72 G, List.forall_mem_cons.mpr ⟨jms_73 G, List.forall_mem_cons.mpr ⟨jms_74 G, List.forall_mem_cons.mpr ⟨jms_75 G, List.forall_mem_cons.mpr ⟨jms_76 G, List.forall_mem_cons.mpr ⟨jms_77 G, List.forall_mem_cons.mpr ⟨jms_78 G, List.forall_mem_cons.mpr ⟨jms_79 G, List.forall_mem_cons.mpr ⟨jms_80 G, List.forall_mem_cons.mpr ⟨jms_81 G, List.forall_mem_cons.mpr ⟨jms_82 G, List.forall_mem_cons.mpr ⟨jms_83 G, List.forall_mem_cons.mpr ⟨jms_84 G, List.forall_mem_cons.mpr ⟨jms_85 G, List.forall_mem_cons.mpr ⟨jms_86 G, List.forall_mem_cons.mpr ⟨jms_87 G, List.forall_mem_cons.mpr ⟨jms_88 G, List.forall_mem_cons.mpr ⟨jms_89 G, List.forall_mem_cons.mpr ⟨jms_90 G, List.forall_mem_cons.mpr ⟨jms_91 G, List.forall_mem_cons.mpr ⟨jms_92 G, List.forall_mem_cons.mpr ⟨jms_93 G, List.forall_mem_cons.mpr ⟨jms_94 G, List.forall_mem_cons.mpr ⟨jms_95 G, List.forall_mem_cons.mpr ⟨jms_96 G, List.forall_mem_cons.mpr ⟨jms_97 G, List.forall_mem_cons.mpr ⟨jms_98 G, List.forall_mem_cons.mpr ⟨jms_99 G, List.forall_mem_cons.mpr ⟨jms_100 G, List.forall_mem_cons.mpr ⟨jms_101 G, List.forall_mem_cons.mpr ⟨jms_102 G, List.forall_mem_cons.mpr ⟨jms_103 G, List.forall_mem_cons.mpr ⟨jms_104 G, List.forall_mem_cons.mpr ⟨jms_105 G, List.forall_mem_cons.mpr ⟨jms_106 G, List.forall_mem_cons.mpr ⟨jms_107 G, List.forall_mem_cons.mpr ⟨jms_108 G, List.forall_mem_cons.mpr ⟨jms_109 G, List.forall_mem_cons.mpr ⟨jms_110 G, List.forall_mem_cons.mpr ⟨jms_111 G, List.forall_mem_cons.mpr ⟨jms_112 G, List.forall_mem_cons.mpr ⟨jms_113 G, List.forall_mem_cons.mpr ⟨jms_114 G, List.forall_mem_cons.mpr ⟨jms_115 G, List.forall_mem_cons.mpr ⟨jms_116 G, List.forall_mem_cons.mpr ⟨jms_117 G, List.forall_mem_cons.mpr ⟨jms_118 G, List.forall_mem_cons.mpr ⟨jms_119 G, List.forall_mem_cons.mpr ⟨jms_120 G, List.forall_mem_cons.mpr ⟨jms_121 G, List.forall_mem_cons.mpr ⟨jms_122 G, List.forall_mem_cons.mpr ⟨jms_123 G, List.forall_mem_cons.mpr ⟨jms_124 G, List.forall_mem_cons.mpr ⟨jms_125 G, List.forall_mem_cons.mpr ⟨jms_126 G, List.forall_mem_cons.mpr ⟨jms_127 G, List.forall_mem_cons.mpr ⟨jms_128 G, List.forall_mem_cons.mpr ⟨jms_129 G, List.forall_mem_cons.mpr ⟨jms_130 G, List.forall_mem_cons.mpr ⟨jms_131 G, List.forall_mem_cons.mpr ⟨jms_132 G, List.forall_mem_cons.mpr ⟨jms_133 G, List.forall_mem_cons.mpr ⟨jms_134 G, List.forall_mem_cons.mpr ⟨jms_135 G, List.forall_mem_cons.mpr ⟨jms_136 G, List.forall_mem_cons.mpr ⟨jms_137 G, List.forall_mem_cons.mpr ⟨jms_138 G, List.forall_mem_cons.mpr ⟨jms_139 G, List.forall_mem_cons.mpr ⟨jms_140 G, List.forall_mem_cons.mpr ⟨jms_141 G, List.forall_mem_cons.mpr ⟨jms_142 G, List.forall_mem_cons.mpr ⟨jms_143 G, List.forall_mem_cons.mpr ⟨jms_144 G, List.forall_mem_cons.mpr ⟨jms_145 G, List.forall_mem_cons.mpr ⟨jms_146 G, List.forall_mem_cons.mpr ⟨jms_147 G, List.forall_mem_cons.mpr ⟨jms_148 G, List.forall_mem_cons.mpr ⟨jms_149 G, List.forall_mem_cons.mpr ⟨jms_150 G, List.forall_mem_cons.mpr ⟨jms_151 G, List.forall_mem_cons.mpr ⟨jms_152 G, List.forall_mem_cons.mpr ⟨jms_153 G, List.forall_mem_cons.mpr ⟨jms_154 G, List.forall_mem_cons.mpr ⟨jms_155 G, List.forall_mem_cons.mpr ⟨jms_156 G, List.forall_mem_cons.mpr ⟨jms_157 G, List.forall_mem_cons.mpr ⟨jms_158 G, List.forall_mem_cons.mpr ⟨jms_159 G, List.forall_mem_cons.mpr ⟨jms_160 G, List.forall_mem_cons.mpr ⟨jms_161 G, List.forall_mem_cons.mpr ⟨jms_162 G, List.forall_mem_cons.mpr ⟨jms_163 G, List.forall_mem_cons.mpr ⟨jms_164 G, List.forall_mem_cons.mpr ⟨jms_165 G, List.forall_mem_cons.mpr ⟨jms_166 G, List.forall_mem_cons.mpr ⟨jms_167 G, List.forall_mem_cons.mpr ⟨jms_168 G, List.forall_mem_cons.mpr ⟨jms_169 G, List.forall_mem_cons.mpr ⟨jms_170 G, List.forall_mem_cons.mpr ⟨jms_171 G, List.forall_mem_cons.mpr ⟨jms_172 G, List.forall_mem_cons.mpr ⟨jms_173 G, List.forall_mem_cons.mpr ⟨jms_174 G, List.forall_mem_cons.mpr ⟨jms_175 G, List.forall_mem_cons.mpr ⟨jms_176 G, List.forall_mem_cons.mpr ⟨jms_177 G, List.forall_mem_cons.mpr ⟨jms_178 G, List.forall_mem_cons.mpr ⟨jms_179 G, List.forall_mem_cons.mpr ⟨jms_180 G, List.forall_mem_cons.mpr ⟨jms_181 G, List.forall_mem_cons.mpr ⟨jms_182 G, List.forall_mem_cons.mpr ⟨jms_183 G, List.forall_mem_cons.mpr ⟨jms_184 G, List.forall_mem_cons.mpr ⟨jms_185 G, List.forall_mem_cons.mpr ⟨jms_186 G, List.forall_mem_cons.mpr ⟨jms_187 G, List.forall_mem_cons.mpr ⟨jms_188 G, List.forall_mem_cons.mpr ⟨jms_189 G, List.forall_mem_cons.mpr ⟨jms_190 G, List.forall_mem_cons.mpr ⟨jms_191 G, fun _ h => absurd h List.not_mem_nil⟩⟩⟩⟩⟩⟩⟩⟩⟩⟩⟩⟩⟩⟩⟩⟩⟩⟩⟩⟩⟩⟩⟩⟩⟩⟩⟩⟩⟩⟩⟩⟩⟩⟩⟩⟩⟩⟩⟩⟩⟩⟩⟩⟩⟩⟩⟩⟩⟩⟩⟩⟩⟩⟩⟩⟩⟩⟩⟩⟩⟩⟩⟩⟩⟩⟩⟩⟩⟩⟩⟩⟩⟩⟩⟩⟩⟩⟩⟩⟩⟩⟩⟩⟩⟩⟩⟩⟩⟩⟩⟩⟩⟩⟩⟩⟩⟩⟩⟩⟩⟩⟩⟩⟩⟩⟩⟩⟩⟩⟩⟩⟩⟩⟩⟩⟩⟩⟩⟩⟩⟩⟩⟩⟩⟩⟩⟩⟩⟩⟩⟩⟩⟩⟩⟩⟩⟩⟩⟩⟩⟩⟩⟩⟩⟩⟩⟩⟩⟩⟩⟩⟩⟩⟩⟩⟩⟩⟩⟩⟩⟩⟩⟩⟩⟩⟩⟩⟩⟩⟩⟩⟩⟩⟩⟩⟩⟩⟩⟩⟩⟩⟩⟩⟩⟩⟩⟩⟩⟩⟩⟩⟩
theorem jB_good (G : jx_Gv) : jx_good (jB G) := by
  intro m pc b hb
  refine jx_mo_all b.1 ?_
  have h1 := jx_lk_mem hb
  rcases Nat.lt_or_ge m (jBs G).length with hl | hl
  · rw [List.getD_eq_getElem?_getD, List.getElem?_eq_getElem hl] at h1
    exact jBs_mo G _ (List.getElem_mem hl) _ h1
  · rw [List.getD_eq_getElem?_getD, List.getElem?_eq_none hl] at h1
    exact absurd h1 List.not_mem_nil
/-- THE FUNCTION of the program -/
noncomputable def jE (G : jx_Gv) : jx_Q → Option jx_R := jx_fix jNl (jB G) (jB_good G)
theorem jE_at {G : jx_Gv} {m pc : Nat} {b : jx_B} (hb : jB G m pc = some b) (s : jx_S) : jE G (m, pc, s) = jx_run b.1 (jx_term jNl (jE G) m b.2) s := by
  refine (jx_fix_eq (jB_good G) (m, pc, s)).trans ?_
  unfold jx_body
  dsimp only
  rw [hb]
  rfl
