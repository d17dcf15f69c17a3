theorem dX6_keep_0 : decode cX6_keep 0 = .ok (.iload_n 1, 1) := by decide +kernel
theorem dX6_keep_1 : decode cX6_keep 1 = .ok (.iconst 0, 1) := by decide +kernel
theorem dX6_keep_2 : decode cX6_keep 2 = .ok (.iconst 1, 1) := by decide +kernel
theorem dX6_keep_3 : decode cX6_keep 3 = .ok (.invokestatic 69, 3) := by decide +kernel
theorem dX6_keep_6 : decode cX6_keep 6 = .ok (.ifCond .ne 5, 3) := by decide +kernel
theorem dX6_keep_9 : decode cX6_keep 9 = .ok (.iconst (-1), 1) := by decide +kernel
theorem dX6_keep_10 : decode cX6_keep 10 = .ok (.ireturn, 1) := by decide +kernel
theorem dX6_keep_11 : decode cX6_keep 11 = .ok (.aload_n 0, 1) := by decide +kernel
theorem dX6_keep_12 : decode cX6_keep 12 = .ok (.getfield 29, 3) := by decide +kernel
theorem dX6_keep_15 : decode cX6_keep 15 = .ok (.aload_n 0, 1) := by decide +kernel
theorem dX6_keep_16 : decode cX6_keep 16 = .ok (.getfield 42, 3) := by decide +kernel
theorem dX6_keep_19 : decode cX6_keep 19 = .ok (.iload_n 1, 1) := by decide +kernel
theorem dX6_keep_20 : decode cX6_keep 20 = .ok (.aaload, 1) := by decide +kernel
theorem dX6_keep_21 : decode cX6_keep 21 = .ok (.invokevirtual 157, 3) := by decide +kernel
theorem dX6_keep_24 : decode cX6_keep 24 = .ok (.aload_n 0, 1) := by decide +kernel
theorem dX6_keep_25 : decode cX6_keep 25 = .ok (.getfield 45, 3) := by decide +kernel
theorem dX6_keep_28 : decode cX6_keep 28 = .ok (.iload_n 1, 1) := by decide +kernel
theorem dX6_keep_29 : decode cX6_keep 29 = .ok (.iconst 1, 1) := by decide +kernel
theorem dX6_keep_30 : decode cX6_keep 30 = .ok (.bastore, 1) := by decide +kernel
theorem dX6_keep_31 : decode cX6_keep 31 = .ok (.aload_n 0, 1) := by decide +kernel
theorem dX6_keep_32 : decode cX6_keep 32 = .ok (.getfield 29, 3) := by decide +kernel
theorem dX6_keep_35 : decode cX6_keep 35 = .ok (.getfield 138, 3) := by decide +kernel
theorem dX6_keep_38 : decode cX6_keep 38 = .ok (.ireturn, 1) := by decide +kernel
def T_X6_keep : tk_Tb := [(0, tk_il 1 1), (1, tk_ic (0) 2), (2, tk_ic (1) 3), (3, tk_cs M_X6_isWithin 3 6), (6, tk_br (fun x => x = 0) 9 11), (9, tk_ic (-1) 10), (10, tk_rI), (11, tk_al 0 12), (12, tk_gR 6 3 15), (15, tk_al 0 16), (16, tk_gR 6 5 19), (19, tk_il 1 20), (20, tk_aa 12 21), (21, tk_cv 1 M_X1_saveTo 1 24), (24, tk_al 0 25), (25, tk_gR 6 6 28), (28, tk_il 1 29), (29, tk_ic (1) 30), (30, tk_si 10 (vp_nar .boolean) 31), (31, tk_al 0 32), (32, tk_gR 6 3 35), (35, tk_gI 1 0 38), (38, tk_rI)]
set_option maxRecDepth 100000 in
theorem hT_X6_keep (sc : Option (Nat × (Nat → Int32))) : ∀ x ∈ T_X6_keep, tk_So sc M_X6_keep x.1 x.2 := by
  unfold T_X6_keep
  refine List.forall_mem_cons.mpr ⟨so_iload_n dX6_keep_0 rfl rfl, ?_⟩
  refine List.forall_mem_cons.mpr ⟨so_iconst dX6_keep_1 (by decide) rfl, ?_⟩
  refine List.forall_mem_cons.mpr ⟨so_iconst dX6_keep_2 (by decide) rfl, ?_⟩
  refine List.forall_mem_cons.mpr ⟨so_cs dX6_keep_3 mv_X6_isWithin wm_X6_69 ⟨rfl, rfl⟩ (by decide) rfl, ?_⟩
  refine List.forall_mem_cons.mpr ⟨so_if_ne dX6_keep_6 (by decide) rfl, ?_⟩
  refine List.forall_mem_cons.mpr ⟨so_iconst dX6_keep_9 (by decide) rfl, ?_⟩
  refine List.forall_mem_cons.mpr ⟨so_rI dX6_keep_10 rfl, ?_⟩
  refine List.forall_mem_cons.mpr ⟨so_aload_n dX6_keep_11 rfl rfl, ?_⟩
  refine List.forall_mem_cons.mpr ⟨so_gR (C := RX6) (T := TX6) (N := 12) dX6_keep_12 (by decide) rfl rfl (by decide) rfl in_X6 wf_X6_29 rfl, ?_⟩
  refine List.forall_mem_cons.mpr ⟨so_aload_n dX6_keep_15 rfl rfl, ?_⟩
  refine List.forall_mem_cons.mpr ⟨so_gR (C := RX6) (T := TX6) (N := 12) dX6_keep_16 (by decide) rfl rfl (by decide) rfl in_X6 wf_X6_42 rfl, ?_⟩
  refine List.forall_mem_cons.mpr ⟨so_iload_n dX6_keep_19 rfl rfl, ?_⟩
  refine List.forall_mem_cons.mpr ⟨so_aaI dX6_keep_20 rfl, ?_⟩
  refine List.forall_mem_cons.mpr ⟨so_cv (T := TX1) (N := 3) dX6_keep_21 mv_X1_saveTo wm_X6_157 (by decide) rfl ⟨rfl, rfl⟩ (by decide) rfl, ?_⟩
  refine List.forall_mem_cons.mpr ⟨so_aload_n dX6_keep_24 rfl rfl, ?_⟩
  refine List.forall_mem_cons.mpr ⟨so_gR (C := RX6) (T := TX6) (N := 12) dX6_keep_25 (by decide) rfl rfl (by decide) rfl in_X6 wf_X6_45 rfl, ?_⟩
  refine List.forall_mem_cons.mpr ⟨so_iload_n dX6_keep_28 rfl rfl, ?_⟩
  refine List.forall_mem_cons.mpr ⟨so_iconst dX6_keep_29 (by decide) rfl, ?_⟩
  refine List.forall_mem_cons.mpr ⟨so_bastore dX6_keep_30 rfl, ?_⟩
  refine List.forall_mem_cons.mpr ⟨so_aload_n dX6_keep_31 rfl rfl, ?_⟩
  refine List.forall_mem_cons.mpr ⟨so_gR (C := RX6) (T := TX6) (N := 12) dX6_keep_32 (by decide) rfl rfl (by decide) rfl in_X6 wf_X6_29 rfl, ?_⟩
  refine List.forall_mem_cons.mpr ⟨so_gI (C := RX1) (T := TX1) (N := 3) dX6_keep_35 (by decide) rfl rfl (by decide) rfl in_X1 wf_X6_138 rfl, ?_⟩
  refine List.forall_mem_cons.mpr ⟨so_rI dX6_keep_38 rfl, ?_⟩
  exact fun _ h => absurd h List.not_mem_nil
theorem dX6_back_0 : decode cX6_back 0 = .ok (.iload_n 1, 1) := by decide +kernel
theorem dX6_back_1 : decode cX6_back 1 = .ok (.iconst 0, 1) := by decide +kernel
theorem dX6_back_2 : decode cX6_back 2 = .ok (.iconst 1, 1) := by decide +kernel
theorem dX6_back_3 : decode cX6_back 3 = .ok (.invokestatic 69, 3) := by decide +kernel
theorem dX6_back_6 : decode cX6_back 6 = .ok (.ifCond .ne 5, 3) := by decide +kernel
theorem dX6_back_9 : decode cX6_back 9 = .ok (.iconst (-1), 1) := by decide +kernel
theorem dX6_back_10 : decode cX6_back 10 = .ok (.ireturn, 1) := by decide +kernel
theorem dX6_back_11 : decode cX6_back 11 = .ok (.aload_n 0, 1) := by decide +kernel
theorem dX6_back_12 : decode cX6_back 12 = .ok (.getfield 45, 3) := by decide +kernel
theorem dX6_back_15 : decode cX6_back 15 = .ok (.iload_n 1, 1) := by decide +kernel
theorem dX6_back_16 : decode cX6_back 16 = .ok (.baload, 1) := by decide +kernel
theorem dX6_back_17 : decode cX6_back 17 = .ok (.ifCond .ne 6, 3) := by decide +kernel
theorem dX6_back_20 : decode cX6_back 20 = .ok (.bipush (-2), 2) := by decide +kernel
theorem dX6_back_22 : decode cX6_back 22 = .ok (.ireturn, 1) := by decide +kernel
theorem dX6_back_23 : decode cX6_back 23 = .ok (.aload_n 0, 1) := by decide +kernel
theorem dX6_back_24 : decode cX6_back 24 = .ok (.getfield 29, 3) := by decide +kernel
theorem dX6_back_27 : decode cX6_back 27 = .ok (.aload_n 0, 1) := by decide +kernel
theorem dX6_back_28 : decode cX6_back 28 = .ok (.getfield 42, 3) := by decide +kernel
theorem dX6_back_31 : decode cX6_back 31 = .ok (.iload_n 1, 1) := by decide +kernel
theorem dX6_back_32 : decode cX6_back 32 = .ok (.aaload, 1) := by decide +kernel
theorem dX6_back_33 : decode cX6_back 33 = .ok (.invokevirtual 178, 3) := by decide +kernel
theorem dX6_back_36 : decode cX6_back 36 = .ok (.aload_n 0, 1) := by decide +kernel
theorem dX6_back_37 : decode cX6_back 37 = .ok (.getfield 36, 3) := by decide +kernel
theorem dX6_back_40 : decode cX6_back 40 = .ok (.invokevirtual 89, 3) := by decide +kernel
theorem dX6_back_43 : decode cX6_back 43 = .ok (.aload_n 0, 1) := by decide +kernel
theorem dX6_back_44 : decode cX6_back 44 = .ok (.getfield 29, 3) := by decide +kernel
theorem dX6_back_47 : decode cX6_back 47 = .ok (.getfield 138, 3) := by decide +kernel
theorem dX6_back_50 : decode cX6_back 50 = .ok (.ireturn, 1) := by decide +kernel
def T_X6_back : tk_Tb := [(0, tk_il 1 1), (1, tk_ic (0) 2), (2, tk_ic (1) 3), (3, tk_cs M_X6_isWithin 3 6), (6, tk_br (fun x => x = 0) 9 11), (9, tk_ic (-1) 10), (10, tk_rI), (11, tk_al 0 12), (12, tk_gR 6 6 15), (15, tk_il 1 16), (16, tk_ai 10 17), (17, tk_br (fun x => x = 0) 20 23), (20, tk_ic (-2) 22), (22, tk_rI), (23, tk_al 0 24), (24, tk_gR 6 3 27), (27, tk_al 0 28), (28, tk_gR 6 5 31), (31, tk_il 1 32), (32, tk_aa 12 33), (33, tk_cv 1 M_X1_loadFrom 1 36), (36, tk_al 0 37), (37, tk_gR 6 4 40), (40, tk_cv 2 M_X2_lose 0 43), (43, tk_al 0 44), (44, tk_gR 6 3 47), (47, tk_gI 1 0 50), (50, tk_rI)]
set_option maxRecDepth 100000 in
theorem hT_X6_back (sc : Option (Nat × (Nat → Int32))) : ∀ x ∈ T_X6_back, tk_So sc M_X6_back x.1 x.2 := by
  unfold T_X6_back
  refine List.forall_mem_cons.mpr ⟨so_iload_n dX6_back_0 rfl rfl, ?_⟩
  refine List.forall_mem_cons.mpr ⟨so_iconst dX6_back_1 (by decide) rfl, ?_⟩
  refine List.forall_mem_cons.mpr ⟨so_iconst dX6_back_2 (by decide) rfl, ?_⟩
  refine List.forall_mem_cons.mpr ⟨so_cs dX6_back_3 mv_X6_isWithin wm_X6_69 ⟨rfl, rfl⟩ (by decide) rfl, ?_⟩
  refine List.forall_mem_cons.mpr ⟨so_if_ne dX6_back_6 (by decide) rfl, ?_⟩
  refine List.forall_mem_cons.mpr ⟨so_iconst dX6_back_9 (by decide) rfl, ?_⟩
  refine List.forall_mem_cons.mpr ⟨so_rI dX6_back_10 rfl, ?_⟩
  refine List.forall_mem_cons.mpr ⟨so_aload_n dX6_back_11 rfl rfl, ?_⟩
  refine List.forall_mem_cons.mpr ⟨so_gR (C := RX6) (T := TX6) (N := 12) dX6_back_12 (by decide) rfl rfl (by decide) rfl in_X6 wf_X6_45 rfl, ?_⟩
  refine List.forall_mem_cons.mpr ⟨so_iload_n dX6_back_15 rfl rfl, ?_⟩
  refine List.forall_mem_cons.mpr ⟨so_baload dX6_back_16 rfl, ?_⟩
  refine List.forall_mem_cons.mpr ⟨so_if_ne dX6_back_17 (by decide) rfl, ?_⟩
  refine List.forall_mem_cons.mpr ⟨so_bipush dX6_back_20 (by decide) rfl, ?_⟩
  refine List.forall_mem_cons.mpr ⟨so_rI dX6_back_22 rfl, ?_⟩
  refine List.forall_mem_cons.mpr ⟨so_aload_n dX6_back_23 rfl rfl, ?_⟩
  refine List.forall_mem_cons.mpr ⟨so_gR (C := RX6) (T := TX6) (N := 12) dX6_back_24 (by decide) rfl rfl (by decide) rfl in_X6 wf_X6_29 rfl, ?_⟩
  refine List.forall_mem_cons.mpr ⟨so_aload_n dX6_back_27 rfl rfl, ?_⟩
  refine List.forall_mem_cons.mpr ⟨so_gR (C := RX6) (T := TX6) (N := 12) dX6_back_28 (by decide) rfl rfl (by decide) rfl in_X6 wf_X6_42 rfl, ?_⟩
  refine List.forall_mem_cons.mpr ⟨so_iload_n dX6_back_31 rfl rfl, ?_⟩
  refine List.forall_mem_cons.mpr ⟨so_aaI dX6_back_32 rfl, ?_⟩
  refine List.forall_mem_cons.mpr ⟨so_cv (T := TX1) (N := 3) dX6_back_33 mv_X1_loadFrom wm_X6_178 (by decide) rfl ⟨rfl, rfl⟩ (by decide) rfl, ?_⟩
  refine List.forall_mem_cons.mpr ⟨so_aload_n dX6_back_36 rfl rfl, ?_⟩
  refine List.forall_mem_cons.mpr ⟨so_gR (C := RX6) (T := TX6) (N := 12) dX6_back_37 (by decide) rfl rfl (by decide) rfl in_X6 wf_X6_36 rfl, ?_⟩
  refine List.forall_mem_cons.mpr ⟨so_cv (T := TX2) (N := 3) dX6_back_40 mv_X2_lose wm_X6_89 (by decide) rfl ⟨rfl, rfl⟩ (by decide) rfl, ?_⟩
  refine List.forall_mem_cons.mpr ⟨so_aload_n dX6_back_43 rfl rfl, ?_⟩
  refine List.forall_mem_cons.mpr ⟨so_gR (C := RX6) (T := TX6) (N := 12) dX6_back_44 (by decide) rfl rfl (by decide) rfl in_X6 wf_X6_29 rfl, ?_⟩
  refine List.forall_mem_cons.mpr ⟨so_gI (C := RX1) (T := TX1) (N := 3) dX6_back_47 (by decide) rfl rfl (by decide) rfl in_X1 wf_X6_138 rfl, ?_⟩
  refine List.forall_mem_cons.mpr ⟨so_rI dX6_back_50 rfl, ?_⟩
  exact fun _ h => absurd h List.not_mem_nil
theorem dX6_count_0 : decode cX6_count 0 = .ok (.iload_n 1, 1) := by decide +kernel
theorem dX6_count_1 : decode cX6_count 1 = .ok (.tableswitch 111 0 7 #[47, 55, 63, 71, 79, 87, 95, 103], 47) := by decide +kernel
theorem dX6_count_48 : decode cX6_count 48 = .ok (.aload_n 0, 1) := by decide +kernel
theorem dX6_count_49 : decode cX6_count 49 = .ok (.getfield 19, 3) := by decide +kernel
theorem dX6_count_52 : decode cX6_count 52 = .ok (.getfield 195, 3) := by decide +kernel
theorem dX6_count_55 : decode cX6_count 55 = .ok (.ireturn, 1) := by decide +kernel
theorem dX6_count_56 : decode cX6_count 56 = .ok (.aload_n 0, 1) := by decide +kernel
theorem dX6_count_57 : decode cX6_count 57 = .ok (.getfield 19, 3) := by decide +kernel
theorem dX6_count_60 : decode cX6_count 60 = .ok (.getfield 111, 3) := by decide +kernel
theorem dX6_count_63 : decode cX6_count 63 = .ok (.ireturn, 1) := by decide +kernel
theorem dX6_count_64 : decode cX6_count 64 = .ok (.aload_n 0, 1) := by decide +kernel
theorem dX6_count_65 : decode cX6_count 65 = .ok (.getfield 19, 3) := by decide +kernel
theorem dX6_count_68 : decode cX6_count 68 = .ok (.getfield 181, 3) := by decide +kernel
theorem dX6_count_71 : decode cX6_count 71 = .ok (.ireturn, 1) := by decide +kernel
theorem dX6_count_72 : decode cX6_count 72 = .ok (.aload_n 0, 1) := by decide +kernel
theorem dX6_count_73 : decode cX6_count 73 = .ok (.getfield 19, 3) := by decide +kernel
theorem dX6_count_76 : decode cX6_count 76 = .ok (.getfield 254, 3) := by decide +kernel
theorem dX6_count_79 : decode cX6_count 79 = .ok (.ireturn, 1) := by decide +kernel
theorem dX6_count_80 : decode cX6_count 80 = .ok (.aload_n 0, 1) := by decide +kernel
theorem dX6_count_81 : decode cX6_count 81 = .ok (.getfield 19, 3) := by decide +kernel
theorem dX6_count_84 : decode cX6_count 84 = .ok (.getfield 257, 3) := by decide +kernel
theorem dX6_count_87 : decode cX6_count 87 = .ok (.ireturn, 1) := by decide +kernel
theorem dX6_count_88 : decode cX6_count 88 = .ok (.aload_n 0, 1) := by decide +kernel
theorem dX6_count_89 : decode cX6_count 89 = .ok (.getfield 52, 3) := by decide +kernel
theorem dX6_count_92 : decode cX6_count 92 = .ok (.getfield 260, 3) := by decide +kernel
theorem dX6_count_95 : decode cX6_count 95 = .ok (.ireturn, 1) := by decide +kernel
theorem dX6_count_96 : decode cX6_count 96 = .ok (.aload_n 0, 1) := by decide +kernel
theorem dX6_count_97 : decode cX6_count 97 = .ok (.getfield 56, 3) := by decide +kernel
theorem dX6_count_100 : decode cX6_count 100 = .ok (.getfield 260, 3) := by decide +kernel
theorem dX6_count_103 : decode cX6_count 103 = .ok (.ireturn, 1) := by decide +kernel
theorem dX6_count_104 : decode cX6_count 104 = .ok (.aload_n 0, 1) := by decide +kernel
theorem dX6_count_105 : decode cX6_count 105 = .ok (.getfield 10, 3) := by decide +kernel
theorem dX6_count_108 : decode cX6_count 108 = .ok (.getfield 263, 3) := by decide +kernel
theorem dX6_count_111 : decode cX6_count 111 = .ok (.ireturn, 1) := by decide +kernel
theorem dX6_count_112 : decode cX6_count 112 = .ok (.iconst (-1), 1) := by decide +kernel
theorem dX6_count_113 : decode cX6_count 113 = .ok (.ireturn, 1) := by decide +kernel
def T_X6_count : tk_Tb := [(0, tk_il 1 1), (1, tk_sw [(0, 48), (1, 56), (2, 64), (3, 72), (4, 80), (5, 88), (6, 96), (7, 104)] 112), (48, tk_al 0 49), (49, tk_gR 6 1 52), (52, tk_gI 5 3 55), (55, tk_rI), (56, tk_al 0 57), (57, tk_gR 6 1 60), (60, tk_gI 5 4 63), (63, tk_rI), (64, tk_al 0 65), (65, tk_gR 6 1 68), (68, tk_gI 5 0 71), (71, tk_rI), (72, tk_al 0 73), (73, tk_gR 6 1 76), (76, tk_gI 5 1 79), (79, tk_rI), (80, tk_al 0 81), (81, tk_gR 6 1 84), (84, tk_gI 5 2 87), (87, tk_rI), (88, tk_al 0 89), (89, tk_gR 6 7 92), (92, tk_gI 0 2 95), (95, tk_rI), (96, tk_al 0 97), (97, tk_gR 6 8 100), (100, tk_gI 0 2 103), (103, tk_rI), (104, tk_al 0 105), (105, tk_gR 6 0 108), (108, tk_gI 3 1 111), (111, tk_rI), (112, tk_ic (-1) 113), (113, tk_rI)]
set_option maxRecDepth 100000 in
theorem hT_X6_count (sc : Option (Nat × (Nat → Int32))) : ∀ x ∈ T_X6_count, tk_So sc M_X6_count x.1 x.2 := by
  unfold T_X6_count
  refine List.forall_mem_cons.mpr ⟨so_iload_n dX6_count_0 rfl rfl, ?_⟩
  refine List.forall_mem_cons.mpr ⟨so_table (n := 7) dX6_count_1 (by decide) (by decide +kernel) (by decide +kernel), ?_⟩
  refine List.forall_mem_cons.mpr ⟨so_aload_n dX6_count_48 rfl rfl, ?_⟩
  refine List.forall_mem_cons.mpr ⟨so_gR (C := RX6) (T := TX6) (N := 12) dX6_count_49 (by decide) rfl rfl (by decide) rfl in_X6 wf_X6_19 rfl, ?_⟩
  refine List.forall_mem_cons.mpr ⟨so_gI (C := RX5) (T := TX5) (N := 10) dX6_count_52 (by decide) rfl rfl (by decide) rfl in_X5 wf_X6_195 rfl, ?_⟩
  refine List.forall_mem_cons.mpr ⟨so_rI dX6_count_55 rfl, ?_⟩
  refine List.forall_mem_cons.mpr ⟨so_aload_n dX6_count_56 rfl rfl, ?_⟩
  refine List.forall_mem_cons.mpr ⟨so_gR (C := RX6) (T := TX6) (N := 12) dX6_count_57 (by decide) rfl rfl (by decide) rfl in_X6 wf_X6_19 rfl, ?_⟩
  refine List.forall_mem_cons.mpr ⟨so_gI (C := RX5) (T := TX5) (N := 10) dX6_count_60 (by decide) rfl rfl (by decide) rfl in_X5 wf_X6_111 rfl, ?_⟩
  refine List.forall_mem_cons.mpr ⟨so_rI dX6_count_63 rfl, ?_⟩
  refine List.forall_mem_cons.mpr ⟨so_aload_n dX6_count_64 rfl rfl, ?_⟩
  refine List.forall_mem_cons.mpr ⟨so_gR (C := RX6) (T := TX6) (N := 12) dX6_count_65 (by decide) rfl rfl (by decide) rfl in_X6 wf_X6_19 rfl, ?_⟩
  refine List.forall_mem_cons.mpr ⟨so_gI (C := RX5) (T := TX5) (N := 10) dX6_count_68 (by decide) rfl rfl (by decide) rfl in_X5 wf_X6_181 rfl, ?_⟩
  refine List.forall_mem_cons.mpr ⟨so_rI dX6_count_71 rfl, ?_⟩
  refine List.forall_mem_cons.mpr ⟨so_aload_n dX6_count_72 rfl rfl, ?_⟩
  refine List.forall_mem_cons.mpr ⟨so_gR (C := RX6) (T := TX6) (N := 12) dX6_count_73 (by decide) rfl rfl (by decide) rfl in_X6 wf_X6_19 rfl, ?_⟩
  refine List.forall_mem_cons.mpr ⟨so_gI (C := RX5) (T := TX5) (N := 10) dX6_count_76 (by decide) rfl rfl (by decide) rfl in_X5 wf_X6_254 rfl, ?_⟩
  refine List.forall_mem_cons.mpr ⟨so_rI dX6_count_79 rfl, ?_⟩
  refine List.forall_mem_cons.mpr ⟨so_aload_n dX6_count_80 rfl rfl, ?_⟩
  refine List.forall_mem_cons.mpr ⟨so_gR (C := RX6) (T := TX6) (N := 12) dX6_count_81 (by decide) rfl rfl (by decide) rfl in_X6 wf_X6_19 rfl, ?_⟩
  refine List.forall_mem_cons.mpr ⟨so_gI (C := RX5) (T := TX5) (N := 10) dX6_count_84 (by decide) rfl rfl (by decide) rfl in_X5 wf_X6_257 rfl, ?_⟩
  refine List.forall_mem_cons.mpr ⟨so_rI dX6_count_87 rfl, ?_⟩
  refine List.forall_mem_cons.mpr ⟨so_aload_n dX6_count_88 rfl rfl, ?_⟩
  refine List.forall_mem_cons.mpr ⟨so_gR (C := RX6) (T := TX6) (N := 12) dX6_count_89 (by decide) rfl rfl (by decide) rfl in_X6 wf_X6_52 rfl, ?_⟩
  refine List.forall_mem_cons.mpr ⟨so_gI (C := RX0) (T := TX0) (N := 3) dX6_count_92 (by decide) rfl rfl (by decide) rfl in_X0 wf_X6_260 rfl, ?_⟩
  refine List.forall_mem_cons.mpr ⟨so_rI dX6_count_95 rfl, ?_⟩
  refine List.forall_mem_cons.mpr ⟨so_aload_n dX6_count_96 rfl rfl, ?_⟩
  refine List.forall_mem_cons.mpr ⟨so_gR (C := RX6) (T := TX6) (N := 12) dX6_count_97 (by decide) rfl rfl (by decide) rfl in_X6 wf_X6_56 rfl, ?_⟩
  refine List.forall_mem_cons.mpr ⟨so_gI (C := RX0) (T := TX0) (N := 3) dX6_count_100 (by decide) rfl rfl (by decide) rfl in_X0 wf_X6_260 rfl, ?_⟩
  refine List.forall_mem_cons.mpr ⟨so_rI dX6_count_103 rfl, ?_⟩
  refine List.forall_mem_cons.mpr ⟨so_aload_n dX6_count_104 rfl rfl, ?_⟩
  refine List.forall_mem_cons.mpr ⟨so_gR (C := RX6) (T := TX6) (N := 12) dX6_count_105 (by decide) rfl rfl (by decide) rfl in_X6 wf_X6_10 rfl, ?_⟩
  refine List.forall_mem_cons.mpr ⟨so_gI (C := RX3) (T := TX3) (N := 7) dX6_count_108 (by decide) rfl rfl (by decide) rfl in_X3 wf_X6_263 rfl, ?_⟩
  refine List.forall_mem_cons.mpr ⟨so_rI dX6_count_111 rfl, ?_⟩
  refine List.forall_mem_cons.mpr ⟨so_iconst dX6_count_112 (by decide) rfl, ?_⟩
  refine List.forall_mem_cons.mpr ⟨so_rI dX6_count_113 rfl, ?_⟩
  exact fun _ h => absurd h List.not_mem_nil
theorem dX6_trace_0 : decode cX6_trace 0 = .ok (.aload_n 0, 1) := by decide +kernel
theorem dX6_trace_1 : decode cX6_trace 1 = .ok (.getfield 266, 3) := by decide +kernel
theorem dX6_trace_4 : decode cX6_trace 4 = .ok (.lreturn, 1) := by decide +kernel
def T_X6_trace : tk_Tb := [(0, tk_al 0 1), (1, tk_gL 6 11 4), (4, tk_rL)]
set_option maxRecDepth 100000 in
theorem hT_X6_trace (sc : Option (Nat × (Nat → Int32))) : ∀ x ∈ T_X6_trace, tk_So sc M_X6_trace x.1 x.2 := by
  unfold T_X6_trace
  refine List.forall_mem_cons.mpr ⟨so_aload_n dX6_trace_0 rfl rfl, ?_⟩
  refine List.forall_mem_cons.mpr ⟨so_gL (C := RX6) (T := TX6) (N := 12) dX6_trace_1 (by decide) rfl rfl (by decide) rfl in_X6 wf_X6_266 rfl, ?_⟩
  refine List.forall_mem_cons.mpr ⟨so_rL dX6_trace_4 rfl, ?_⟩
  exact fun _ h => absurd h List.not_mem_nil
theorem dX7_begins_0 : decode cX7_begins 0 = .ok (.aload_n 0, 1) := by decide +kernel
theorem dX7_begins_1 : decode cX7_begins 1 = .ok (.iconst 0, 1) := by decide +kernel
theorem dX7_begins_2 : decode cX7_begins 2 = .ok (.putfield 103, 3) := by decide +kernel
theorem dX7_begins_5 : decode cX7_begins 5 = .ok (.aload_n 0, 1) := by decide +kernel
theorem dX7_begins_6 : decode cX7_begins 6 = .ok (.getfield 13, 3) := by decide +kernel
theorem dX7_begins_9 : decode cX7_begins 9 = .ok (.iconst 5, 1) := by decide +kernel
theorem dX7_begins_10 : decode cX7_begins 10 = .ok (.iconst 0, 1) := by decide +kernel
theorem dX7_begins_11 : decode cX7_begins 11 = .ok (.iastore, 1) := by decide +kernel
theorem dX7_begins_12 : decode cX7_begins 12 = .ok (.aload_n 0, 1) := by decide +kernel
theorem dX7_begins_13 : decode cX7_begins 13 = .ok (.getfield 13, 3) := by decide +kernel
theorem dX7_begins_16 : decode cX7_begins 16 = .ok (.bipush 6, 2) := by decide +kernel
theorem dX7_begins_18 : decode cX7_begins 18 = .ok (.iconst 0, 1) := by decide +kernel
theorem dX7_begins_19 : decode cX7_begins 19 = .ok (.iastore, 1) := by decide +kernel
theorem dX7_begins_20 : decode cX7_begins 20 = .ok (.aload_n 0, 1) := by decide +kernel
theorem dX7_begins_21 : decode cX7_begins 21 = .ok (.getfield 13, 3) := by decide +kernel
theorem dX7_begins_24 : decode cX7_begins 24 = .ok (.bipush 7, 2) := by decide +kernel
theorem dX7_begins_26 : decode cX7_begins 26 = .ok (.bipush 10, 2) := by decide +kernel
theorem dX7_begins_28 : decode cX7_begins 28 = .ok (.iastore, 1) := by decide +kernel
theorem dX7_begins_29 : decode cX7_begins 29 = .ok (.aload_n 0, 1) := by decide +kernel
theorem dX7_begins_30 : decode cX7_begins 30 = .ok (.getfield 13, 3) := by decide +kernel
theorem dX7_begins_33 : decode cX7_begins 33 = .ok (.bipush 8, 2) := by decide +kernel
theorem dX7_begins_35 : decode cX7_begins 35 = .ok (.iconst 3, 1) := by decide +kernel
theorem dX7_begins_36 : decode cX7_begins 36 = .ok (.iastore, 1) := by decide +kernel
theorem dX7_begins_37 : decode cX7_begins 37 = .ok (.aload_n 0, 1) := by decide +kernel
theorem dX7_begins_38 : decode cX7_begins 38 = .ok (.getfield 13, 3) := by decide +kernel
theorem dX7_begins_41 : decode cX7_begins 41 = .ok (.bipush 9, 2) := by decide +kernel
theorem dX7_begins_43 : decode cX7_begins 43 = .ok (.iconst 0, 1) := by decide +kernel
theorem dX7_begins_44 : decode cX7_begins 44 = .ok (.iastore, 1) := by decide +kernel
theorem dX7_begins_45 : decode cX7_begins 45 = .ok (.return_, 1) := by decide +kernel
def T_X7_begins : tk_Tb := [(0, tk_al 0 1), (1, tk_ic (0) 2), (2, tk_pZ 7 10 5), (5, tk_al 0 6), (6, tk_gR 7 9 9), (9, tk_ic (5) 10), (10, tk_ic (0) 11), (11, tk_si 9 (fun x => x) 12), (12, tk_al 0 13), (13, tk_gR 7 9 16), (16, tk_ic (6) 18), (18, tk_ic (0) 19), (19, tk_si 9 (fun x => x) 20), (20, tk_al 0 21), (21, tk_gR 7 9 24), (24, tk_ic (7) 26), (26, tk_ic (10) 28), (28, tk_si 9 (fun x => x) 29), (29, tk_al 0 30), (30, tk_gR 7 9 33), (33, tk_ic (8) 35), (35, tk_ic (3) 36), (36, tk_si 9 (fun x => x) 37), (37, tk_al 0 38), (38, tk_gR 7 9 41), (41, tk_ic (9) 43), (43, tk_ic (0) 44), (44, tk_si 9 (fun x => x) 45), (45, tk_rV)]
set_option maxRecDepth 100000 in
theorem hT_X7_begins (sc : Option (Nat × (Nat → Int32))) : ∀ x ∈ T_X7_begins, tk_So sc M_X7_begins x.1 x.2 := by
  unfold T_X7_begins
  refine List.forall_mem_cons.mpr ⟨so_aload_n dX7_begins_0 rfl rfl, ?_⟩
  refine List.forall_mem_cons.mpr ⟨so_iconst dX7_begins_1 (by decide) rfl, ?_⟩
  refine List.forall_mem_cons.mpr ⟨so_pZ (C := RX7) (T := TX7) (N := 29) dX7_begins_2 (by decide) rfl rfl (by decide) rfl in_X7 wf_X7_103 tyX7 tyX7_ok nmX7 rfl (by decide +kernel) rfl, ?_⟩
  refine List.forall_mem_cons.mpr ⟨so_aload_n dX7_begins_5 rfl rfl, ?_⟩
  refine List.forall_mem_cons.mpr ⟨so_gR (C := RX7) (T := TX7) (N := 29) dX7_begins_6 (by decide) rfl rfl (by decide) rfl in_X7 wf_X7_13 rfl, ?_⟩
  refine List.forall_mem_cons.mpr ⟨so_iconst dX7_begins_9 (by decide) rfl, ?_⟩
  refine List.forall_mem_cons.mpr ⟨so_iconst dX7_begins_10 (by decide) rfl, ?_⟩
  refine List.forall_mem_cons.mpr ⟨so_iastore dX7_begins_11 rfl, ?_⟩
  refine List.forall_mem_cons.mpr ⟨so_aload_n dX7_begins_12 rfl rfl, ?_⟩
  refine List.forall_mem_cons.mpr ⟨so_gR (C := RX7) (T := TX7) (N := 29) dX7_begins_13 (by decide) rfl rfl (by decide) rfl in_X7 wf_X7_13 rfl, ?_⟩
  refine List.forall_mem_cons.mpr ⟨so_bipush dX7_begins_16 (by decide) rfl, ?_⟩
  refine List.forall_mem_cons.mpr ⟨so_iconst dX7_begins_18 (by decide) rfl, ?_⟩
  refine List.forall_mem_cons.mpr ⟨so_iastore dX7_begins_19 rfl, ?_⟩
  refine List.forall_mem_cons.mpr ⟨so_aload_n dX7_begins_20 rfl rfl, ?_⟩
  refine List.forall_mem_cons.mpr ⟨so_gR (C := RX7) (T := TX7) (N := 29) dX7_begins_21 (by decide) rfl rfl (by decide) rfl in_X7 wf_X7_13 rfl, ?_⟩
  refine List.forall_mem_cons.mpr ⟨so_bipush dX7_begins_24 (by decide) rfl, ?_⟩
  refine List.forall_mem_cons.mpr ⟨so_bipush dX7_begins_26 (by decide) rfl, ?_⟩
  refine List.forall_mem_cons.mpr ⟨so_iastore dX7_begins_28 rfl, ?_⟩
  refine List.forall_mem_cons.mpr ⟨so_aload_n dX7_begins_29 rfl rfl, ?_⟩
  refine List.forall_mem_cons.mpr ⟨so_gR (C := RX7) (T := TX7) (N := 29) dX7_begins_30 (by decide) rfl rfl (by decide) rfl in_X7 wf_X7_13 rfl, ?_⟩
  refine List.forall_mem_cons.mpr ⟨so_bipush dX7_begins_33 (by decide) rfl, ?_⟩
  refine List.forall_mem_cons.mpr ⟨so_iconst dX7_begins_35 (by decide) rfl, ?_⟩
  refine List.forall_mem_cons.mpr ⟨so_iastore dX7_begins_36 rfl, ?_⟩
  refine List.forall_mem_cons.mpr ⟨so_aload_n dX7_begins_37 rfl rfl, ?_⟩
  refine List.forall_mem_cons.mpr ⟨so_gR (C := RX7) (T := TX7) (N := 29) dX7_begins_38 (by decide) rfl rfl (by decide) rfl in_X7 wf_X7_13 rfl, ?_⟩
  refine List.forall_mem_cons.mpr ⟨so_bipush dX7_begins_41 (by decide) rfl, ?_⟩
  refine List.forall_mem_cons.mpr ⟨so_iconst dX7_begins_43 (by decide) rfl, ?_⟩
  refine List.forall_mem_cons.mpr ⟨so_iastore dX7_begins_44 rfl, ?_⟩
  refine List.forall_mem_cons.mpr ⟨so_rV dX7_begins_45 rfl, ?_⟩
  exact fun _ h => absurd h List.not_mem_nil
theorem dX7_settles_0 : decode cX7_settles 0 = .ok (.iconst 0, 1) := by decide +kernel
theorem dX7_settles_1 : decode cX7_settles 1 = .ok (.istore_n 1, 1) := by decide +kernel
theorem dX7_settles_2 : decode cX7_settles 2 = .ok (.iload_n 1, 1) := by decide +kernel
theorem dX7_settles_3 : decode cX7_settles 3 = .ok (.iconst 5, 1) := by decide +kernel
theorem dX7_settles_4 : decode cX7_settles 4 = .ok (.if_icmp .ge 23, 3) := by decide +kernel
theorem dX7_settles_7 : decode cX7_settles 7 = .ok (.aload_n 0, 1) := by decide +kernel
theorem dX7_settles_8 : decode cX7_settles 8 = .ok (.getfield 13, 3) := by decide +kernel
theorem dX7_settles_11 : decode cX7_settles 11 = .ok (.iload_n 1, 1) := by decide +kernel
theorem dX7_settles_12 : decode cX7_settles 12 = .ok (.aload_n 0, 1) := by decide +kernel
theorem dX7_settles_13 : decode cX7_settles 13 = .ok (.getfield 13, 3) := by decide +kernel
theorem dX7_settles_16 : decode cX7_settles 16 = .ok (.iconst 5, 1) := by decide +kernel
theorem dX7_settles_17 : decode cX7_settles 17 = .ok (.iload_n 1, 1) := by decide +kernel
theorem dX7_settles_18 : decode cX7_settles 18 = .ok (.iadd, 1) := by decide +kernel
theorem dX7_settles_19 : decode cX7_settles 19 = .ok (.iaload, 1) := by decide +kernel
theorem dX7_settles_20 : decode cX7_settles 20 = .ok (.iastore, 1) := by decide +kernel
theorem dX7_settles_21 : decode cX7_settles 21 = .ok (.iinc 1 1, 3) := by decide +kernel
theorem dX7_settles_24 : decode cX7_settles 24 = .ok (.goto (-22), 3) := by decide +kernel
theorem dX7_settles_27 : decode cX7_settles 27 = .ok (.iconst 0, 1) := by decide +kernel
theorem dX7_settles_28 : decode cX7_settles 28 = .ok (.istore_n 1, 1) := by decide +kernel
theorem dX7_settles_29 : decode cX7_settles 29 = .ok (.iload_n 1, 1) := by decide +kernel
theorem dX7_settles_30 : decode cX7_settles 30 = .ok (.bipush 13, 2) := by decide +kernel
theorem dX7_settles_32 : decode cX7_settles 32 = .ok (.if_icmp .ge 16, 3) := by decide +kernel
theorem dX7_settles_35 : decode cX7_settles 35 = .ok (.aload_n 0, 1) := by decide +kernel
theorem dX7_settles_36 : decode cX7_settles 36 = .ok (.getfield 31, 3) := by decide +kernel
theorem dX7_settles_39 : decode cX7_settles 39 = .ok (.iload_n 1, 1) := by decide +kernel
theorem dX7_settles_40 : decode cX7_settles 40 = .ok (.iconst 0, 1) := by decide +kernel
theorem dX7_settles_41 : decode cX7_settles 41 = .ok (.iastore, 1) := by decide +kernel
theorem dX7_settles_42 : decode cX7_settles 42 = .ok (.iinc 1 1, 3) := by decide +kernel
theorem dX7_settles_45 : decode cX7_settles 45 = .ok (.goto (-16), 3) := by decide +kernel
theorem dX7_settles_48 : decode cX7_settles 48 = .ok (.iconst 0, 1) := by decide +kernel
theorem dX7_settles_49 : decode cX7_settles 49 = .ok (.istore_n 1, 1) := by decide +kernel
theorem dX7_settles_50 : decode cX7_settles 50 = .ok (.iload_n 1, 1) := by decide +kernel
theorem dX7_settles_51 : decode cX7_settles 51 = .ok (.bipush 8, 2) := by decide +kernel
theorem dX7_settles_53 : decode cX7_settles 53 = .ok (.if_icmp .ge 69, 3) := by decide +kernel
theorem dX7_settles_56 : decode cX7_settles 56 = .ok (.aload_n 0, 1) := by decide +kernel
theorem dX7_settles_57 : decode cX7_settles 57 = .ok (.getfield 16, 3) := by decide +kernel
theorem dX7_settles_60 : decode cX7_settles 60 = .ok (.iload_n 1, 1) := by decide +kernel
theorem dX7_settles_61 : decode cX7_settles 61 = .ok (.aload_n 0, 1) := by decide +kernel
theorem dX7_settles_62 : decode cX7_settles 62 = .ok (.getfield 16, 3) := by decide +kernel
theorem dX7_settles_65 : decode cX7_settles 65 = .ok (.bipush 8, 2) := by decide +kernel
theorem dX7_settles_67 : decode cX7_settles 67 = .ok (.iload_n 1, 1) := by decide +kernel
theorem dX7_settles_68 : decode cX7_settles 68 = .ok (.iadd, 1) := by decide +kernel
theorem dX7_settles_69 : decode cX7_settles 69 = .ok (.iaload, 1) := by decide +kernel
theorem dX7_settles_70 : decode cX7_settles 70 = .ok (.iastore, 1) := by decide +kernel
theorem dX7_settles_71 : decode cX7_settles 71 = .ok (.aload_n 0, 1) := by decide +kernel
theorem dX7_settles_72 : decode cX7_settles 72 = .ok (.getfield 19, 3) := by decide +kernel
theorem dX7_settles_75 : decode cX7_settles 75 = .ok (.iload_n 1, 1) := by decide +kernel
theorem dX7_settles_76 : decode cX7_settles 76 = .ok (.aload_n 0, 1) := by decide +kernel
theorem dX7_settles_77 : decode cX7_settles 77 = .ok (.getfield 19, 3) := by decide +kernel
theorem dX7_settles_80 : decode cX7_settles 80 = .ok (.bipush 8, 2) := by decide +kernel
theorem dX7_settles_82 : decode cX7_settles 82 = .ok (.iload_n 1, 1) := by decide +kernel
theorem dX7_settles_83 : decode cX7_settles 83 = .ok (.iadd, 1) := by decide +kernel
theorem dX7_settles_84 : decode cX7_settles 84 = .ok (.iaload, 1) := by decide +kernel
theorem dX7_settles_85 : decode cX7_settles 85 = .ok (.iastore, 1) := by decide +kernel
theorem dX7_settles_86 : decode cX7_settles 86 = .ok (.aload_n 0, 1) := by decide +kernel
theorem dX7_settles_87 : decode cX7_settles 87 = .ok (.getfield 22, 3) := by decide +kernel
theorem dX7_settles_90 : decode cX7_settles 90 = .ok (.iload_n 1, 1) := by decide +kernel
theorem dX7_settles_91 : decode cX7_settles 91 = .ok (.aload_n 0, 1) := by decide +kernel
theorem dX7_settles_92 : decode cX7_settles 92 = .ok (.getfield 22, 3) := by decide +kernel
theorem dX7_settles_95 : decode cX7_settles 95 = .ok (.bipush 8, 2) := by decide +kernel
theorem dX7_settles_97 : decode cX7_settles 97 = .ok (.iload_n 1, 1) := by decide +kernel
theorem dX7_settles_98 : decode cX7_settles 98 = .ok (.iadd, 1) := by decide +kernel
theorem dX7_settles_99 : decode cX7_settles 99 = .ok (.iaload, 1) := by decide +kernel
theorem dX7_settles_100 : decode cX7_settles 100 = .ok (.iastore, 1) := by decide +kernel
theorem dX7_settles_101 : decode cX7_settles 101 = .ok (.aload_n 0, 1) := by decide +kernel
theorem dX7_settles_102 : decode cX7_settles 102 = .ok (.getfield 25, 3) := by decide +kernel
theorem dX7_settles_105 : decode cX7_settles 105 = .ok (.iload_n 1, 1) := by decide +kernel
theorem dX7_settles_106 : decode cX7_settles 106 = .ok (.aload_n 0, 1) := by decide +kernel
theorem dX7_settles_107 : decode cX7_settles 107 = .ok (.getfield 25, 3) := by decide +kernel
theorem dX7_settles_110 : decode cX7_settles 110 = .ok (.bipush 8, 2) := by decide +kernel
theorem dX7_settles_112 : decode cX7_settles 112 = .ok (.iload_n 1, 1) := by decide +kernel
theorem dX7_settles_113 : decode cX7_settles 113 = .ok (.iadd, 1) := by decide +kernel
theorem dX7_settles_114 : decode cX7_settles 114 = .ok (.iaload, 1) := by decide +kernel
theorem dX7_settles_115 : decode cX7_settles 115 = .ok (.iastore, 1) := by decide +kernel
theorem dX7_settles_116 : decode cX7_settles 116 = .ok (.iinc 1 1, 3) := by decide +kernel
theorem dX7_settles_119 : decode cX7_settles 119 = .ok (.goto (-69), 3) := by decide +kernel
theorem dX7_settles_122 : decode cX7_settles 122 = .ok (.iconst 0, 1) := by decide +kernel
theorem dX7_settles_123 : decode cX7_settles 123 = .ok (.istore_n 1, 1) := by decide +kernel
theorem dX7_settles_124 : decode cX7_settles 124 = .ok (.iload_n 1, 1) := by decide +kernel
theorem dX7_settles_125 : decode cX7_settles 125 = .ok (.aload_n 0, 1) := by decide +kernel
theorem dX7_settles_126 : decode cX7_settles 126 = .ok (.getfield 13, 3) := by decide +kernel
theorem dX7_settles_129 : decode cX7_settles 129 = .ok (.iconst 1, 1) := by decide +kernel
theorem dX7_settles_130 : decode cX7_settles 130 = .ok (.iaload, 1) := by decide +kernel
theorem dX7_settles_131 : decode cX7_settles 131 = .ok (.if_icmp .ge 23, 3) := by decide +kernel
theorem dX7_settles_134 : decode cX7_settles 134 = .ok (.aload_n 0, 1) := by decide +kernel
theorem dX7_settles_135 : decode cX7_settles 135 = .ok (.getfield 31, 3) := by decide +kernel
theorem dX7_settles_138 : decode cX7_settles 138 = .ok (.iconst 1, 1) := by decide +kernel
theorem dX7_settles_139 : decode cX7_settles 139 = .ok (.iload_n 1, 1) := by decide +kernel
theorem dX7_settles_140 : decode cX7_settles 140 = .ok (.iadd, 1) := by decide +kernel
theorem dX7_settles_141 : decode cX7_settles 141 = .ok (.aload_n 0, 1) := by decide +kernel
theorem dX7_settles_142 : decode cX7_settles 142 = .ok (.getfield 28, 3) := by decide +kernel
theorem dX7_settles_145 : decode cX7_settles 145 = .ok (.iload_n 1, 1) := by decide +kernel
theorem dX7_settles_146 : decode cX7_settles 146 = .ok (.iaload, 1) := by decide +kernel
theorem dX7_settles_147 : decode cX7_settles 147 = .ok (.iastore, 1) := by decide +kernel
theorem dX7_settles_148 : decode cX7_settles 148 = .ok (.iinc 1 1, 3) := by decide +kernel
theorem dX7_settles_151 : decode cX7_settles 151 = .ok (.goto (-27), 3) := by decide +kernel
theorem dX7_settles_154 : decode cX7_settles 154 = .ok (.aload_n 0, 1) := by decide +kernel
theorem dX7_settles_155 : decode cX7_settles 155 = .ok (.iconst 0, 1) := by decide +kernel
theorem dX7_settles_156 : decode cX7_settles 156 = .ok (.putfield 70, 3) := by decide +kernel
theorem dX7_settles_159 : decode cX7_settles 159 = .ok (.aload_n 0, 1) := by decide +kernel
theorem dX7_settles_160 : decode cX7_settles 160 = .ok (.iconst 0, 1) := by decide +kernel
theorem dX7_settles_161 : decode cX7_settles 161 = .ok (.putfield 118, 3) := by decide +kernel
theorem dX7_settles_164 : decode cX7_settles 164 = .ok (.aload_n 0, 1) := by decide +kernel
theorem dX7_settles_165 : decode cX7_settles 165 = .ok (.iconst 0, 1) := by decide +kernel
theorem dX7_settles_166 : decode cX7_settles 166 = .ok (.putfield 121, 3) := by decide +kernel
theorem dX7_settles_169 : decode cX7_settles 169 = .ok (.aload_n 0, 1) := by decide +kernel
theorem dX7_settles_170 : decode cX7_settles 170 = .ok (.iconst 0, 1) := by decide +kernel
theorem dX7_settles_171 : decode cX7_settles 171 = .ok (.putfield 124, 3) := by decide +kernel
theorem dX7_settles_174 : decode cX7_settles 174 = .ok (.aload_n 0, 1) := by decide +kernel
theorem dX7_settles_175 : decode cX7_settles 175 = .ok (.getfield 37, 3) := by decide +kernel
theorem dX7_settles_178 : decode cX7_settles 178 = .ok (.iconst 0, 1) := by decide +kernel
theorem dX7_settles_179 : decode cX7_settles 179 = .ok (.iconst 0, 1) := by decide +kernel
theorem dX7_settles_180 : decode cX7_settles 180 = .ok (.bastore, 1) := by decide +kernel
theorem dX7_settles_181 : decode cX7_settles 181 = .ok (.aload_n 0, 1) := by decide +kernel
theorem dX7_settles_182 : decode cX7_settles 182 = .ok (.getfield 37, 3) := by decide +kernel
theorem dX7_settles_185 : decode cX7_settles 185 = .ok (.iconst 1, 1) := by decide +kernel
theorem dX7_settles_186 : decode cX7_settles 186 = .ok (.iconst 0, 1) := by decide +kernel
theorem dX7_settles_187 : decode cX7_settles 187 = .ok (.bastore, 1) := by decide +kernel
theorem dX7_settles_188 : decode cX7_settles 188 = .ok (.return_, 1) := by decide +kernel
def T_X7_settles : tk_Tb := [(0, tk_ic (0) 1), (1, tk_sI 1 2), (2, tk_il 1 3), (3, tk_ic (5) 4), (4, tk_cm (fun x y => y ≤ x) 27 7), (7, tk_al 0 8), (8, tk_gR 7 9 11), (11, tk_il 1 12), (12, tk_al 0 13), (13, tk_gR 7 9 16), (16, tk_ic (5) 17), (17, tk_il 1 18), (18, tk_bi (fun x y => x + y) 19), (19, tk_ai 9 20), (20, tk_si 9 (fun x => x) 21), (21, tk_inc 1 (1) 24), (24, tk_jmp 2), (27, tk_ic (0) 28), (28, tk_sI 1 29), (29, tk_il 1 30), (30, tk_ic (13) 32), (32, tk_cm (fun x y => y ≤ x) 48 35), (35, tk_al 0 36), (36, tk_gR 7 16 39), (39, tk_il 1 40), (40, tk_ic (0) 41), (41, tk_si 9 (fun x => x) 42), (42, tk_inc 1 (1) 45), (45, tk_jmp 29), (48, tk_ic (0) 49), (49, tk_sI 1 50), (50, tk_il 1 51), (51, tk_ic (8) 53), (53, tk_cm (fun x y => y ≤ x) 122 56), (56, tk_al 0 57), (57, tk_gR 7 11 60), (60, tk_il 1 61), (61, tk_al 0 62), (62, tk_gR 7 11 65), (65, tk_ic (8) 67), (67, tk_il 1 68), (68, tk_bi (fun x y => x + y) 69), (69, tk_ai 9 70), (70, tk_si 9 (fun x => x) 71), (71, tk_al 0 72), (72, tk_gR 7 12 75), (75, tk_il 1 76), (76, tk_al 0 77), (77, tk_gR 7 12 80), (80, tk_ic (8) 82), (82, tk_il 1 83), (83, tk_bi (fun x y => x + y) 84), (84, tk_ai 9 85), (85, tk_si 9 (fun x => x) 86), (86, tk_al 0 87), (87, tk_gR 7 13 90), (90, tk_il 1 91), (91, tk_al 0 92), (92, tk_gR 7 13 95), (95, tk_ic (8) 97), (97, tk_il 1 98), (98, tk_bi (fun x y => x + y) 99), (99, tk_ai 9 100), (100, tk_si 9 (fun x => x) 101), (101, tk_al 0 102), (102, tk_gR 7 14 105), (105, tk_il 1 106), (106, tk_al 0 107), (107, tk_gR 7 14 110), (110, tk_ic (8) 112), (112, tk_il 1 113), (113, tk_bi (fun x y => x + y) 114), (114, tk_ai 9 115), (115, tk_si 9 (fun x => x) 116), (116, tk_inc 1 (1) 119), (119, tk_jmp 50), (122, tk_ic (0) 123), (123, tk_sI 1 124), (124, tk_il 1 125), (125, tk_al 0 126), (126, tk_gR 7 9 129), (129, tk_ic (1) 130), (130, tk_ai 9 131), (131, tk_cm (fun x y => y ≤ x) 154 134), (134, tk_al 0 135), (135, tk_gR 7 16 138), (138, tk_ic (1) 139), (139, tk_il 1 140), (140, tk_bi (fun x y => x + y) 141), (141, tk_al 0 142), (142, tk_gR 7 15 145), (145, tk_il 1 146), (146, tk_ai 9 147), (147, tk_si 9 (fun x => x) 148), (148, tk_inc 1 (1) 151), (151, tk_jmp 124), (154, tk_al 0 155), (155, tk_ic (0) 156), (156, tk_pI 7 3 159), (159, tk_al 0 160), (160, tk_ic (0) 161), (161, tk_pI 7 23 164), (164, tk_al 0 165), (165, tk_ic (0) 166), (166, tk_pI 7 26 169), (169, tk_al 0 170), (170, tk_ic (0) 171), (171, tk_pI 7 20 174), (174, tk_al 0 175), (175, tk_gR 7 18 178), (178, tk_ic (0) 179), (179, tk_ic (0) 180), (180, tk_si 10 (vp_nar .boolean) 181), (181, tk_al 0 182), (182, tk_gR 7 18 185), (185, tk_ic (1) 186), (186, tk_ic (0) 187), (187, tk_si 10 (vp_nar .boolean) 188), (188, tk_rV)]
set_option maxRecDepth 100000 in
theorem hT_X7_settles (sc : Option (Nat × (Nat → Int32))) : ∀ x ∈ T_X7_settles, tk_So sc M_X7_settles x.1 x.2 := by
  unfold T_X7_settles
  refine List.forall_mem_cons.mpr ⟨so_iconst dX7_settles_0 (by decide) rfl, ?_⟩
  refine List.forall_mem_cons.mpr ⟨so_istore_n dX7_settles_1 rfl rfl, ?_⟩
  refine List.forall_mem_cons.mpr ⟨so_iload_n dX7_settles_2 rfl rfl, ?_⟩
  refine List.forall_mem_cons.mpr ⟨so_iconst dX7_settles_3 (by decide) rfl, ?_⟩
  refine List.forall_mem_cons.mpr ⟨so_icmp_ge dX7_settles_4 (by decide) rfl, ?_⟩
  refine List.forall_mem_cons.mpr ⟨so_aload_n dX7_settles_7 rfl rfl, ?_⟩
  refine List.forall_mem_cons.mpr ⟨so_gR (C := RX7) (T := TX7) (N := 29) dX7_settles_8 (by decide) rfl rfl (by decide) rfl in_X7 wf_X7_13 rfl, ?_⟩
  refine List.forall_mem_cons.mpr ⟨so_iload_n dX7_settles_11 rfl rfl, ?_⟩
  refine List.forall_mem_cons.mpr ⟨so_aload_n dX7_settles_12 rfl rfl, ?_⟩
  refine List.forall_mem_cons.mpr ⟨so_gR (C := RX7) (T := TX7) (N := 29) dX7_settles_13 (by decide) rfl rfl (by decide) rfl in_X7 wf_X7_13 rfl, ?_⟩
  refine List.forall_mem_cons.mpr ⟨so_iconst dX7_settles_16 (by decide) rfl, ?_⟩
  refine List.forall_mem_cons.mpr ⟨so_iload_n dX7_settles_17 rfl rfl, ?_⟩
  refine List.forall_mem_cons.mpr ⟨so_iadd dX7_settles_18 rfl, ?_⟩
  refine List.forall_mem_cons.mpr ⟨so_iaload dX7_settles_19 rfl, ?_⟩
  refine List.forall_mem_cons.mpr ⟨so_iastore dX7_settles_20 rfl, ?_⟩
  refine List.forall_mem_cons.mpr ⟨so_iinc dX7_settles_21 (by decide) rfl, ?_⟩
  refine List.forall_mem_cons.mpr ⟨so_goto dX7_settles_24 (by decide), ?_⟩
  refine List.forall_mem_cons.mpr ⟨so_iconst dX7_settles_27 (by decide) rfl, ?_⟩
  refine List.forall_mem_cons.mpr ⟨so_istore_n dX7_settles_28 rfl rfl, ?_⟩
  refine List.forall_mem_cons.mpr ⟨so_iload_n dX7_settles_29 rfl rfl, ?_⟩
  refine List.forall_mem_cons.mpr ⟨so_bipush dX7_settles_30 (by decide) rfl, ?_⟩
  refine List.forall_mem_cons.mpr ⟨so_icmp_ge dX7_settles_32 (by decide) rfl, ?_⟩
  refine List.forall_mem_cons.mpr ⟨so_aload_n dX7_settles_35 rfl rfl, ?_⟩
  refine List.forall_mem_cons.mpr ⟨so_gR (C := RX7) (T := TX7) (N := 29) dX7_settles_36 (by decide) rfl rfl (by decide) rfl in_X7 wf_X7_31 rfl, ?_⟩
  refine List.forall_mem_cons.mpr ⟨so_iload_n dX7_settles_39 rfl rfl, ?_⟩
  refine List.forall_mem_cons.mpr ⟨so_iconst dX7_settles_40 (by decide) rfl, ?_⟩
  refine List.forall_mem_cons.mpr ⟨so_iastore dX7_settles_41 rfl, ?_⟩
  refine List.forall_mem_cons.mpr ⟨so_iinc dX7_settles_42 (by decide) rfl, ?_⟩
  refine List.forall_mem_cons.mpr ⟨so_goto dX7_settles_45 (by decide), ?_⟩
  refine List.forall_mem_cons.mpr ⟨so_iconst dX7_settles_48 (by decide) rfl, ?_⟩
  refine List.forall_mem_cons.mpr ⟨so_istore_n dX7_settles_49 rfl rfl, ?_⟩
  refine List.forall_mem_cons.mpr ⟨so_iload_n dX7_settles_50 rfl rfl, ?_⟩
  refine List.forall_mem_cons.mpr ⟨so_bipush dX7_settles_51 (by decide) rfl, ?_⟩
  refine List.forall_mem_cons.mpr ⟨so_icmp_ge dX7_settles_53 (by decide) rfl, ?_⟩
  refine List.forall_mem_cons.mpr ⟨so_aload_n dX7_settles_56 rfl rfl, ?_⟩
  refine List.forall_mem_cons.mpr ⟨so_gR (C := RX7) (T := TX7) (N := 29) dX7_settles_57 (by decide) rfl rfl (by decide) rfl in_X7 wf_X7_16 rfl, ?_⟩
  refine List.forall_mem_cons.mpr ⟨so_iload_n dX7_settles_60 rfl rfl, ?_⟩
  refine List.forall_mem_cons.mpr ⟨so_aload_n dX7_settles_61 rfl rfl, ?_⟩
  refine List.forall_mem_cons.mpr ⟨so_gR (C := RX7) (T := TX7) (N := 29) dX7_settles_62 (by decide) rfl rfl (by decide) rfl in_X7 wf_X7_16 rfl, ?_⟩
  refine List.forall_mem_cons.mpr ⟨so_bipush dX7_settles_65 (by decide) rfl, ?_⟩
  refine List.forall_mem_cons.mpr ⟨so_iload_n dX7_settles_67 rfl rfl, ?_⟩
  refine List.forall_mem_cons.mpr ⟨so_iadd dX7_settles_68 rfl, ?_⟩
  refine List.forall_mem_cons.mpr ⟨so_iaload dX7_settles_69 rfl, ?_⟩
  refine List.forall_mem_cons.mpr ⟨so_iastore dX7_settles_70 rfl, ?_⟩
  refine List.forall_mem_cons.mpr ⟨so_aload_n dX7_settles_71 rfl rfl, ?_⟩
  refine List.forall_mem_cons.mpr ⟨so_gR (C := RX7) (T := TX7) (N := 29) dX7_settles_72 (by decide) rfl rfl (by decide) rfl in_X7 wf_X7_19 rfl, ?_⟩
  refine List.forall_mem_cons.mpr ⟨so_iload_n dX7_settles_75 rfl rfl, ?_⟩
  refine List.forall_mem_cons.mpr ⟨so_aload_n dX7_settles_76 rfl rfl, ?_⟩
  refine List.forall_mem_cons.mpr ⟨so_gR (C := RX7) (T := TX7) (N := 29) dX7_settles_77 (by decide) rfl rfl (by decide) rfl in_X7 wf_X7_19 rfl, ?_⟩
  refine List.forall_mem_cons.mpr ⟨so_bipush dX7_settles_80 (by decide) rfl, ?_⟩
  refine List.forall_mem_cons.mpr ⟨so_iload_n dX7_settles_82 rfl rfl, ?_⟩
  refine List.forall_mem_cons.mpr ⟨so_iadd dX7_settles_83 rfl, ?_⟩
  refine List.forall_mem_cons.mpr ⟨so_iaload dX7_settles_84 rfl, ?_⟩
  refine List.forall_mem_cons.mpr ⟨so_iastore dX7_settles_85 rfl, ?_⟩
  refine List.forall_mem_cons.mpr ⟨so_aload_n dX7_settles_86 rfl rfl, ?_⟩
  refine List.forall_mem_cons.mpr ⟨so_gR (C := RX7) (T := TX7) (N := 29) dX7_settles_87 (by decide) rfl rfl (by decide) rfl in_X7 wf_X7_22 rfl, ?_⟩
  refine List.forall_mem_cons.mpr ⟨so_iload_n dX7_settles_90 rfl rfl, ?_⟩
  refine List.forall_mem_cons.mpr ⟨so_aload_n dX7_settles_91 rfl rfl, ?_⟩
  refine List.forall_mem_cons.mpr ⟨so_gR (C := RX7) (T := TX7) (N := 29) dX7_settles_92 (by decide) rfl rfl (by decide) rfl in_X7 wf_X7_22 rfl, ?_⟩
  refine List.forall_mem_cons.mpr ⟨so_bipush dX7_settles_95 (by decide) rfl, ?_⟩
  refine List.forall_mem_cons.mpr ⟨so_iload_n dX7_settles_97 rfl rfl, ?_⟩
  refine List.forall_mem_cons.mpr ⟨so_iadd dX7_settles_98 rfl, ?_⟩
  refine List.forall_mem_cons.mpr ⟨so_iaload dX7_settles_99 rfl, ?_⟩
  refine List.forall_mem_cons.mpr ⟨so_iastore dX7_settles_100 rfl, ?_⟩
  refine List.forall_mem_cons.mpr ⟨so_aload_n dX7_settles_101 rfl rfl, ?_⟩
  refine List.forall_mem_cons.mpr ⟨so_gR (C := RX7) (T := TX7) (N := 29) dX7_settles_102 (by decide) rfl rfl (by decide) rfl in_X7 wf_X7_25 rfl, ?_⟩
  refine List.forall_mem_cons.mpr ⟨so_iload_n dX7_settles_105 rfl rfl, ?_⟩
  refine List.forall_mem_cons.mpr ⟨so_aload_n dX7_settles_106 rfl rfl, ?_⟩
  refine List.forall_mem_cons.mpr ⟨so_gR (C := RX7) (T := TX7) (N := 29) dX7_settles_107 (by decide) rfl rfl (by decide) rfl in_X7 wf_X7_25 rfl, ?_⟩
  refine List.forall_mem_cons.mpr ⟨so_bipush dX7_settles_110 (by decide) rfl, ?_⟩
  refine List.forall_mem_cons.mpr ⟨so_iload_n dX7_settles_112 rfl rfl, ?_⟩
  refine List.forall_mem_cons.mpr ⟨so_iadd dX7_settles_113 rfl, ?_⟩
  refine List.forall_mem_cons.mpr ⟨so_iaload dX7_settles_114 rfl, ?_⟩
  refine List.forall_mem_cons.mpr ⟨so_iastore dX7_settles_115 rfl, ?_⟩
  refine List.forall_mem_cons.mpr ⟨so_iinc dX7_settles_116 (by decide) rfl, ?_⟩
  refine List.forall_mem_cons.mpr ⟨so_goto dX7_settles_119 (by decide), ?_⟩
  refine List.forall_mem_cons.mpr ⟨so_iconst dX7_settles_122 (by decide) rfl, ?_⟩
  refine List.forall_mem_cons.mpr ⟨so_istore_n dX7_settles_123 rfl rfl, ?_⟩
  refine List.forall_mem_cons.mpr ⟨so_iload_n dX7_settles_124 rfl rfl, ?_⟩
  refine List.forall_mem_cons.mpr ⟨so_aload_n dX7_settles_125 rfl rfl, ?_⟩
  refine List.forall_mem_cons.mpr ⟨so_gR (C := RX7) (T := TX7) (N := 29) dX7_settles_126 (by decide) rfl rfl (by decide) rfl in_X7 wf_X7_13 rfl, ?_⟩
  refine List.forall_mem_cons.mpr ⟨so_iconst dX7_settles_129 (by decide) rfl, ?_⟩
  refine List.forall_mem_cons.mpr ⟨so_iaload dX7_settles_130 rfl, ?_⟩
  refine List.forall_mem_cons.mpr ⟨so_icmp_ge dX7_settles_131 (by decide) rfl, ?_⟩
  refine List.forall_mem_cons.mpr ⟨so_aload_n dX7_settles_134 rfl rfl, ?_⟩
  refine List.forall_mem_cons.mpr ⟨so_gR (C := RX7) (T := TX7) (N := 29) dX7_settles_135 (by decide) rfl rfl (by decide) rfl in_X7 wf_X7_31 rfl, ?_⟩
  refine List.forall_mem_cons.mpr ⟨so_iconst dX7_settles_138 (by decide) rfl, ?_⟩
  refine List.forall_mem_cons.mpr ⟨so_iload_n dX7_settles_139 rfl rfl, ?_⟩
  refine List.forall_mem_cons.mpr ⟨so_iadd dX7_settles_140 rfl, ?_⟩
  refine List.forall_mem_cons.mpr ⟨so_aload_n dX7_settles_141 rfl rfl, ?_⟩
  refine List.forall_mem_cons.mpr ⟨so_gR (C := RX7) (T := TX7) (N := 29) dX7_settles_142 (by decide) rfl rfl (by decide) rfl in_X7 wf_X7_28 rfl, ?_⟩
  refine List.forall_mem_cons.mpr ⟨so_iload_n dX7_settles_145 rfl rfl, ?_⟩
  refine List.forall_mem_cons.mpr ⟨so_iaload dX7_settles_146 rfl, ?_⟩
  refine List.forall_mem_cons.mpr ⟨so_iastore dX7_settles_147 rfl, ?_⟩
  refine List.forall_mem_cons.mpr ⟨so_iinc dX7_settles_148 (by decide) rfl, ?_⟩
  refine List.forall_mem_cons.mpr ⟨so_goto dX7_settles_151 (by decide), ?_⟩
  refine List.forall_mem_cons.mpr ⟨so_aload_n dX7_settles_154 rfl rfl, ?_⟩
  refine List.forall_mem_cons.mpr ⟨so_iconst dX7_settles_155 (by decide) rfl, ?_⟩
  refine List.forall_mem_cons.mpr ⟨so_pI (C := RX7) (T := TX7) (N := 29) dX7_settles_156 (by decide) rfl rfl (by decide) rfl in_X7 wf_X7_70 tyX7 tyX7_ok nmX7 rfl (by decide +kernel) rfl, ?_⟩
  refine List.forall_mem_cons.mpr ⟨so_aload_n dX7_settles_159 rfl rfl, ?_⟩
  refine List.forall_mem_cons.mpr ⟨so_iconst dX7_settles_160 (by decide) rfl, ?_⟩
  refine List.forall_mem_cons.mpr ⟨so_pI (C := RX7) (T := TX7) (N := 29) dX7_settles_161 (by decide) rfl rfl (by decide) rfl in_X7 wf_X7_118 tyX7 tyX7_ok nmX7 rfl (by decide +kernel) rfl, ?_⟩
  refine List.forall_mem_cons.mpr ⟨so_aload_n dX7_settles_164 rfl rfl, ?_⟩
  refine List.forall_mem_cons.mpr ⟨so_iconst dX7_settles_165 (by decide) rfl, ?_⟩
  refine List.forall_mem_cons.mpr ⟨so_pI (C := RX7) (T := TX7) (N := 29) dX7_settles_166 (by decide) rfl rfl (by decide) rfl in_X7 wf_X7_121 tyX7 tyX7_ok nmX7 rfl (by decide +kernel) rfl, ?_⟩
  refine List.forall_mem_cons.mpr ⟨so_aload_n dX7_settles_169 rfl rfl, ?_⟩
  refine List.forall_mem_cons.mpr ⟨so_iconst dX7_settles_170 (by decide) rfl, ?_⟩
  refine List.forall_mem_cons.mpr ⟨so_pI (C := RX7) (T := TX7) (N := 29) dX7_settles_171 (by decide) rfl rfl (by decide) rfl in_X7 wf_X7_124 tyX7 tyX7_ok nmX7 rfl (by decide +kernel) rfl, ?_⟩
  refine List.forall_mem_cons.mpr ⟨so_aload_n dX7_settles_174 rfl rfl, ?_⟩
  refine List.forall_mem_cons.mpr ⟨so_gR (C := RX7) (T := TX7) (N := 29) dX7_settles_175 (by decide) rfl rfl (by decide) rfl in_X7 wf_X7_37 rfl, ?_⟩
  refine List.forall_mem_cons.mpr ⟨so_iconst dX7_settles_178 (by decide) rfl, ?_⟩
  refine List.forall_mem_cons.mpr ⟨so_iconst dX7_settles_179 (by decide) rfl, ?_⟩
  refine List.forall_mem_cons.mpr ⟨so_bastore dX7_settles_180 rfl, ?_⟩
  refine List.forall_mem_cons.mpr ⟨so_aload_n dX7_settles_181 rfl rfl, ?_⟩
  refine List.forall_mem_cons.mpr ⟨so_gR (C := RX7) (T := TX7) (N := 29) dX7_settles_182 (by decide) rfl rfl (by decide) rfl in_X7 wf_X7_37 rfl, ?_⟩
  refine List.forall_mem_cons.mpr ⟨so_iconst dX7_settles_185 (by decide) rfl, ?_⟩
  refine List.forall_mem_cons.mpr ⟨so_iconst dX7_settles_186 (by decide) rfl, ?_⟩
  refine List.forall_mem_cons.mpr ⟨so_bastore dX7_settles_187 rfl, ?_⟩
  refine List.forall_mem_cons.mpr ⟨so_rV dX7_settles_188 rfl, ?_⟩
  exact fun _ h => absurd h List.not_mem_nil
theorem dX7_init_0 : decode cX7_init 0 = .ok (.aload_n 0, 1) := by decide +kernel
theorem dX7_init_1 : decode cX7_init 1 = .ok (.invokespecial 1, 3) := by decide +kernel
theorem dX7_init_4 : decode cX7_init 4 = .ok (.aload_n 0, 1) := by decide +kernel
theorem dX7_init_5 : decode cX7_init 5 = .ok (.sipush 150, 3) := by decide +kernel
theorem dX7_init_8 : decode cX7_init 8 = .ok (.newarray .int, 2) := by decide +kernel
theorem dX7_init_10 : decode cX7_init 10 = .ok (.putfield 7, 3) := by decide +kernel
theorem dX7_init_13 : decode cX7_init 13 = .ok (.aload_n 0, 1) := by decide +kernel
theorem dX7_init_14 : decode cX7_init 14 = .ok (.bipush 10, 2) := by decide +kernel
theorem dX7_init_16 : decode cX7_init 16 = .ok (.newarray .int, 2) := by decide +kernel
theorem dX7_init_18 : decode cX7_init 18 = .ok (.putfield 13, 3) := by decide +kernel
theorem dX7_init_21 : decode cX7_init 21 = .ok (.aload_n 0, 1) := by decide +kernel
theorem dX7_init_22 : decode cX7_init 22 = .ok (.bipush 16, 2) := by decide +kernel
theorem dX7_init_24 : decode cX7_init 24 = .ok (.newarray .int, 2) := by decide +kernel
theorem dX7_init_26 : decode cX7_init 26 = .ok (.putfield 16, 3) := by decide +kernel
theorem dX7_init_29 : decode cX7_init 29 = .ok (.aload_n 0, 1) := by decide +kernel
theorem dX7_init_30 : decode cX7_init 30 = .ok (.bipush 16, 2) := by decide +kernel
theorem dX7_init_32 : decode cX7_init 32 = .ok (.newarray .int, 2) := by decide +kernel
theorem dX7_init_34 : decode cX7_init 34 = .ok (.putfield 19, 3) := by decide +kernel
theorem dX7_init_37 : decode cX7_init 37 = .ok (.aload_n 0, 1) := by decide +kernel
theorem dX7_init_38 : decode cX7_init 38 = .ok (.bipush 16, 2) := by decide +kernel
theorem dX7_init_40 : decode cX7_init 40 = .ok (.newarray .int, 2) := by decide +kernel
theorem dX7_init_42 : decode cX7_init 42 = .ok (.putfield 22, 3) := by decide +kernel
theorem dX7_init_45 : decode cX7_init 45 = .ok (.aload_n 0, 1) := by decide +kernel
theorem dX7_init_46 : decode cX7_init 46 = .ok (.bipush 16, 2) := by decide +kernel
theorem dX7_init_48 : decode cX7_init 48 = .ok (.newarray .int, 2) := by decide +kernel
theorem dX7_init_50 : decode cX7_init 50 = .ok (.putfield 25, 3) := by decide +kernel
theorem dX7_init_53 : decode cX7_init 53 = .ok (.aload_n 0, 1) := by decide +kernel
theorem dX7_init_54 : decode cX7_init 54 = .ok (.iconst 5, 1) := by decide +kernel
theorem dX7_init_55 : decode cX7_init 55 = .ok (.newarray .int, 2) := by decide +kernel
theorem dX7_init_57 : decode cX7_init 57 = .ok (.putfield 28, 3) := by decide +kernel
theorem dX7_init_60 : decode cX7_init 60 = .ok (.aload_n 0, 1) := by decide +kernel
theorem dX7_init_61 : decode cX7_init 61 = .ok (.bipush 13, 2) := by decide +kernel
theorem dX7_init_63 : decode cX7_init 63 = .ok (.newarray .int, 2) := by decide +kernel
theorem dX7_init_65 : decode cX7_init 65 = .ok (.putfield 31, 3) := by decide +kernel
theorem dX7_init_68 : decode cX7_init 68 = .ok (.aload_n 0, 1) := by decide +kernel
theorem dX7_init_69 : decode cX7_init 69 = .ok (.bipush 26, 2) := by decide +kernel
theorem dX7_init_71 : decode cX7_init 71 = .ok (.newarray .int, 2) := by decide +kernel
theorem dX7_init_73 : decode cX7_init 73 = .ok (.putfield 34, 3) := by decide +kernel
theorem dX7_init_76 : decode cX7_init 76 = .ok (.aload_n 0, 1) := by decide +kernel
theorem dX7_init_77 : decode cX7_init 77 = .ok (.iconst 2, 1) := by decide +kernel
theorem dX7_init_78 : decode cX7_init 78 = .ok (.newarray .boolean, 2) := by decide +kernel
theorem dX7_init_80 : decode cX7_init 80 = .ok (.putfield 37, 3) := by decide +kernel
theorem dX7_init_83 : decode cX7_init 83 = .ok (.aload_n 0, 1) := by decide +kernel
theorem dX7_init_84 : decode cX7_init 84 = .ok (.sipush 130, 3) := by decide +kernel
theorem dX7_init_87 : decode cX7_init 87 = .ok (.newarray .int, 2) := by decide +kernel
theorem dX7_init_89 : decode cX7_init 89 = .ok (.putfield 41, 3) := by decide +kernel
theorem dX7_init_92 : decode cX7_init 92 = .ok (.aload_n 0, 1) := by decide +kernel
theorem dX7_init_93 : decode cX7_init 93 = .ok (.bipush 6, 2) := by decide +kernel
theorem dX7_init_95 : decode cX7_init 95 = .ok (.newarray .int, 2) := by decide +kernel
theorem dX7_init_97 : decode cX7_init 97 = .ok (.putfield 44, 3) := by decide +kernel
theorem dX7_init_100 : decode cX7_init 100 = .ok (.aload_n 0, 1) := by decide +kernel
theorem dX7_init_101 : decode cX7_init 101 = .ok (.bipush 6, 2) := by decide +kernel
theorem dX7_init_103 : decode cX7_init 103 = .ok (.newarray .int, 2) := by decide +kernel
theorem dX7_init_105 : decode cX7_init 105 = .ok (.putfield 47, 3) := by decide +kernel
theorem dX7_init_108 : decode cX7_init 108 = .ok (.aload_n 0, 1) := by decide +kernel
theorem dX7_init_109 : decode cX7_init 109 = .ok (.bipush 6, 2) := by decide +kernel
theorem dX7_init_111 : decode cX7_init 111 = .ok (.newarray .int, 2) := by decide +kernel
theorem dX7_init_113 : decode cX7_init 113 = .ok (.putfield 50, 3) := by decide +kernel
theorem dX7_init_116 : decode cX7_init 116 = .ok (.aload_n 0, 1) := by decide +kernel
theorem dX7_init_117 : decode cX7_init 117 = .ok (.bipush 6, 2) := by decide +kernel
theorem dX7_init_119 : decode cX7_init 119 = .ok (.newarray .int, 2) := by decide +kernel
theorem dX7_init_121 : decode cX7_init 121 = .ok (.putfield 53, 3) := by decide +kernel
theorem dX7_init_124 : decode cX7_init 124 = .ok (.aload_n 0, 1) := by decide +kernel
theorem dX7_init_125 : decode cX7_init 125 = .ok (.invokevirtual 56, 3) := by decide +kernel
theorem dX7_init_128 : decode cX7_init 128 = .ok (.aload_n 0, 1) := by decide +kernel
theorem dX7_init_129 : decode cX7_init 129 = .ok (.invokevirtual 59, 3) := by decide +kernel
theorem dX7_init_132 : decode cX7_init 132 = .ok (.return_, 1) := by decide +kernel
def T_X7_init : tk_Tb := [(0, tk_al 0 1), (1, tk_oi 4), (4, tk_al 0 5), (5, tk_ic (150) 8), (8, tk_nwa 9 10 15 424), (10, tk_pR 7 2 13), (13, tk_al 0 14), (14, tk_ic (10) 16), (16, tk_nwa 9 18 15 424), (18, tk_pR 7 9 21), (21, tk_al 0 22), (22, tk_ic (16) 24), (24, tk_nwa 9 26 15 424), (26, tk_pR 7 11 29), (29, tk_al 0 30), (30, tk_ic (16) 32), (32, tk_nwa 9 34 15 424), (34, tk_pR 7 12 37), (37, tk_al 0 38), (38, tk_ic (16) 40), (40, tk_nwa 9 42 15 424), (42, tk_pR 7 13 45), (45, tk_al 0 46), (46, tk_ic (16) 48), (48, tk_nwa 9 50 15 424), (50, tk_pR 7 14 53), (53, tk_al 0 54), (54, tk_ic (5) 55), (55, tk_nwa 9 57 15 424), (57, tk_pR 7 15 60), (60, tk_al 0 61), (61, tk_ic (13) 63), (63, tk_nwa 9 65 15 424), (65, tk_pR 7 16 68), (68, tk_al 0 69), (69, tk_ic (26) 71), (71, tk_nwa 9 73 15 424), (73, tk_pR 7 17 76), (76, tk_al 0 77), (77, tk_ic (2) 78), (78, tk_nwa 10 80 15 424), (80, tk_pR 7 18 83), (83, tk_al 0 84), (84, tk_ic (130) 87), (87, tk_nwa 9 89 15 424), (89, tk_pR 7 19 92), (92, tk_al 0 93), (93, tk_ic (6) 95), (95, tk_nwa 9 97 15 424), (97, tk_pR 7 21 100), (100, tk_al 0 101), (101, tk_ic (6) 103), (103, tk_nwa 9 105 15 424), (105, tk_pR 7 22 108), (108, tk_al 0 109), (109, tk_ic (6) 111), (111, tk_nwa 9 113 15 424), (113, tk_pR 7 24 116), (116, tk_al 0 117), (117, tk_ic (6) 119), (119, tk_nwa 9 121 15 424), (121, tk_pR 7 25 124), (124, tk_al 0 125), (125, tk_cv 7 M_X7_begins 0 128), (128, tk_al 0 129), (129, tk_cv 7 M_X7_settles 0 132), (132, tk_rV)]
set_option maxRecDepth 100000 in
theorem hT_X7_init (sc : Option (Nat × (Nat → Int32))) : ∀ x ∈ T_X7_init, tk_So sc M_X7_init x.1 x.2 := by
  unfold T_X7_init
  refine List.forall_mem_cons.mpr ⟨so_aload_n dX7_init_0 rfl rfl, ?_⟩
  refine List.forall_mem_cons.mpr ⟨so_oi dX7_init_1 wm_X7_1 wo_1 wo_2 (by decide) rfl, ?_⟩
  refine List.forall_mem_cons.mpr ⟨so_aload_n dX7_init_4 rfl rfl, ?_⟩
  refine List.forall_mem_cons.mpr ⟨so_sipush dX7_init_5 (by decide) rfl, ?_⟩
  refine List.forall_mem_cons.mpr ⟨so_nwI dX7_init_8 rfl wa_int rfl rfl rfl, ?_⟩
  refine List.forall_mem_cons.mpr ⟨so_pRF (ty := .array .int) (C := RX7) (T := TX7) (N := 29) dX7_init_10 (by decide) rfl rfl (by decide) rfl in_X7 wf_X7_7 tyX7 tyX7_ok nmX7 rfl rfl rfl (by decide +kernel) (fun _ => rfl) (fun _ => rfl) rfl, ?_⟩
  refine List.forall_mem_cons.mpr ⟨so_aload_n dX7_init_13 rfl rfl, ?_⟩
  refine List.forall_mem_cons.mpr ⟨so_bipush dX7_init_14 (by decide) rfl, ?_⟩
  refine List.forall_mem_cons.mpr ⟨so_nwI dX7_init_16 rfl wa_int rfl rfl rfl, ?_⟩
  refine List.forall_mem_cons.mpr ⟨so_pRF (ty := .array .int) (C := RX7) (T := TX7) (N := 29) dX7_init_18 (by decide) rfl rfl (by decide) rfl in_X7 wf_X7_13 tyX7 tyX7_ok nmX7 rfl rfl rfl (by decide +kernel) (fun _ => rfl) (fun _ => rfl) rfl, ?_⟩
  refine List.forall_mem_cons.mpr ⟨so_aload_n dX7_init_21 rfl rfl, ?_⟩
  refine List.forall_mem_cons.mpr ⟨so_bipush dX7_init_22 (by decide) rfl, ?_⟩
  refine List.forall_mem_cons.mpr ⟨so_nwI dX7_init_24 rfl wa_int rfl rfl rfl, ?_⟩
  refine List.forall_mem_cons.mpr ⟨so_pRF (ty := .array .int) (C := RX7) (T := TX7) (N := 29) dX7_init_26 (by decide) rfl rfl (by decide) rfl in_X7 wf_X7_16 tyX7 tyX7_ok nmX7 rfl rfl rfl (by decide +kernel) (fun _ => rfl) (fun _ => rfl) rfl, ?_⟩
  refine List.forall_mem_cons.mpr ⟨so_aload_n dX7_init_29 rfl rfl, ?_⟩
  refine List.forall_mem_cons.mpr ⟨so_bipush dX7_init_30 (by decide) rfl, ?_⟩
  refine List.forall_mem_cons.mpr ⟨so_nwI dX7_init_32 rfl wa_int rfl rfl rfl, ?_⟩
  refine List.forall_mem_cons.mpr ⟨so_pRF (ty := .array .int) (C := RX7) (T := TX7) (N := 29) dX7_init_34 (by decide) rfl rfl (by decide) rfl in_X7 wf_X7_19 tyX7 tyX7_ok nmX7 rfl rfl rfl (by decide +kernel) (fun _ => rfl) (fun _ => rfl) rfl, ?_⟩
  refine List.forall_mem_cons.mpr ⟨so_aload_n dX7_init_37 rfl rfl, ?_⟩
  refine List.forall_mem_cons.mpr ⟨so_bipush dX7_init_38 (by decide) rfl, ?_⟩
  refine List.forall_mem_cons.mpr ⟨so_nwI dX7_init_40 rfl wa_int rfl rfl rfl, ?_⟩
  refine List.forall_mem_cons.mpr ⟨so_pRF (ty := .array .int) (C := RX7) (T := TX7) (N := 29) dX7_init_42 (by decide) rfl rfl (by decide) rfl in_X7 wf_X7_22 tyX7 tyX7_ok nmX7 rfl rfl rfl (by decide +kernel) (fun _ => rfl) (fun _ => rfl) rfl, ?_⟩
  refine List.forall_mem_cons.mpr ⟨so_aload_n dX7_init_45 rfl rfl, ?_⟩
  refine List.forall_mem_cons.mpr ⟨so_bipush dX7_init_46 (by decide) rfl, ?_⟩
  refine List.forall_mem_cons.mpr ⟨so_nwI dX7_init_48 rfl wa_int rfl rfl rfl, ?_⟩
  refine List.forall_mem_cons.mpr ⟨so_pRF (ty := .array .int) (C := RX7) (T := TX7) (N := 29) dX7_init_50 (by decide) rfl rfl (by decide) rfl in_X7 wf_X7_25 tyX7 tyX7_ok nmX7 rfl rfl rfl (by decide +kernel) (fun _ => rfl) (fun _ => rfl) rfl, ?_⟩
  refine List.forall_mem_cons.mpr ⟨so_aload_n dX7_init_53 rfl rfl, ?_⟩
  refine List.forall_mem_cons.mpr ⟨so_iconst dX7_init_54 (by decide) rfl, ?_⟩
  refine List.forall_mem_cons.mpr ⟨so_nwI dX7_init_55 rfl wa_int rfl rfl rfl, ?_⟩
  refine List.forall_mem_cons.mpr ⟨so_pRF (ty := .array .int) (C := RX7) (T := TX7) (N := 29) dX7_init_57 (by decide) rfl rfl (by decide) rfl in_X7 wf_X7_28 tyX7 tyX7_ok nmX7 rfl rfl rfl (by decide +kernel) (fun _ => rfl) (fun _ => rfl) rfl, ?_⟩
  refine List.forall_mem_cons.mpr ⟨so_aload_n dX7_init_60 rfl rfl, ?_⟩
  refine List.forall_mem_cons.mpr ⟨so_bipush dX7_init_61 (by decide) rfl, ?_⟩
  refine List.forall_mem_cons.mpr ⟨so_nwI dX7_init_63 rfl wa_int rfl rfl rfl, ?_⟩
  refine List.forall_mem_cons.mpr ⟨so_pRF (ty := .array .int) (C := RX7) (T := TX7) (N := 29) dX7_init_65 (by decide) rfl rfl (by decide) rfl in_X7 wf_X7_31 tyX7 tyX7_ok nmX7 rfl rfl rfl (by decide +kernel) (fun _ => rfl) (fun _ => rfl) rfl, ?_⟩
  refine List.forall_mem_cons.mpr ⟨so_aload_n dX7_init_68 rfl rfl, ?_⟩
  refine List.forall_mem_cons.mpr ⟨so_bipush dX7_init_69 (by decide) rfl, ?_⟩
  refine List.forall_mem_cons.mpr ⟨so_nwI dX7_init_71 rfl wa_int rfl rfl rfl, ?_⟩
  refine List.forall_mem_cons.mpr ⟨so_pRF (ty := .array .int) (C := RX7) (T := TX7) (N := 29) dX7_init_73 (by decide) rfl rfl (by decide) rfl in_X7 wf_X7_34 tyX7 tyX7_ok nmX7 rfl rfl rfl (by decide +kernel) (fun _ => rfl) (fun _ => rfl) rfl, ?_⟩
  refine List.forall_mem_cons.mpr ⟨so_aload_n dX7_init_76 rfl rfl, ?_⟩
  refine List.forall_mem_cons.mpr ⟨so_iconst dX7_init_77 (by decide) rfl, ?_⟩
  refine List.forall_mem_cons.mpr ⟨so_nwZ dX7_init_78 rfl wa_boolean rfl rfl rfl, ?_⟩
  refine List.forall_mem_cons.mpr ⟨so_pRF (ty := .array .boolean) (C := RX7) (T := TX7) (N := 29) dX7_init_80 (by decide) rfl rfl (by decide) rfl in_X7 wf_X7_37 tyX7 tyX7_ok nmX7 rfl rfl rfl (by decide +kernel) (fun _ => rfl) (fun _ => rfl) rfl, ?_⟩
  refine List.forall_mem_cons.mpr ⟨so_aload_n dX7_init_83 rfl rfl, ?_⟩
  refine List.forall_mem_cons.mpr ⟨so_sipush dX7_init_84 (by decide) rfl, ?_⟩
  refine List.forall_mem_cons.mpr ⟨so_nwI dX7_init_87 rfl wa_int rfl rfl rfl, ?_⟩
  refine List.forall_mem_cons.mpr ⟨so_pRF (ty := .array .int) (C := RX7) (T := TX7) (N := 29) dX7_init_89 (by decide) rfl rfl (by decide) rfl in_X7 wf_X7_41 tyX7 tyX7_ok nmX7 rfl rfl rfl (by decide +kernel) (fun _ => rfl) (fun _ => rfl) rfl, ?_⟩
  refine List.forall_mem_cons.mpr ⟨so_aload_n dX7_init_92 rfl rfl, ?_⟩
  refine List.forall_mem_cons.mpr ⟨so_bipush dX7_init_93 (by decide) rfl, ?_⟩
  refine List.forall_mem_cons.mpr ⟨so_nwI dX7_init_95 rfl wa_int rfl rfl rfl, ?_⟩
  refine List.forall_mem_cons.mpr ⟨so_pRF (ty := .array .int) (C := RX7) (T := TX7) (N := 29) dX7_init_97 (by decide) rfl rfl (by decide) rfl in_X7 wf_X7_44 tyX7 tyX7_ok nmX7 rfl rfl rfl (by decide +kernel) (fun _ => rfl) (fun _ => rfl) rfl, ?_⟩
  refine List.forall_mem_cons.mpr ⟨so_aload_n dX7_init_100 rfl rfl, ?_⟩
  refine List.forall_mem_cons.mpr ⟨so_bipush dX7_init_101 (by decide) rfl, ?_⟩
  refine List.forall_mem_cons.mpr ⟨so_nwI dX7_init_103 rfl wa_int rfl rfl rfl, ?_⟩
  refine List.forall_mem_cons.mpr ⟨so_pRF (ty := .array .int) (C := RX7) (T := TX7) (N := 29) dX7_init_105 (by decide) rfl rfl (by decide) rfl in_X7 wf_X7_47 tyX7 tyX7_ok nmX7 rfl rfl rfl (by decide +kernel) (fun _ => rfl) (fun _ => rfl) rfl, ?_⟩
  refine List.forall_mem_cons.mpr ⟨so_aload_n dX7_init_108 rfl rfl, ?_⟩
  refine List.forall_mem_cons.mpr ⟨so_bipush dX7_init_109 (by decide) rfl, ?_⟩
  refine List.forall_mem_cons.mpr ⟨so_nwI dX7_init_111 rfl wa_int rfl rfl rfl, ?_⟩
  refine List.forall_mem_cons.mpr ⟨so_pRF (ty := .array .int) (C := RX7) (T := TX7) (N := 29) dX7_init_113 (by decide) rfl rfl (by decide) rfl in_X7 wf_X7_50 tyX7 tyX7_ok nmX7 rfl rfl rfl (by decide +kernel) (fun _ => rfl) (fun _ => rfl) rfl, ?_⟩
  refine List.forall_mem_cons.mpr ⟨so_aload_n dX7_init_116 rfl rfl, ?_⟩
  refine List.forall_mem_cons.mpr ⟨so_bipush dX7_init_117 (by decide) rfl, ?_⟩
  refine List.forall_mem_cons.mpr ⟨so_nwI dX7_init_119 rfl wa_int rfl rfl rfl, ?_⟩
  refine List.forall_mem_cons.mpr ⟨so_pRF (ty := .array .int) (C := RX7) (T := TX7) (N := 29) dX7_init_121 (by decide) rfl rfl (by decide) rfl in_X7 wf_X7_53 tyX7 tyX7_ok nmX7 rfl rfl rfl (by decide +kernel) (fun _ => rfl) (fun _ => rfl) rfl, ?_⟩
  refine List.forall_mem_cons.mpr ⟨so_aload_n dX7_init_124 rfl rfl, ?_⟩
  refine List.forall_mem_cons.mpr ⟨so_cv (T := TX7) (N := 29) dX7_init_125 mv_X7_begins wm_X7_56 (by decide) rfl ⟨rfl, rfl⟩ (by decide) rfl, ?_⟩
  refine List.forall_mem_cons.mpr ⟨so_aload_n dX7_init_128 rfl rfl, ?_⟩
  refine List.forall_mem_cons.mpr ⟨so_cv (T := TX7) (N := 29) dX7_init_129 mv_X7_settles wm_X7_59 (by decide) rfl ⟨rfl, rfl⟩ (by decide) rfl, ?_⟩
  refine List.forall_mem_cons.mpr ⟨so_rV dX7_init_132 rfl, ?_⟩
  exact fun _ h => absurd h List.not_mem_nil
theorem dX7_in_0 : decode cX7_in 0 = .ok (.iload_n 0, 1) := by decide +kernel
theorem dX7_in_1 : decode cX7_in 1 = .ok (.iload_n 1, 1) := by decide +kernel
theorem dX7_in_2 : decode cX7_in 2 = .ok (.if_icmp .lt 12, 3) := by decide +kernel
theorem dX7_in_5 : decode cX7_in 5 = .ok (.iload_n 0, 1) := by decide +kernel
theorem dX7_in_6 : decode cX7_in 6 = .ok (.iload_n 2, 1) := by decide +kernel
theorem dX7_in_7 : decode cX7_in 7 = .ok (.if_icmp .gt 7, 3) := by decide +kernel
theorem dX7_in_10 : decode cX7_in 10 = .ok (.iconst 1, 1) := by decide +kernel
theorem dX7_in_11 : decode cX7_in 11 = .ok (.goto 4, 3) := by decide +kernel
theorem dX7_in_14 : decode cX7_in 14 = .ok (.iconst 0, 1) := by decide +kernel
theorem dX7_in_15 : decode cX7_in 15 = .ok (.ireturn, 1) := by decide +kernel
def T_X7_in : tk_Tb := [(0, tk_il 0 1), (1, tk_il 1 2), (2, tk_cm (fun x y => x < y) 14 5), (5, tk_il 0 6), (6, tk_il 2 7), (7, tk_cm (fun x y => y < x) 14 10), (10, tk_ic (1) 11), (11, tk_jmp 15), (14, tk_ic (0) 15), (15, tk_rZ)]
set_option maxRecDepth 100000 in
theorem hT_X7_in (sc : Option (Nat × (Nat → Int32))) : ∀ x ∈ T_X7_in, tk_So sc M_X7_in x.1 x.2 := by
  unfold T_X7_in
  refine List.forall_mem_cons.mpr ⟨so_iload_n dX7_in_0 rfl rfl, ?_⟩
  refine List.forall_mem_cons.mpr ⟨so_iload_n dX7_in_1 rfl rfl, ?_⟩
  refine List.forall_mem_cons.mpr ⟨so_icmp_lt dX7_in_2 (by decide) rfl, ?_⟩
  refine List.forall_mem_cons.mpr ⟨so_iload_n dX7_in_5 rfl rfl, ?_⟩
  refine List.forall_mem_cons.mpr ⟨so_iload_n dX7_in_6 rfl rfl, ?_⟩
  refine List.forall_mem_cons.mpr ⟨so_icmp_gt dX7_in_7 (by decide) rfl, ?_⟩
  refine List.forall_mem_cons.mpr ⟨so_iconst dX7_in_10 (by decide) rfl, ?_⟩
  refine List.forall_mem_cons.mpr ⟨so_goto dX7_in_11 (by decide), ?_⟩
  refine List.forall_mem_cons.mpr ⟨so_iconst dX7_in_14 (by decide) rfl, ?_⟩
  refine List.forall_mem_cons.mpr ⟨so_rZ dX7_in_15 rfl, ?_⟩
  exact fun _ h => absurd h List.not_mem_nil
theorem dX7_ones_0 : decode cX7_ones 0 = .ok (.iconst 0, 1) := by decide +kernel
theorem dX7_ones_1 : decode cX7_ones 1 = .ok (.istore_n 1, 1) := by decide +kernel
theorem dX7_ones_2 : decode cX7_ones 2 = .ok (.iconst 0, 1) := by decide +kernel
theorem dX7_ones_3 : decode cX7_ones 3 = .ok (.istore_n 2, 1) := by decide +kernel
theorem dX7_ones_4 : decode cX7_ones 4 = .ok (.iload_n 2, 1) := by decide +kernel
theorem dX7_ones_5 : decode cX7_ones 5 = .ok (.bipush 8, 2) := by decide +kernel
theorem dX7_ones_7 : decode cX7_ones 7 = .ok (.if_icmp .ge 17, 3) := by decide +kernel
theorem dX7_ones_10 : decode cX7_ones 10 = .ok (.iload_n 1, 1) := by decide +kernel
theorem dX7_ones_11 : decode cX7_ones 11 = .ok (.iload_n 0, 1) := by decide +kernel
theorem dX7_ones_12 : decode cX7_ones 12 = .ok (.iload_n 2, 1) := by decide +kernel
theorem dX7_ones_13 : decode cX7_ones 13 = .ok (.ishr, 1) := by decide +kernel
theorem dX7_ones_14 : decode cX7_ones 14 = .ok (.iconst 1, 1) := by decide +kernel
theorem dX7_ones_15 : decode cX7_ones 15 = .ok (.iand, 1) := by decide +kernel
theorem dX7_ones_16 : decode cX7_ones 16 = .ok (.iadd, 1) := by decide +kernel
theorem dX7_ones_17 : decode cX7_ones 17 = .ok (.istore_n 1, 1) := by decide +kernel
theorem dX7_ones_18 : decode cX7_ones 18 = .ok (.iinc 2 1, 3) := by decide +kernel
theorem dX7_ones_21 : decode cX7_ones 21 = .ok (.goto (-17), 3) := by decide +kernel
theorem dX7_ones_24 : decode cX7_ones 24 = .ok (.iload_n 1, 1) := by decide +kernel
theorem dX7_ones_25 : decode cX7_ones 25 = .ok (.ireturn, 1) := by decide +kernel
def T_X7_ones : tk_Tb := [(0, tk_ic (0) 1), (1, tk_sI 1 2), (2, tk_ic (0) 3), (3, tk_sI 2 4), (4, tk_il 2 5), (5, tk_ic (8) 7), (7, tk_cm (fun x y => y ≤ x) 24 10), (10, tk_il 1 11), (11, tk_il 0 12), (12, tk_il 2 13), (13, tk_bi (fun x y => x >>> (y &&& 31)) 14), (14, tk_ic (1) 15), (15, tk_bi (fun x y => x &&& y) 16), (16, tk_bi (fun x y => x + y) 17), (17, tk_sI 1 18), (18, tk_inc 2 (1) 21), (21, tk_jmp 4), (24, tk_il 1 25), (25, tk_rI)]
set_option maxRecDepth 100000 in
theorem hT_X7_ones (sc : Option (Nat × (Nat → Int32))) : ∀ x ∈ T_X7_ones, tk_So sc M_X7_ones x.1 x.2 := by
  unfold T_X7_ones
  refine List.forall_mem_cons.mpr ⟨so_iconst dX7_ones_0 (by decide) rfl, ?_⟩
  refine List.forall_mem_cons.mpr ⟨so_istore_n dX7_ones_1 rfl rfl, ?_⟩
  refine List.forall_mem_cons.mpr ⟨so_iconst dX7_ones_2 (by decide) rfl, ?_⟩
  refine List.forall_mem_cons.mpr ⟨so_istore_n dX7_ones_3 rfl rfl, ?_⟩
  refine List.forall_mem_cons.mpr ⟨so_iload_n dX7_ones_4 rfl rfl, ?_⟩
  refine List.forall_mem_cons.mpr ⟨so_bipush dX7_ones_5 (by decide) rfl, ?_⟩
  refine List.forall_mem_cons.mpr ⟨so_icmp_ge dX7_ones_7 (by decide) rfl, ?_⟩
  refine List.forall_mem_cons.mpr ⟨so_iload_n dX7_ones_10 rfl rfl, ?_⟩
  refine List.forall_mem_cons.mpr ⟨so_iload_n dX7_ones_11 rfl rfl, ?_⟩
  refine List.forall_mem_cons.mpr ⟨so_iload_n dX7_ones_12 rfl rfl, ?_⟩
  refine List.forall_mem_cons.mpr ⟨so_ishr dX7_ones_13 rfl, ?_⟩
  refine List.forall_mem_cons.mpr ⟨so_iconst dX7_ones_14 (by decide) rfl, ?_⟩
  refine List.forall_mem_cons.mpr ⟨so_iand dX7_ones_15 rfl, ?_⟩
  refine List.forall_mem_cons.mpr ⟨so_iadd dX7_ones_16 rfl, ?_⟩
  refine List.forall_mem_cons.mpr ⟨so_istore_n dX7_ones_17 rfl rfl, ?_⟩
  refine List.forall_mem_cons.mpr ⟨so_iinc dX7_ones_18 (by decide) rfl, ?_⟩
  refine List.forall_mem_cons.mpr ⟨so_goto dX7_ones_21 (by decide), ?_⟩
  refine List.forall_mem_cons.mpr ⟨so_iload_n dX7_ones_24 rfl rfl, ?_⟩
  refine List.forall_mem_cons.mpr ⟨so_rI dX7_ones_25 rfl, ?_⟩
  exact fun _ h => absurd h List.not_mem_nil
theorem dX7_type_0 : decode cX7_type 0 = .ok (.aload_n 0, 1) := by decide +kernel
theorem dX7_type_1 : decode cX7_type 1 = .ok (.iconst 0, 1) := by decide +kernel
theorem dX7_type_2 : decode cX7_type 2 = .ok (.putfield 62, 3) := by decide +kernel
theorem dX7_type_5 : decode cX7_type 5 = .ok (.iload_n 1, 1) := by decide +kernel
theorem dX7_type_6 : decode cX7_type 6 = .ok (.iconst 0, 1) := by decide +kernel
theorem dX7_type_7 : decode cX7_type 7 = .ok (.sipush 255, 3) := by decide +kernel
theorem dX7_type_10 : decode cX7_type 10 = .ok (.invokestatic 66, 3) := by decide +kernel
theorem dX7_type_13 : decode cX7_type 13 = .ok (.ifCond .ne 5, 3) := by decide +kernel
theorem dX7_type_16 : decode cX7_type 16 = .ok (.iconst (-1), 1) := by decide +kernel
theorem dX7_type_17 : decode cX7_type 17 = .ok (.ireturn, 1) := by decide +kernel
theorem dX7_type_18 : decode cX7_type 18 = .ok (.aload_n 0, 1) := by decide +kernel
theorem dX7_type_19 : decode cX7_type 19 = .ok (.getfield 70, 3) := by decide +kernel
theorem dX7_type_22 : decode cX7_type 22 = .ok (.sipush 150, 3) := by decide +kernel
theorem dX7_type_25 : decode cX7_type 25 = .ok (.if_icmp .ne 6, 3) := by decide +kernel
theorem dX7_type_28 : decode cX7_type 28 = .ok (.bipush (-3), 2) := by decide +kernel
theorem dX7_type_30 : decode cX7_type 30 = .ok (.ireturn, 1) := by decide +kernel
theorem dX7_type_31 : decode cX7_type 31 = .ok (.aload_n 0, 1) := by decide +kernel
theorem dX7_type_32 : decode cX7_type 32 = .ok (.getfield 7, 3) := by decide +kernel
theorem dX7_type_35 : decode cX7_type 35 = .ok (.aload_n 0, 1) := by decide +kernel
theorem dX7_type_36 : decode cX7_type 36 = .ok (.getfield 70, 3) := by decide +kernel
theorem dX7_type_39 : decode cX7_type 39 = .ok (.iload_n 1, 1) := by decide +kernel
theorem dX7_type_40 : decode cX7_type 40 = .ok (.iastore, 1) := by decide +kernel
theorem dX7_type_41 : decode cX7_type 41 = .ok (.aload_n 0, 1) := by decide +kernel
theorem dX7_type_42 : decode cX7_type 42 = .ok (.dup, 1) := by decide +kernel
theorem dX7_type_43 : decode cX7_type 43 = .ok (.getfield 70, 3) := by decide +kernel
theorem dX7_type_46 : decode cX7_type 46 = .ok (.iconst 1, 1) := by decide +kernel
theorem dX7_type_47 : decode cX7_type 47 = .ok (.iadd, 1) := by decide +kernel
theorem dX7_type_48 : decode cX7_type 48 = .ok (.putfield 70, 3) := by decide +kernel
theorem dX7_type_51 : decode cX7_type 51 = .ok (.aload_n 0, 1) := by decide +kernel
theorem dX7_type_52 : decode cX7_type 52 = .ok (.getfield 70, 3) := by decide +kernel
theorem dX7_type_55 : decode cX7_type 55 = .ok (.ireturn, 1) := by decide +kernel
def T_X7_type : tk_Tb := [(0, tk_al 0 1), (1, tk_ic (0) 2), (2, tk_pI 7 0 5), (5, tk_il 1 6), (6, tk_ic (0) 7), (7, tk_ic (255) 10), (10, tk_cs M_X7_in 3 13), (13, tk_br (fun x => x = 0) 16 18), (16, tk_ic (-1) 17), (17, tk_rI), (18, tk_al 0 19), (19, tk_gI 7 3 22), (22, tk_ic (150) 25), (25, tk_cm (fun x y => x = y) 28 31), (28, tk_ic (-3) 30), (30, tk_rI), (31, tk_al 0 32), (32, tk_gR 7 2 35), (35, tk_al 0 36), (36, tk_gI 7 3 39), (39, tk_il 1 40), (40, tk_si 9 (fun x => x) 41), (41, tk_al 0 42), (42, tk_dup 43), (43, tk_gI 7 3 46), (46, tk_ic (1) 47), (47, tk_bi (fun x y => x + y) 48), (48, tk_pI 7 3 51), (51, tk_al 0 52), (52, tk_gI 7 3 55), (55, tk_rI)]
set_option maxRecDepth 100000 in
theorem hT_X7_type (sc : Option (Nat × (Nat → Int32))) : ∀ x ∈ T_X7_type, tk_So sc M_X7_type x.1 x.2 := by
  unfold T_X7_type
  refine List.forall_mem_cons.mpr ⟨so_aload_n dX7_type_0 rfl rfl, ?_⟩
  refine List.forall_mem_cons.mpr ⟨so_iconst dX7_type_1 (by decide) rfl, ?_⟩
  refine List.forall_mem_cons.mpr ⟨so_pI (C := RX7) (T := TX7) (N := 29) dX7_type_2 (by decide) rfl rfl (by decide) rfl in_X7 wf_X7_62 tyX7 tyX7_ok nmX7 rfl (by decide +kernel) rfl, ?_⟩
  refine List.forall_mem_cons.mpr ⟨so_iload_n dX7_type_5 rfl rfl, ?_⟩
  refine List.forall_mem_cons.mpr ⟨so_iconst dX7_type_6 (by decide) rfl, ?_⟩
  refine List.forall_mem_cons.mpr ⟨so_sipush dX7_type_7 (by decide) rfl, ?_⟩
  refine List.forall_mem_cons.mpr ⟨so_cs dX7_type_10 mv_X7_in wm_X7_66 ⟨rfl, rfl⟩ (by decide) rfl, ?_⟩
  refine List.forall_mem_cons.mpr ⟨so_if_ne dX7_type_13 (by decide) rfl, ?_⟩
  refine List.forall_mem_cons.mpr ⟨so_iconst dX7_type_16 (by decide) rfl, ?_⟩
  refine List.forall_mem_cons.mpr ⟨so_rI dX7_type_17 rfl, ?_⟩
  refine List.forall_mem_cons.mpr ⟨so_aload_n dX7_type_18 rfl rfl, ?_⟩
  refine List.forall_mem_cons.mpr ⟨so_gI (C := RX7) (T := TX7) (N := 29) dX7_type_19 (by decide) rfl rfl (by decide) rfl in_X7 wf_X7_70 rfl, ?_⟩
  refine List.forall_mem_cons.mpr ⟨so_sipush dX7_type_22 (by decide) rfl, ?_⟩
  refine List.forall_mem_cons.mpr ⟨so_icmp_ne dX7_type_25 (by decide) rfl, ?_⟩
  refine List.forall_mem_cons.mpr ⟨so_bipush dX7_type_28 (by decide) rfl, ?_⟩
  refine List.forall_mem_cons.mpr ⟨so_rI dX7_type_30 rfl, ?_⟩
  refine List.forall_mem_cons.mpr ⟨so_aload_n dX7_type_31 rfl rfl, ?_⟩
  refine List.forall_mem_cons.mpr ⟨so_gR (C := RX7) (T := TX7) (N := 29) dX7_type_32 (by decide) rfl rfl (by decide) rfl in_X7 wf_X7_7 rfl, ?_⟩
  refine List.forall_mem_cons.mpr ⟨so_aload_n dX7_type_35 rfl rfl, ?_⟩
  refine List.forall_mem_cons.mpr ⟨so_gI (C := RX7) (T := TX7) (N := 29) dX7_type_36 (by decide) rfl rfl (by decide) rfl in_X7 wf_X7_70 rfl, ?_⟩
  refine List.forall_mem_cons.mpr ⟨so_iload_n dX7_type_39 rfl rfl, ?_⟩
  refine List.forall_mem_cons.mpr ⟨so_iastore dX7_type_40 rfl, ?_⟩
  refine List.forall_mem_cons.mpr ⟨so_aload_n dX7_type_41 rfl rfl, ?_⟩
  refine List.forall_mem_cons.mpr ⟨so_dup dX7_type_42 rfl, ?_⟩
  refine List.forall_mem_cons.mpr ⟨so_gI (C := RX7) (T := TX7) (N := 29) dX7_type_43 (by decide) rfl rfl (by decide) rfl in_X7 wf_X7_70 rfl, ?_⟩
  refine List.forall_mem_cons.mpr ⟨so_iconst dX7_type_46 (by decide) rfl, ?_⟩
  refine List.forall_mem_cons.mpr ⟨so_iadd dX7_type_47 rfl, ?_⟩
  refine List.forall_mem_cons.mpr ⟨so_pI (C := RX7) (T := TX7) (N := 29) dX7_type_48 (by decide) rfl rfl (by decide) rfl in_X7 wf_X7_70 tyX7 tyX7_ok nmX7 rfl (by decide +kernel) rfl, ?_⟩
  refine List.forall_mem_cons.mpr ⟨so_aload_n dX7_type_51 rfl rfl, ?_⟩
  refine List.forall_mem_cons.mpr ⟨so_gI (C := RX7) (T := TX7) (N := 29) dX7_type_52 (by decide) rfl rfl (by decide) rfl in_X7 wf_X7_70 rfl, ?_⟩
  refine List.forall_mem_cons.mpr ⟨so_rI dX7_type_55 rfl, ?_⟩
  exact fun _ h => absurd h List.not_mem_nil
theorem dX7_clear_0 : decode cX7_clear 0 = .ok (.aload_n 0, 1) := by decide +kernel
theorem dX7_clear_1 : decode cX7_clear 1 = .ok (.iconst 0, 1) := by decide +kernel
theorem dX7_clear_2 : decode cX7_clear 2 = .ok (.putfield 62, 3) := by decide +kernel
theorem dX7_clear_5 : decode cX7_clear 5 = .ok (.aload_n 0, 1) := by decide +kernel
theorem dX7_clear_6 : decode cX7_clear 6 = .ok (.getfield 70, 3) := by decide +kernel
theorem dX7_clear_9 : decode cX7_clear 9 = .ok (.istore_n 1, 1) := by decide +kernel
theorem dX7_clear_10 : decode cX7_clear 10 = .ok (.aload_n 0, 1) := by decide +kernel
theorem dX7_clear_11 : decode cX7_clear 11 = .ok (.iconst 0, 1) := by decide +kernel
theorem dX7_clear_12 : decode cX7_clear 12 = .ok (.putfield 70, 3) := by decide +kernel
theorem dX7_clear_15 : decode cX7_clear 15 = .ok (.iload_n 1, 1) := by decide +kernel
theorem dX7_clear_16 : decode cX7_clear 16 = .ok (.ireturn, 1) := by decide +kernel
def T_X7_clear : tk_Tb := [(0, tk_al 0 1), (1, tk_ic (0) 2), (2, tk_pI 7 0 5), (5, tk_al 0 6), (6, tk_gI 7 3 9), (9, tk_sI 1 10), (10, tk_al 0 11), (11, tk_ic (0) 12), (12, tk_pI 7 3 15), (15, tk_il 1 16), (16, tk_rI)]
set_option maxRecDepth 100000 in
theorem hT_X7_clear (sc : Option (Nat × (Nat → Int32))) : ∀ x ∈ T_X7_clear, tk_So sc M_X7_clear x.1 x.2 := by
  unfold T_X7_clear
  refine List.forall_mem_cons.mpr ⟨so_aload_n dX7_clear_0 rfl rfl, ?_⟩
  refine List.forall_mem_cons.mpr ⟨so_iconst dX7_clear_1 (by decide) rfl, ?_⟩
  refine List.forall_mem_cons.mpr ⟨so_pI (C := RX7) (T := TX7) (N := 29) dX7_clear_2 (by decide) rfl rfl (by decide) rfl in_X7 wf_X7_62 tyX7 tyX7_ok nmX7 rfl (by decide +kernel) rfl, ?_⟩
  refine List.forall_mem_cons.mpr ⟨so_aload_n dX7_clear_5 rfl rfl, ?_⟩
  refine List.forall_mem_cons.mpr ⟨so_gI (C := RX7) (T := TX7) (N := 29) dX7_clear_6 (by decide) rfl rfl (by decide) rfl in_X7 wf_X7_70 rfl, ?_⟩
  refine List.forall_mem_cons.mpr ⟨so_istore_n dX7_clear_9 rfl rfl, ?_⟩
  refine List.forall_mem_cons.mpr ⟨so_aload_n dX7_clear_10 rfl rfl, ?_⟩
  refine List.forall_mem_cons.mpr ⟨so_iconst dX7_clear_11 (by decide) rfl, ?_⟩
  refine List.forall_mem_cons.mpr ⟨so_pI (C := RX7) (T := TX7) (N := 29) dX7_clear_12 (by decide) rfl rfl (by decide) rfl in_X7 wf_X7_70 tyX7 tyX7_ok nmX7 rfl (by decide +kernel) rfl, ?_⟩
  refine List.forall_mem_cons.mpr ⟨so_iload_n dX7_clear_15 rfl rfl, ?_⟩
  refine List.forall_mem_cons.mpr ⟨so_rI dX7_clear_16 rfl, ?_⟩
  exact fun _ h => absurd h List.not_mem_nil
theorem dX7_letterAt_0 : decode cX7_letterAt 0 = .ok (.iload_n 1, 1) := by decide +kernel
theorem dX7_letterAt_1 : decode cX7_letterAt 1 = .ok (.aload_n 0, 1) := by decide +kernel
theorem dX7_letterAt_2 : decode cX7_letterAt 2 = .ok (.getfield 70, 3) := by decide +kernel
theorem dX7_letterAt_5 : decode cX7_letterAt 5 = .ok (.if_icmp .ge 12, 3) := by decide +kernel
theorem dX7_letterAt_8 : decode cX7_letterAt 8 = .ok (.aload_n 0, 1) := by decide +kernel
theorem dX7_letterAt_9 : decode cX7_letterAt 9 = .ok (.getfield 7, 3) := by decide +kernel
theorem dX7_letterAt_12 : decode cX7_letterAt 12 = .ok (.iload_n 1, 1) := by decide +kernel
theorem dX7_letterAt_13 : decode cX7_letterAt 13 = .ok (.iaload, 1) := by decide +kernel
theorem dX7_letterAt_14 : decode cX7_letterAt 14 = .ok (.goto 4, 3) := by decide +kernel
theorem dX7_letterAt_17 : decode cX7_letterAt 17 = .ok (.iconst (-1), 1) := by decide +kernel
theorem dX7_letterAt_18 : decode cX7_letterAt 18 = .ok (.ireturn, 1) := by decide +kernel
def T_X7_letterAt : tk_Tb := [(0, tk_il 1 1), (1, tk_al 0 2), (2, tk_gI 7 3 5), (5, tk_cm (fun x y => y ≤ x) 17 8), (8, tk_al 0 9), (9, tk_gR 7 2 12), (12, tk_il 1 13), (13, tk_ai 9 14), (14, tk_jmp 18), (17, tk_ic (-1) 18), (18, tk_rI)]
set_option maxRecDepth 100000 in
theorem hT_X7_letterAt (sc : Option (Nat × (Nat → Int32))) : ∀ x ∈ T_X7_letterAt, tk_So sc M_X7_letterAt x.1 x.2 := by
  unfold T_X7_letterAt
  refine List.forall_mem_cons.mpr ⟨so_iload_n dX7_letterAt_0 rfl rfl, ?_⟩
  refine List.forall_mem_cons.mpr ⟨so_aload_n dX7_letterAt_1 rfl rfl, ?_⟩
  refine List.forall_mem_cons.mpr ⟨so_gI (C := RX7) (T := TX7) (N := 29) dX7_letterAt_2 (by decide) rfl rfl (by decide) rfl in_X7 wf_X7_70 rfl, ?_⟩
  refine List.forall_mem_cons.mpr ⟨so_icmp_ge dX7_letterAt_5 (by decide) rfl, ?_⟩
  refine List.forall_mem_cons.mpr ⟨so_aload_n dX7_letterAt_8 rfl rfl, ?_⟩
  refine List.forall_mem_cons.mpr ⟨so_gR (C := RX7) (T := TX7) (N := 29) dX7_letterAt_9 (by decide) rfl rfl (by decide) rfl in_X7 wf_X7_7 rfl, ?_⟩
  refine List.forall_mem_cons.mpr ⟨so_iload_n dX7_letterAt_12 rfl rfl, ?_⟩
  refine List.forall_mem_cons.mpr ⟨so_iaload dX7_letterAt_13 rfl, ?_⟩
  refine List.forall_mem_cons.mpr ⟨so_goto dX7_letterAt_14 (by decide), ?_⟩
  refine List.forall_mem_cons.mpr ⟨so_iconst dX7_letterAt_17 (by decide) rfl, ?_⟩
  refine List.forall_mem_cons.mpr ⟨so_rI dX7_letterAt_18 rfl, ?_⟩
  exact fun _ h => absurd h List.not_mem_nil
theorem dX7_advances_0 : decode cX7_advances 0 = .ok (.aload_n 0, 1) := by decide +kernel
theorem dX7_advances_1 : decode cX7_advances 1 = .ok (.aload_n 0, 1) := by decide +kernel
theorem dX7_advances_2 : decode cX7_advances 2 = .ok (.getfield 73, 3) := by decide +kernel
theorem dX7_advances_5 : decode cX7_advances 5 = .ok (.invokevirtual 76, 3) := by decide +kernel
theorem dX7_advances_8 : decode cX7_advances 8 = .ok (.bipush 32, 2) := by decide +kernel
theorem dX7_advances_10 : decode cX7_advances 10 = .ok (.if_icmp .ne 16, 3) := by decide +kernel
theorem dX7_advances_13 : decode cX7_advances 13 = .ok (.aload_n 0, 1) := by decide +kernel
theorem dX7_advances_14 : decode cX7_advances 14 = .ok (.dup, 1) := by decide +kernel
theorem dX7_advances_15 : decode cX7_advances 15 = .ok (.getfield 73, 3) := by decide +kernel
theorem dX7_advances_18 : decode cX7_advances 18 = .ok (.iconst 1, 1) := by decide +kernel
theorem dX7_advances_19 : decode cX7_advances 19 = .ok (.iadd, 1) := by decide +kernel
theorem dX7_advances_20 : decode cX7_advances 20 = .ok (.putfield 73, 3) := by decide +kernel
theorem dX7_advances_23 : decode cX7_advances 23 = .ok (.goto (-23), 3) := by decide +kernel
theorem dX7_advances_26 : decode cX7_advances 26 = .ok (.aload_n 0, 1) := by decide +kernel
theorem dX7_advances_27 : decode cX7_advances 27 = .ok (.aload_n 0, 1) := by decide +kernel
theorem dX7_advances_28 : decode cX7_advances 28 = .ok (.getfield 73, 3) := by decide +kernel
theorem dX7_advances_31 : decode cX7_advances 31 = .ok (.putfield 80, 3) := by decide +kernel
theorem dX7_advances_34 : decode cX7_advances 34 = .ok (.aload_n 0, 1) := by decide +kernel
theorem dX7_advances_35 : decode cX7_advances 35 = .ok (.aload_n 0, 1) := by decide +kernel
theorem dX7_advances_36 : decode cX7_advances 36 = .ok (.getfield 73, 3) := by decide +kernel
theorem dX7_advances_39 : decode cX7_advances 39 = .ok (.invokevirtual 76, 3) := by decide +kernel
theorem dX7_advances_42 : decode cX7_advances 42 = .ok (.istore_n 1, 1) := by decide +kernel
theorem dX7_advances_43 : decode cX7_advances 43 = .ok (.iload_n 1, 1) := by decide +kernel
theorem dX7_advances_44 : decode cX7_advances 44 = .ok (.ifCond .ge 11, 3) := by decide +kernel
theorem dX7_advances_47 : decode cX7_advances 47 = .ok (.aload_n 0, 1) := by decide +kernel
theorem dX7_advances_48 : decode cX7_advances 48 = .ok (.iconst 0, 1) := by decide +kernel
theorem dX7_advances_49 : decode cX7_advances 49 = .ok (.putfield 83, 3) := by decide +kernel
theorem dX7_advances_52 : decode cX7_advances 52 = .ok (.goto 187, 3) := by decide +kernel
theorem dX7_advances_55 : decode cX7_advances 55 = .ok (.iload_n 1, 1) := by decide +kernel
theorem dX7_advances_56 : decode cX7_advances 56 = .ok (.bipush 48, 2) := by decide +kernel
theorem dX7_advances_58 : decode cX7_advances 58 = .ok (.bipush 57, 2) := by decide +kernel
theorem dX7_advances_60 : decode cX7_advances 60 = .ok (.invokestatic 66, 3) := by decide +kernel
theorem dX7_advances_63 : decode cX7_advances 63 = .ok (.ifCond .eq 118, 3) := by decide +kernel
theorem dX7_advances_66 : decode cX7_advances 66 = .ok (.aload_n 0, 1) := by decide +kernel
theorem dX7_advances_67 : decode cX7_advances 67 = .ok (.iconst 0, 1) := by decide +kernel
theorem dX7_advances_68 : decode cX7_advances 68 = .ok (.putfield 86, 3) := by decide +kernel
theorem dX7_advances_71 : decode cX7_advances 71 = .ok (.aload_n 0, 1) := by decide +kernel
theorem dX7_advances_72 : decode cX7_advances 72 = .ok (.aload_n 0, 1) := by decide +kernel
theorem dX7_advances_73 : decode cX7_advances 73 = .ok (.getfield 73, 3) := by decide +kernel
theorem dX7_advances_76 : decode cX7_advances 76 = .ok (.invokevirtual 76, 3) := by decide +kernel
theorem dX7_advances_79 : decode cX7_advances 79 = .ok (.bipush 48, 2) := by decide +kernel
theorem dX7_advances_81 : decode cX7_advances 81 = .ok (.bipush 57, 2) := by decide +kernel
theorem dX7_advances_83 : decode cX7_advances 83 = .ok (.invokestatic 66, 3) := by decide +kernel
theorem dX7_advances_86 : decode cX7_advances 86 = .ok (.ifCond .eq 55, 3) := by decide +kernel
theorem dX7_advances_89 : decode cX7_advances 89 = .ok (.aload_n 0, 1) := by decide +kernel
theorem dX7_advances_90 : decode cX7_advances 90 = .ok (.aload_n 0, 1) := by decide +kernel
theorem dX7_advances_91 : decode cX7_advances 91 = .ok (.getfield 86, 3) := by decide +kernel
theorem dX7_advances_94 : decode cX7_advances 94 = .ok (.bipush 99, 2) := by decide +kernel
theorem dX7_advances_96 : decode cX7_advances 96 = .ok (.if_icmp .le 10, 3) := by decide +kernel
theorem dX7_advances_99 : decode cX7_advances 99 = .ok (.aload_n 0, 1) := by decide +kernel
theorem dX7_advances_100 : decode cX7_advances 100 = .ok (.getfield 86, 3) := by decide +kernel
theorem dX7_advances_103 : decode cX7_advances 103 = .ok (.goto 22, 3) := by decide +kernel
theorem dX7_advances_106 : decode cX7_advances 106 = .ok (.bipush 10, 2) := by decide +kernel
theorem dX7_advances_108 : decode cX7_advances 108 = .ok (.aload_n 0, 1) := by decide +kernel
theorem dX7_advances_109 : decode cX7_advances 109 = .ok (.getfield 86, 3) := by decide +kernel
theorem dX7_advances_112 : decode cX7_advances 112 = .ok (.imul, 1) := by decide +kernel
theorem dX7_advances_113 : decode cX7_advances 113 = .ok (.aload_n 0, 1) := by decide +kernel
theorem dX7_advances_114 : decode cX7_advances 114 = .ok (.aload_n 0, 1) := by decide +kernel
theorem dX7_advances_115 : decode cX7_advances 115 = .ok (.getfield 73, 3) := by decide +kernel
theorem dX7_advances_118 : decode cX7_advances 118 = .ok (.invokevirtual 76, 3) := by decide +kernel
theorem dX7_advances_121 : decode cX7_advances 121 = .ok (.iadd, 1) := by decide +kernel
theorem dX7_advances_122 : decode cX7_advances 122 = .ok (.bipush 48, 2) := by decide +kernel
theorem dX7_advances_124 : decode cX7_advances 124 = .ok (.isub, 1) := by decide +kernel
theorem dX7_advances_125 : decode cX7_advances 125 = .ok (.putfield 86, 3) := by decide +kernel
theorem dX7_advances_128 : decode cX7_advances 128 = .ok (.aload_n 0, 1) := by decide +kernel
theorem dX7_advances_129 : decode cX7_advances 129 = .ok (.dup, 1) := by decide +kernel
theorem dX7_advances_130 : decode cX7_advances 130 = .ok (.getfield 73, 3) := by decide +kernel
theorem dX7_advances_133 : decode cX7_advances 133 = .ok (.iconst 1, 1) := by decide +kernel
theorem dX7_advances_134 : decode cX7_advances 134 = .ok (.iadd, 1) := by decide +kernel
theorem dX7_advances_135 : decode cX7_advances 135 = .ok (.putfield 73, 3) := by decide +kernel
theorem dX7_advances_138 : decode cX7_advances 138 = .ok (.goto (-67), 3) := by decide +kernel
theorem dX7_advances_141 : decode cX7_advances 141 = .ok (.aload_n 0, 1) := by decide +kernel
theorem dX7_advances_142 : decode cX7_advances 142 = .ok (.aload_n 0, 1) := by decide +kernel
theorem dX7_advances_143 : decode cX7_advances 143 = .ok (.getfield 86, 3) := by decide +kernel
theorem dX7_advances_146 : decode cX7_advances 146 = .ok (.bipush 99, 2) := by decide +kernel
theorem dX7_advances_148 : decode cX7_advances 148 = .ok (.if_icmp .gt 22, 3) := by decide +kernel
theorem dX7_advances_151 : decode cX7_advances 151 = .ok (.iload_n 1, 1) := by decide +kernel
theorem dX7_advances_152 : decode cX7_advances 152 = .ok (.bipush 48, 2) := by decide +kernel
theorem dX7_advances_154 : decode cX7_advances 154 = .ok (.if_icmp .ne 20, 3) := by decide +kernel
theorem dX7_advances_157 : decode cX7_advances 157 = .ok (.aload_n 0, 1) := by decide +kernel
theorem dX7_advances_158 : decode cX7_advances 158 = .ok (.getfield 73, 3) := by decide +kernel
theorem dX7_advances_161 : decode cX7_advances 161 = .ok (.aload_n 0, 1) := by decide +kernel
theorem dX7_advances_162 : decode cX7_advances 162 = .ok (.getfield 80, 3) := by decide +kernel
theorem dX7_advances_165 : decode cX7_advances 165 = .ok (.isub, 1) := by decide +kernel
theorem dX7_advances_166 : decode cX7_advances 166 = .ok (.iconst 1, 1) := by decide +kernel
theorem dX7_advances_167 : decode cX7_advances 167 = .ok (.if_icmp .le 7, 3) := by decide +kernel
theorem dX7_advances_170 : decode cX7_advances 170 = .ok (.iconst 4, 1) := by decide +kernel
theorem dX7_advances_171 : decode cX7_advances 171 = .ok (.goto 4, 3) := by decide +kernel
theorem dX7_advances_174 : decode cX7_advances 174 = .ok (.iconst 2, 1) := by decide +kernel
theorem dX7_advances_175 : decode cX7_advances 175 = .ok (.putfield 83, 3) := by decide +kernel
theorem dX7_advances_178 : decode cX7_advances 178 = .ok (.goto 61, 3) := by decide +kernel
theorem dX7_advances_181 : decode cX7_advances 181 = .ok (.aload_n 0, 1) := by decide +kernel
theorem dX7_advances_182 : decode cX7_advances 182 = .ok (.dup, 1) := by decide +kernel
theorem dX7_advances_183 : decode cX7_advances 183 = .ok (.getfield 73, 3) := by decide +kernel
theorem dX7_advances_186 : decode cX7_advances 186 = .ok (.iconst 1, 1) := by decide +kernel
theorem dX7_advances_187 : decode cX7_advances 187 = .ok (.iadd, 1) := by decide +kernel
theorem dX7_advances_188 : decode cX7_advances 188 = .ok (.putfield 73, 3) := by decide +kernel
theorem dX7_advances_191 : decode cX7_advances 191 = .ok (.aload_n 0, 1) := by decide +kernel
theorem dX7_advances_192 : decode cX7_advances 192 = .ok (.iload_n 1, 1) := by decide +kernel
theorem dX7_advances_193 : decode cX7_advances 193 = .ok (.putfield 86, 3) := by decide +kernel
theorem dX7_advances_196 : decode cX7_advances 196 = .ok (.aload_n 0, 1) := by decide +kernel
theorem dX7_advances_197 : decode cX7_advances 197 = .ok (.iload_n 1, 1) := by decide +kernel
theorem dX7_advances_198 : decode cX7_advances 198 = .ok (.bipush 59, 2) := by decide +kernel
theorem dX7_advances_200 : decode cX7_advances 200 = .ok (.if_icmp .ne 7, 3) := by decide +kernel
theorem dX7_advances_203 : decode cX7_advances 203 = .ok (.iconst 3, 1) := by decide +kernel
theorem dX7_advances_204 : decode cX7_advances 204 = .ok (.goto 32, 3) := by decide +kernel
theorem dX7_advances_207 : decode cX7_advances 207 = .ok (.iload_n 1, 1) := by decide +kernel
theorem dX7_advances_208 : decode cX7_advances 208 = .ok (.bipush 109, 2) := by decide +kernel
theorem dX7_advances_210 : decode cX7_advances 210 = .ok (.if_icmp .eq 21, 3) := by decide +kernel
theorem dX7_advances_213 : decode cX7_advances 213 = .ok (.iload_n 1, 1) := by decide +kernel
theorem dX7_advances_214 : decode cX7_advances 214 = .ok (.bipush 107, 2) := by decide +kernel
theorem dX7_advances_216 : decode cX7_advances 216 = .ok (.if_icmp .eq 15, 3) := by decide +kernel
theorem dX7_advances_219 : decode cX7_advances 219 = .ok (.iload_n 1, 1) := by decide +kernel
theorem dX7_advances_220 : decode cX7_advances 220 = .ok (.bipush 100, 2) := by decide +kernel
theorem dX7_advances_222 : decode cX7_advances 222 = .ok (.if_icmp .eq 9, 3) := by decide +kernel
theorem dX7_advances_225 : decode cX7_advances 225 = .ok (.iload_n 1, 1) := by decide +kernel
theorem dX7_advances_226 : decode cX7_advances 226 = .ok (.bipush 116, 2) := by decide +kernel
theorem dX7_advances_228 : decode cX7_advances 228 = .ok (.if_icmp .ne 7, 3) := by decide +kernel
theorem dX7_advances_231 : decode cX7_advances 231 = .ok (.iconst 1, 1) := by decide +kernel
theorem dX7_advances_232 : decode cX7_advances 232 = .ok (.goto 4, 3) := by decide +kernel
theorem dX7_advances_235 : decode cX7_advances 235 = .ok (.iconst 4, 1) := by decide +kernel
theorem dX7_advances_236 : decode cX7_advances 236 = .ok (.putfield 83, 3) := by decide +kernel
theorem dX7_advances_239 : decode cX7_advances 239 = .ok (.return_, 1) := by decide +kernel
def T_X7_advances : tk_Tb := [(0, tk_al 0 1), (1, tk_al 0 2), (2, tk_gI 7 4 5), (5, tk_cv 7 M_X7_letterAt 1 8), (8, tk_ic (32) 10), (10, tk_cm (fun x y => x = y) 13 26), (13, tk_al 0 14), (14, tk_dup 15), (15, tk_gI 7 4 18), (18, tk_ic (1) 19), (19, tk_bi (fun x y => x + y) 20), (20, tk_pI 7 4 23), (23, tk_jmp 0), (26, tk_al 0 27), (27, tk_al 0 28), (28, tk_gI 7 4 31), (31, tk_pI 7 6 34), (34, tk_al 0 35), (35, tk_al 0 36), (36, tk_gI 7 4 39), (39, tk_cv 7 M_X7_letterAt 1 42), (42, tk_sI 1 43), (43, tk_il 1 44), (44, tk_br (fun x => 0 ≤ x) 55 47), (47, tk_al 0 48), (48, tk_ic (0) 49), (49, tk_pI 7 5 52), (52, tk_jmp 239), (55, tk_il 1 56), (56, tk_ic (48) 58), (58, tk_ic (57) 60), (60, tk_cs M_X7_in 3 63), (63, tk_br (fun x => x = 0) 181 66), (66, tk_al 0 67), (67, tk_ic (0) 68), (68, tk_pI 7 7 71), (71, tk_al 0 72), (72, tk_al 0 73), (73, tk_gI 7 4 76), (76, tk_cv 7 M_X7_letterAt 1 79), (79, tk_ic (48) 81), (81, tk_ic (57) 83), (83, tk_cs M_X7_in 3 86), (86, tk_br (fun x => x = 0) 141 89), (89, tk_al 0 90), (90, tk_al 0 91), (91, tk_gI 7 7 94), (94, tk_ic (99) 96), (96, tk_cm (fun x y => x ≤ y) 106 99), (99, tk_al 0 100), (100, tk_gI 7 7 103), (103, tk_jmp 125), (106, tk_ic (10) 108), (108, tk_al 0 109), (109, tk_gI 7 7 112), (112, tk_bi (fun x y => x * y) 113), (113, tk_al 0 114), (114, tk_al 0 115), (115, tk_gI 7 4 118), (118, tk_cv 7 M_X7_letterAt 1 121), (121, tk_bi (fun x y => x + y) 122), (122, tk_ic (48) 124), (124, tk_bi (fun x y => x - y) 125), (125, tk_pI 7 7 128), (128, tk_al 0 129), (129, tk_dup 130), (130, tk_gI 7 4 133), (133, tk_ic (1) 134), (134, tk_bi (fun x y => x + y) 135), (135, tk_pI 7 4 138), (138, tk_jmp 71), (141, tk_al 0 142), (142, tk_al 0 143), (143, tk_gI 7 7 146), (146, tk_ic (99) 148), (148, tk_cm (fun x y => y < x) 170 151), (151, tk_il 1 152), (152, tk_ic (48) 154), (154, tk_cm (fun x y => x = y) 157 174), (157, tk_al 0 158), (158, tk_gI 7 4 161), (161, tk_al 0 162), (162, tk_gI 7 6 165), (165, tk_bi (fun x y => x - y) 166), (166, tk_ic (1) 167), (167, tk_cm (fun x y => x ≤ y) 174 170), (170, tk_ic (4) 171), (171, tk_jmp 175), (174, tk_ic (2) 175), (175, tk_pI 7 5 178), (178, tk_jmp 239), (181, tk_al 0 182), (182, tk_dup 183), (183, tk_gI 7 4 186), (186, tk_ic (1) 187), (187, tk_bi (fun x y => x + y) 188), (188, tk_pI 7 4 191), (191, tk_al 0 192), (192, tk_il 1 193), (193, tk_pI 7 7 196), (196, tk_al 0 197), (197, tk_il 1 198), (198, tk_ic (59) 200), (200, tk_cm (fun x y => x = y) 203 207), (203, tk_ic (3) 204), (204, tk_jmp 236), (207, tk_il 1 208), (208, tk_ic (109) 210), (210, tk_cm (fun x y => x = y) 231 213), (213, tk_il 1 214), (214, tk_ic (107) 216), (216, tk_cm (fun x y => x = y) 231 219), (219, tk_il 1 220), (220, tk_ic (100) 222), (222, tk_cm (fun x y => x = y) 231 225), (225, tk_il 1 226), (226, tk_ic (116) 228), (228, tk_cm (fun x y => x = y) 231 235), (231, tk_ic (1) 232), (232, tk_jmp 236), (235, tk_ic (4) 236), (236, tk_pI 7 5 239), (239, tk_rV)]
set_option maxRecDepth 100000 in
theorem hT_X7_advances (sc : Option (Nat × (Nat → Int32))) : ∀ x ∈ T_X7_advances, tk_So sc M_X7_advances x.1 x.2 := by
  unfold T_X7_advances
  refine List.forall_mem_cons.mpr ⟨so_aload_n dX7_advances_0 rfl rfl, ?_⟩
  refine List.forall_mem_cons.mpr ⟨so_aload_n dX7_advances_1 rfl rfl, ?_⟩
  refine List.forall_mem_cons.mpr ⟨so_gI (C := RX7) (T := TX7) (N := 29) dX7_advances_2 (by decide) rfl rfl (by decide) rfl in_X7 wf_X7_73 rfl, ?_⟩
  refine List.forall_mem_cons.mpr ⟨so_cv (T := TX7) (N := 29) dX7_advances_5 mv_X7_letterAt wm_X7_76 (by decide) rfl ⟨rfl, rfl⟩ (by decide) rfl, ?_⟩
  refine List.forall_mem_cons.mpr ⟨so_bipush dX7_advances_8 (by decide) rfl, ?_⟩
  refine List.forall_mem_cons.mpr ⟨so_icmp_ne dX7_advances_10 (by decide) rfl, ?_⟩
  refine List.forall_mem_cons.mpr ⟨so_aload_n dX7_advances_13 rfl rfl, ?_⟩
  refine List.forall_mem_cons.mpr ⟨so_dup dX7_advances_14 rfl, ?_⟩
  refine List.forall_mem_cons.mpr ⟨so_gI (C := RX7) (T := TX7) (N := 29) dX7_advances_15 (by decide) rfl rfl (by decide) rfl in_X7 wf_X7_73 rfl, ?_⟩
  refine List.forall_mem_cons.mpr ⟨so_iconst dX7_advances_18 (by decide) rfl, ?_⟩
  refine List.forall_mem_cons.mpr ⟨so_iadd dX7_advances_19 rfl, ?_⟩
  refine List.forall_mem_cons.mpr ⟨so_pI (C := RX7) (T := TX7) (N := 29) dX7_advances_20 (by decide) rfl rfl (by decide) rfl in_X7 wf_X7_73 tyX7 tyX7_ok nmX7 rfl (by decide +kernel) rfl, ?_⟩
  refine List.forall_mem_cons.mpr ⟨so_goto dX7_advances_23 (by decide), ?_⟩
  refine List.forall_mem_cons.mpr ⟨so_aload_n dX7_advances_26 rfl rfl, ?_⟩
  refine List.forall_mem_cons.mpr ⟨so_aload_n dX7_advances_27 rfl rfl, ?_⟩
  refine List.forall_mem_cons.mpr ⟨so_gI (C := RX7) (T := TX7) (N := 29) dX7_advances_28 (by decide) rfl rfl (by decide) rfl in_X7 wf_X7_73 rfl, ?_⟩
  refine List.forall_mem_cons.mpr ⟨so_pI (C := RX7) (T := TX7) (N := 29) dX7_advances_31 (by decide) rfl rfl (by decide) rfl in_X7 wf_X7_80 tyX7 tyX7_ok nmX7 rfl (by decide +kernel) rfl, ?_⟩
  refine List.forall_mem_cons.mpr ⟨so_aload_n dX7_advances_34 rfl rfl, ?_⟩
  refine List.forall_mem_cons.mpr ⟨so_aload_n dX7_advances_35 rfl rfl, ?_⟩
  refine List.forall_mem_cons.mpr ⟨so_gI (C := RX7) (T := TX7) (N := 29) dX7_advances_36 (by decide) rfl rfl (by decide) rfl in_X7 wf_X7_73 rfl, ?_⟩
  refine List.forall_mem_cons.mpr ⟨so_cv (T := TX7) (N := 29) dX7_advances_39 mv_X7_letterAt wm_X7_76 (by decide) rfl ⟨rfl, rfl⟩ (by decide) rfl, ?_⟩
  refine List.forall_mem_cons.mpr ⟨so_istore_n dX7_advances_42 rfl rfl, ?_⟩
  refine List.forall_mem_cons.mpr ⟨so_iload_n dX7_advances_43 rfl rfl, ?_⟩
  refine List.forall_mem_cons.mpr ⟨so_if_ge dX7_advances_44 (by decide) rfl, ?_⟩
  refine List.forall_mem_cons.mpr ⟨so_aload_n dX7_advances_47 rfl rfl, ?_⟩
  refine List.forall_mem_cons.mpr ⟨so_iconst dX7_advances_48 (by decide) rfl, ?_⟩
  refine List.forall_mem_cons.mpr ⟨so_pI (C := RX7) (T := TX7) (N := 29) dX7_advances_49 (by decide) rfl rfl (by decide) rfl in_X7 wf_X7_83 tyX7 tyX7_ok nmX7 rfl (by decide +kernel) rfl, ?_⟩
  refine List.forall_mem_cons.mpr ⟨so_goto dX7_advances_52 (by decide), ?_⟩
  refine List.forall_mem_cons.mpr ⟨so_iload_n dX7_advances_55 rfl rfl, ?_⟩
  refine List.forall_mem_cons.mpr ⟨so_bipush dX7_advances_56 (by decide) rfl, ?_⟩
  refine List.forall_mem_cons.mpr ⟨so_bipush dX7_advances_58 (by decide) rfl, ?_⟩
  refine List.forall_mem_cons.mpr ⟨so_cs dX7_advances_60 mv_X7_in wm_X7_66 ⟨rfl, rfl⟩ (by decide) rfl, ?_⟩
  refine List.forall_mem_cons.mpr ⟨so_if_eq dX7_advances_63 (by decide) rfl, ?_⟩
  refine List.forall_mem_cons.mpr ⟨so_aload_n dX7_advances_66 rfl rfl, ?_⟩
  refine List.forall_mem_cons.mpr ⟨so_iconst dX7_advances_67 (by decide) rfl, ?_⟩
  refine List.forall_mem_cons.mpr ⟨so_pI (C := RX7) (T := TX7) (N := 29) dX7_advances_68 (by decide) rfl rfl (by decide) rfl in_X7 wf_X7_86 tyX7 tyX7_ok nmX7 rfl (by decide +kernel) rfl, ?_⟩
  refine List.forall_mem_cons.mpr ⟨so_aload_n dX7_advances_71 rfl rfl, ?_⟩
  refine List.forall_mem_cons.mpr ⟨so_aload_n dX7_advances_72 rfl rfl, ?_⟩
  refine List.forall_mem_cons.mpr ⟨so_gI (C := RX7) (T := TX7) (N := 29) dX7_advances_73 (by decide) rfl rfl (by decide) rfl in_X7 wf_X7_73 rfl, ?_⟩
  refine List.forall_mem_cons.mpr ⟨so_cv (T := TX7) (N := 29) dX7_advances_76 mv_X7_letterAt wm_X7_76 (by decide) rfl ⟨rfl, rfl⟩ (by decide) rfl, ?_⟩
  refine List.forall_mem_cons.mpr ⟨so_bipush dX7_advances_79 (by decide) rfl, ?_⟩
  refine List.forall_mem_cons.mpr ⟨so_bipush dX7_advances_81 (by decide) rfl, ?_⟩
  refine List.forall_mem_cons.mpr ⟨so_cs dX7_advances_83 mv_X7_in wm_X7_66 ⟨rfl, rfl⟩ (by decide) rfl, ?_⟩
  refine List.forall_mem_cons.mpr ⟨so_if_eq dX7_advances_86 (by decide) rfl, ?_⟩
  refine List.forall_mem_cons.mpr ⟨so_aload_n dX7_advances_89 rfl rfl, ?_⟩
  refine List.forall_mem_cons.mpr ⟨so_aload_n dX7_advances_90 rfl rfl, ?_⟩
  refine List.forall_mem_cons.mpr ⟨so_gI (C := RX7) (T := TX7) (N := 29) dX7_advances_91 (by decide) rfl rfl (by decide) rfl in_X7 wf_X7_86 rfl, ?_⟩
  refine List.forall_mem_cons.mpr ⟨so_bipush dX7_advances_94 (by decide) rfl, ?_⟩
  refine List.forall_mem_cons.mpr ⟨so_icmp_le dX7_advances_96 (by decide) rfl, ?_⟩
  refine List.forall_mem_cons.mpr ⟨so_aload_n dX7_advances_99 rfl rfl, ?_⟩
  refine List.forall_mem_cons.mpr ⟨so_gI (C := RX7) (T := TX7) (N := 29) dX7_advances_100 (by decide) rfl rfl (by decide) rfl in_X7 wf_X7_86 rfl, ?_⟩
  refine List.forall_mem_cons.mpr ⟨so_goto dX7_advances_103 (by decide), ?_⟩
  refine List.forall_mem_cons.mpr ⟨so_bipush dX7_advances_106 (by decide) rfl, ?_⟩
  refine List.forall_mem_cons.mpr ⟨so_aload_n dX7_advances_108 rfl rfl, ?_⟩
  refine List.forall_mem_cons.mpr ⟨so_gI (C := RX7) (T := TX7) (N := 29) dX7_advances_109 (by decide) rfl rfl (by decide) rfl in_X7 wf_X7_86 rfl, ?_⟩
  refine List.forall_mem_cons.mpr ⟨so_imul dX7_advances_112 rfl, ?_⟩
  refine List.forall_mem_cons.mpr ⟨so_aload_n dX7_advances_113 rfl rfl, ?_⟩
  refine List.forall_mem_cons.mpr ⟨so_aload_n dX7_advances_114 rfl rfl, ?_⟩
  refine List.forall_mem_cons.mpr ⟨so_gI (C := RX7) (T := TX7) (N := 29) dX7_advances_115 (by decide) rfl rfl (by decide) rfl in_X7 wf_X7_73 rfl, ?_⟩
  refine List.forall_mem_cons.mpr ⟨so_cv (T := TX7) (N := 29) dX7_advances_118 mv_X7_letterAt wm_X7_76 (by decide) rfl ⟨rfl, rfl⟩ (by decide) rfl, ?_⟩
  refine List.forall_mem_cons.mpr ⟨so_iadd dX7_advances_121 rfl, ?_⟩
  refine List.forall_mem_cons.mpr ⟨so_bipush dX7_advances_122 (by decide) rfl, ?_⟩
  refine List.forall_mem_cons.mpr ⟨so_isub dX7_advances_124 rfl, ?_⟩
  refine List.forall_mem_cons.mpr ⟨so_pI (C := RX7) (T := TX7) (N := 29) dX7_advances_125 (by decide) rfl rfl (by decide) rfl in_X7 wf_X7_86 tyX7 tyX7_ok nmX7 rfl (by decide +kernel) rfl, ?_⟩
  refine List.forall_mem_cons.mpr ⟨so_aload_n dX7_advances_128 rfl rfl, ?_⟩
  refine List.forall_mem_cons.mpr ⟨so_dup dX7_advances_129 rfl, ?_⟩
  refine List.forall_mem_cons.mpr ⟨so_gI (C := RX7) (T := TX7) (N := 29) dX7_advances_130 (by decide) rfl rfl (by decide) rfl in_X7 wf_X7_73 rfl, ?_⟩
  refine List.forall_mem_cons.mpr ⟨so_iconst dX7_advances_133 (by decide) rfl, ?_⟩
  refine List.forall_mem_cons.mpr ⟨so_iadd dX7_advances_134 rfl, ?_⟩
  refine List.forall_mem_cons.mpr ⟨so_pI (C := RX7) (T := TX7) (N := 29) dX7_advances_135 (by decide) rfl rfl (by decide) rfl in_X7 wf_X7_73 tyX7 tyX7_ok nmX7 rfl (by decide +kernel) rfl, ?_⟩
  refine List.forall_mem_cons.mpr ⟨so_goto dX7_advances_138 (by decide), ?_⟩
  refine List.forall_mem_cons.mpr ⟨so_aload_n dX7_advances_141 rfl rfl, ?_⟩
  refine List.forall_mem_cons.mpr ⟨so_aload_n dX7_advances_142 rfl rfl, ?_⟩
  refine List.forall_mem_cons.mpr ⟨so_gI (C := RX7) (T := TX7) (N := 29) dX7_advances_143 (by decide) rfl rfl (by decide) rfl in_X7 wf_X7_86 rfl, ?_⟩
  refine List.forall_mem_cons.mpr ⟨so_bipush dX7_advances_146 (by decide) rfl, ?_⟩
  refine List.forall_mem_cons.mpr ⟨so_icmp_gt dX7_advances_148 (by decide) rfl, ?_⟩
  refine List.forall_mem_cons.mpr ⟨so_iload_n dX7_advances_151 rfl rfl, ?_⟩
  refine List.forall_mem_cons.mpr ⟨so_bipush dX7_advances_152 (by decide) rfl, ?_⟩
  refine List.forall_mem_cons.mpr ⟨so_icmp_ne dX7_advances_154 (by decide) rfl, ?_⟩
  refine List.forall_mem_cons.mpr ⟨so_aload_n dX7_advances_157 rfl rfl, ?_⟩
  refine List.forall_mem_cons.mpr ⟨so_gI (C := RX7) (T := TX7) (N := 29) dX7_advances_158 (by decide) rfl rfl (by decide) rfl in_X7 wf_X7_73 rfl, ?_⟩
  refine List.forall_mem_cons.mpr ⟨so_aload_n dX7_advances_161 rfl rfl, ?_⟩
  refine List.forall_mem_cons.mpr ⟨so_gI (C := RX7) (T := TX7) (N := 29) dX7_advances_162 (by decide) rfl rfl (by decide) rfl in_X7 wf_X7_80 rfl, ?_⟩
  refine List.forall_mem_cons.mpr ⟨so_isub dX7_advances_165 rfl, ?_⟩
  refine List.forall_mem_cons.mpr ⟨so_iconst dX7_advances_166 (by decide) rfl, ?_⟩
  refine List.forall_mem_cons.mpr ⟨so_icmp_le dX7_advances_167 (by decide) rfl, ?_⟩
  refine List.forall_mem_cons.mpr ⟨so_iconst dX7_advances_170 (by decide) rfl, ?_⟩
  refine List.forall_mem_cons.mpr ⟨so_goto dX7_advances_171 (by decide), ?_⟩
  refine List.forall_mem_cons.mpr ⟨so_iconst dX7_advances_174 (by decide) rfl, ?_⟩
  refine List.forall_mem_cons.mpr ⟨so_pI (C := RX7) (T := TX7) (N := 29) dX7_advances_175 (by decide) rfl rfl (by decide) rfl in_X7 wf_X7_83 tyX7 tyX7_ok nmX7 rfl (by decide +kernel) rfl, ?_⟩
  refine List.forall_mem_cons.mpr ⟨so_goto dX7_advances_178 (by decide), ?_⟩
  refine List.forall_mem_cons.mpr ⟨so_aload_n dX7_advances_181 rfl rfl, ?_⟩
  refine List.forall_mem_cons.mpr ⟨so_dup dX7_advances_182 rfl, ?_⟩
  refine List.forall_mem_cons.mpr ⟨so_gI (C := RX7) (T := TX7) (N := 29) dX7_advances_183 (by decide) rfl rfl (by decide) rfl in_X7 wf_X7_73 rfl, ?_⟩
  refine List.forall_mem_cons.mpr ⟨so_iconst dX7_advances_186 (by decide) rfl, ?_⟩
  refine List.forall_mem_cons.mpr ⟨so_iadd dX7_advances_187 rfl, ?_⟩
  refine List.forall_mem_cons.mpr ⟨so_pI (C := RX7) (T := TX7) (N := 29) dX7_advances_188 (by decide) rfl rfl (by decide) rfl in_X7 wf_X7_73 tyX7 tyX7_ok nmX7 rfl (by decide +kernel) rfl, ?_⟩
  refine List.forall_mem_cons.mpr ⟨so_aload_n dX7_advances_191 rfl rfl, ?_⟩
  refine List.forall_mem_cons.mpr ⟨so_iload_n dX7_advances_192 rfl rfl, ?_⟩
  refine List.forall_mem_cons.mpr ⟨so_pI (C := RX7) (T := TX7) (N := 29) dX7_advances_193 (by decide) rfl rfl (by decide) rfl in_X7 wf_X7_86 tyX7 tyX7_ok nmX7 rfl (by decide +kernel) rfl, ?_⟩
  refine List.forall_mem_cons.mpr ⟨so_aload_n dX7_advances_196 rfl rfl, ?_⟩
  refine List.forall_mem_cons.mpr ⟨so_iload_n dX7_advances_197 rfl rfl, ?_⟩
  refine List.forall_mem_cons.mpr ⟨so_bipush dX7_advances_198 (by decide) rfl, ?_⟩
  refine List.forall_mem_cons.mpr ⟨so_icmp_ne dX7_advances_200 (by decide) rfl, ?_⟩
  refine List.forall_mem_cons.mpr ⟨so_iconst dX7_advances_203 (by decide) rfl, ?_⟩
  refine List.forall_mem_cons.mpr ⟨so_goto dX7_advances_204 (by decide), ?_⟩
  refine List.forall_mem_cons.mpr ⟨so_iload_n dX7_advances_207 rfl rfl, ?_⟩
  refine List.forall_mem_cons.mpr ⟨so_bipush dX7_advances_208 (by decide) rfl, ?_⟩
  refine List.forall_mem_cons.mpr ⟨so_icmp_eq dX7_advances_210 (by decide) rfl, ?_⟩
  refine List.forall_mem_cons.mpr ⟨so_iload_n dX7_advances_213 rfl rfl, ?_⟩
  refine List.forall_mem_cons.mpr ⟨so_bipush dX7_advances_214 (by decide) rfl, ?_⟩
  refine List.forall_mem_cons.mpr ⟨so_icmp_eq dX7_advances_216 (by decide) rfl, ?_⟩
  refine List.forall_mem_cons.mpr ⟨so_iload_n dX7_advances_219 rfl rfl, ?_⟩
  refine List.forall_mem_cons.mpr ⟨so_bipush dX7_advances_220 (by decide) rfl, ?_⟩
  refine List.forall_mem_cons.mpr ⟨so_icmp_eq dX7_advances_222 (by decide) rfl, ?_⟩
  refine List.forall_mem_cons.mpr ⟨so_iload_n dX7_advances_225 rfl rfl, ?_⟩
  refine List.forall_mem_cons.mpr ⟨so_bipush dX7_advances_226 (by decide) rfl, ?_⟩
  refine List.forall_mem_cons.mpr ⟨so_icmp_ne dX7_advances_228 (by decide) rfl, ?_⟩
  refine List.forall_mem_cons.mpr ⟨so_iconst dX7_advances_231 (by decide) rfl, ?_⟩
  refine List.forall_mem_cons.mpr ⟨so_goto dX7_advances_232 (by decide), ?_⟩
  refine List.forall_mem_cons.mpr ⟨so_iconst dX7_advances_235 (by decide) rfl, ?_⟩
  refine List.forall_mem_cons.mpr ⟨so_pI (C := RX7) (T := TX7) (N := 29) dX7_advances_236 (by decide) rfl rfl (by decide) rfl in_X7 wf_X7_83 tyX7 tyX7_ok nmX7 rfl (by decide +kernel) rfl, ?_⟩
  refine List.forall_mem_cons.mpr ⟨so_rV dX7_advances_239 rfl, ?_⟩
  exact fun _ h => absurd h List.not_mem_nil
theorem dX7_isWell_0 : decode cX7_isWell 0 = .ok (.aload_n 0, 1) := by decide +kernel
theorem dX7_isWell_1 : decode cX7_isWell 1 = .ok (.getfield 89, 3) := by decide +kernel
theorem dX7_isWell_4 : decode cX7_isWell 4 = .ok (.ifCond .ge 7, 3) := by decide +kernel
theorem dX7_isWell_7 : decode cX7_isWell 7 = .ok (.iconst 1, 1) := by decide +kernel
theorem dX7_isWell_8 : decode cX7_isWell 8 = .ok (.goto 4, 3) := by decide +kernel
theorem dX7_isWell_11 : decode cX7_isWell 11 = .ok (.iconst 0, 1) := by decide +kernel
theorem dX7_isWell_12 : decode cX7_isWell 12 = .ok (.ireturn, 1) := by decide +kernel
def T_X7_isWell : tk_Tb := [(0, tk_al 0 1), (1, tk_gI 7 8 4), (4, tk_br (fun x => 0 ≤ x) 11 7), (7, tk_ic (1) 8), (8, tk_jmp 12), (11, tk_ic (0) 12), (12, tk_rZ)]
set_option maxRecDepth 100000 in
theorem hT_X7_isWell (sc : Option (Nat × (Nat → Int32))) : ∀ x ∈ T_X7_isWell, tk_So sc M_X7_isWell x.1 x.2 := by
  unfold T_X7_isWell
  refine List.forall_mem_cons.mpr ⟨so_aload_n dX7_isWell_0 rfl rfl, ?_⟩
  refine List.forall_mem_cons.mpr ⟨so_gI (C := RX7) (T := TX7) (N := 29) dX7_isWell_1 (by decide) rfl rfl (by decide) rfl in_X7 wf_X7_89 rfl, ?_⟩
  refine List.forall_mem_cons.mpr ⟨so_if_ge dX7_isWell_4 (by decide) rfl, ?_⟩
  refine List.forall_mem_cons.mpr ⟨so_iconst dX7_isWell_7 (by decide) rfl, ?_⟩
  refine List.forall_mem_cons.mpr ⟨so_goto dX7_isWell_8 (by decide), ?_⟩
  refine List.forall_mem_cons.mpr ⟨so_iconst dX7_isWell_11 (by decide) rfl, ?_⟩
  refine List.forall_mem_cons.mpr ⟨so_rZ dX7_isWell_12 rfl, ?_⟩
  exact fun _ h => absurd h List.not_mem_nil
theorem dX7_takes_0 : decode cX7_takes 0 = .ok (.aload_n 0, 1) := by decide +kernel
theorem dX7_takes_1 : decode cX7_takes 1 = .ok (.invokevirtual 92, 3) := by decide +kernel
theorem dX7_takes_4 : decode cX7_takes 4 = .ok (.ifCond .ne 5, 3) := by decide +kernel
theorem dX7_takes_7 : decode cX7_takes 7 = .ok (.iconst 0, 1) := by decide +kernel
theorem dX7_takes_8 : decode cX7_takes 8 = .ok (.ireturn, 1) := by decide +kernel
theorem dX7_takes_9 : decode cX7_takes 9 = .ok (.iload_n 1, 1) := by decide +kernel
theorem dX7_takes_10 : decode cX7_takes 10 = .ok (.ifCond .ne 13, 3) := by decide +kernel
theorem dX7_takes_13 : decode cX7_takes 13 = .ok (.aload_n 0, 1) := by decide +kernel
theorem dX7_takes_14 : decode cX7_takes 14 = .ok (.aload_n 0, 1) := by decide +kernel
theorem dX7_takes_15 : decode cX7_takes 15 = .ok (.getfield 80, 3) := by decide +kernel
theorem dX7_takes_18 : decode cX7_takes 18 = .ok (.putfield 89, 3) := by decide +kernel
theorem dX7_takes_21 : decode cX7_takes 21 = .ok (.iconst 0, 1) := by decide +kernel
theorem dX7_takes_22 : decode cX7_takes 22 = .ok (.ireturn, 1) := by decide +kernel
theorem dX7_takes_23 : decode cX7_takes 23 = .ok (.aload_n 0, 1) := by decide +kernel
theorem dX7_takes_24 : decode cX7_takes 24 = .ok (.getfield 86, 3) := by decide +kernel
theorem dX7_takes_27 : decode cX7_takes 27 = .ok (.istore_n 2, 1) := by decide +kernel
theorem dX7_takes_28 : decode cX7_takes 28 = .ok (.aload_n 0, 1) := by decide +kernel
theorem dX7_takes_29 : decode cX7_takes 29 = .ok (.invokevirtual 96, 3) := by decide +kernel
theorem dX7_takes_32 : decode cX7_takes 32 = .ok (.iload_n 2, 1) := by decide +kernel
theorem dX7_takes_33 : decode cX7_takes 33 = .ok (.ireturn, 1) := by decide +kernel
def T_X7_takes : tk_Tb := [(0, tk_al 0 1), (1, tk_cv 7 M_X7_isWell 0 4), (4, tk_br (fun x => x = 0) 7 9), (7, tk_ic (0) 8), (8, tk_rI), (9, tk_il 1 10), (10, tk_br (fun x => x = 0) 13 23), (13, tk_al 0 14), (14, tk_al 0 15), (15, tk_gI 7 6 18), (18, tk_pI 7 8 21), (21, tk_ic (0) 22), (22, tk_rI), (23, tk_al 0 24), (24, tk_gI 7 7 27), (27, tk_sI 2 28), (28, tk_al 0 29), (29, tk_cv 7 M_X7_advances 0 32), (32, tk_il 2 33), (33, tk_rI)]
set_option maxRecDepth 100000 in
theorem hT_X7_takes (sc : Option (Nat × (Nat → Int32))) : ∀ x ∈ T_X7_takes, tk_So sc M_X7_takes x.1 x.2 := by
  unfold T_X7_takes
  refine List.forall_mem_cons.mpr ⟨so_aload_n dX7_takes_0 rfl rfl, ?_⟩
  refine List.forall_mem_cons.mpr ⟨so_cv (T := TX7) (N := 29) dX7_takes_1 mv_X7_isWell wm_X7_92 (by decide) rfl ⟨rfl, rfl⟩ (by decide) rfl, ?_⟩
  refine List.forall_mem_cons.mpr ⟨so_if_ne dX7_takes_4 (by decide) rfl, ?_⟩
  refine List.forall_mem_cons.mpr ⟨so_iconst dX7_takes_7 (by decide) rfl, ?_⟩
  refine List.forall_mem_cons.mpr ⟨so_rI dX7_takes_8 rfl, ?_⟩
  refine List.forall_mem_cons.mpr ⟨so_iload_n dX7_takes_9 rfl rfl, ?_⟩
  refine List.forall_mem_cons.mpr ⟨so_if_ne dX7_takes_10 (by decide) rfl, ?_⟩
  refine List.forall_mem_cons.mpr ⟨so_aload_n dX7_takes_13 rfl rfl, ?_⟩
  refine List.forall_mem_cons.mpr ⟨so_aload_n dX7_takes_14 rfl rfl, ?_⟩
  refine List.forall_mem_cons.mpr ⟨so_gI (C := RX7) (T := TX7) (N := 29) dX7_takes_15 (by decide) rfl rfl (by decide) rfl in_X7 wf_X7_80 rfl, ?_⟩
  refine List.forall_mem_cons.mpr ⟨so_pI (C := RX7) (T := TX7) (N := 29) dX7_takes_18 (by decide) rfl rfl (by decide) rfl in_X7 wf_X7_89 tyX7 tyX7_ok nmX7 rfl (by decide +kernel) rfl, ?_⟩
  refine List.forall_mem_cons.mpr ⟨so_iconst dX7_takes_21 (by decide) rfl, ?_⟩
  refine List.forall_mem_cons.mpr ⟨so_rI dX7_takes_22 rfl, ?_⟩
  refine List.forall_mem_cons.mpr ⟨so_aload_n dX7_takes_23 rfl rfl, ?_⟩
  refine List.forall_mem_cons.mpr ⟨so_gI (C := RX7) (T := TX7) (N := 29) dX7_takes_24 (by decide) rfl rfl (by decide) rfl in_X7 wf_X7_86 rfl, ?_⟩
  refine List.forall_mem_cons.mpr ⟨so_istore_n dX7_takes_27 rfl rfl, ?_⟩
  refine List.forall_mem_cons.mpr ⟨so_aload_n dX7_takes_28 rfl rfl, ?_⟩
  refine List.forall_mem_cons.mpr ⟨so_cv (T := TX7) (N := 29) dX7_takes_29 mv_X7_advances wm_X7_96 (by decide) rfl ⟨rfl, rfl⟩ (by decide) rfl, ?_⟩
  refine List.forall_mem_cons.mpr ⟨so_iload_n dX7_takes_32 rfl rfl, ?_⟩
  refine List.forall_mem_cons.mpr ⟨so_rI dX7_takes_33 rfl, ?_⟩
  exact fun _ h => absurd h List.not_mem_nil
theorem dX7_number_0 : decode cX7_number 0 = .ok (.aload_n 0, 1) := by decide +kernel
theorem dX7_number_1 : decode cX7_number 1 = .ok (.aload_n 0, 1) := by decide +kernel
theorem dX7_number_2 : decode cX7_number 2 = .ok (.getfield 83, 3) := by decide +kernel
theorem dX7_number_5 : decode cX7_number 5 = .ok (.iconst 2, 1) := by decide +kernel
theorem dX7_number_6 : decode cX7_number 6 = .ok (.if_icmp .ne 19, 3) := by decide +kernel
theorem dX7_number_9 : decode cX7_number 9 = .ok (.aload_n 0, 1) := by decide +kernel
theorem dX7_number_10 : decode cX7_number 10 = .ok (.getfield 86, 3) := by decide +kernel
theorem dX7_number_13 : decode cX7_number 13 = .ok (.iload_n 1, 1) := by decide +kernel
theorem dX7_number_14 : decode cX7_number 14 = .ok (.iload_n 2, 1) := by decide +kernel
theorem dX7_number_15 : decode cX7_number 15 = .ok (.invokestatic 66, 3) := by decide +kernel
theorem dX7_number_18 : decode cX7_number 18 = .ok (.ifCond .eq 7, 3) := by decide +kernel
theorem dX7_number_21 : decode cX7_number 21 = .ok (.iconst 1, 1) := by decide +kernel
theorem dX7_number_22 : decode cX7_number 22 = .ok (.goto 4, 3) := by decide +kernel
theorem dX7_number_25 : decode cX7_number 25 = .ok (.iconst 0, 1) := by decide +kernel
theorem dX7_number_26 : decode cX7_number 26 = .ok (.invokevirtual 99, 3) := by decide +kernel
theorem dX7_number_29 : decode cX7_number 29 = .ok (.ireturn, 1) := by decide +kernel
def T_X7_number : tk_Tb := [(0, tk_al 0 1), (1, tk_al 0 2), (2, tk_gI 7 5 5), (5, tk_ic (2) 6), (6, tk_cm (fun x y => x = y) 9 25), (9, tk_al 0 10), (10, tk_gI 7 7 13), (13, tk_il 1 14), (14, tk_il 2 15), (15, tk_cs M_X7_in 3 18), (18, tk_br (fun x => x = 0) 25 21), (21, tk_ic (1) 22), (22, tk_jmp 26), (25, tk_ic (0) 26), (26, tk_cv 7 M_X7_takes 1 29), (29, tk_rI)]
set_option maxRecDepth 100000 in
theorem hT_X7_number (sc : Option (Nat × (Nat → Int32))) : ∀ x ∈ T_X7_number, tk_So sc M_X7_number x.1 x.2 := by
  unfold T_X7_number
  refine List.forall_mem_cons.mpr ⟨so_aload_n dX7_number_0 rfl rfl, ?_⟩
  refine List.forall_mem_cons.mpr ⟨so_aload_n dX7_number_1 rfl rfl, ?_⟩
  refine List.forall_mem_cons.mpr ⟨so_gI (C := RX7) (T := TX7) (N := 29) dX7_number_2 (by decide) rfl rfl (by decide) rfl in_X7 wf_X7_83 rfl, ?_⟩
  refine List.forall_mem_cons.mpr ⟨so_iconst dX7_number_5 (by decide) rfl, ?_⟩
  refine List.forall_mem_cons.mpr ⟨so_icmp_ne dX7_number_6 (by decide) rfl, ?_⟩
  refine List.forall_mem_cons.mpr ⟨so_aload_n dX7_number_9 rfl rfl, ?_⟩
  refine List.forall_mem_cons.mpr ⟨so_gI (C := RX7) (T := TX7) (N := 29) dX7_number_10 (by decide) rfl rfl (by decide) rfl in_X7 wf_X7_86 rfl, ?_⟩
  refine List.forall_mem_cons.mpr ⟨so_iload_n dX7_number_13 rfl rfl, ?_⟩
  refine List.forall_mem_cons.mpr ⟨so_iload_n dX7_number_14 rfl rfl, ?_⟩
  refine List.forall_mem_cons.mpr ⟨so_cs dX7_number_15 mv_X7_in wm_X7_66 ⟨rfl, rfl⟩ (by decide) rfl, ?_⟩
  refine List.forall_mem_cons.mpr ⟨so_if_eq dX7_number_18 (by decide) rfl, ?_⟩
  refine List.forall_mem_cons.mpr ⟨so_iconst dX7_number_21 (by decide) rfl, ?_⟩
  refine List.forall_mem_cons.mpr ⟨so_goto dX7_number_22 (by decide), ?_⟩
  refine List.forall_mem_cons.mpr ⟨so_iconst dX7_number_25 (by decide) rfl, ?_⟩
  refine List.forall_mem_cons.mpr ⟨so_cv (T := TX7) (N := 29) dX7_number_26 mv_X7_takes wm_X7_99 (by decide) rfl ⟨rfl, rfl⟩ (by decide) rfl, ?_⟩
  refine List.forall_mem_cons.mpr ⟨so_rI dX7_number_29 rfl, ?_⟩
  exact fun _ h => absurd h List.not_mem_nil
theorem dX7_mayBegin_0 : decode cX7_mayBegin 0 = .ok (.aload_n 0, 1) := by decide +kernel
theorem dX7_mayBegin_1 : decode cX7_mayBegin 1 = .ok (.getfield 86, 3) := by decide +kernel
theorem dX7_mayBegin_4 : decode cX7_mayBegin 4 = .ok (.bipush 107, 2) := by decide +kernel
theorem dX7_mayBegin_6 : decode cX7_mayBegin 6 = .ok (.if_icmp .ne 20, 3) := by decide +kernel
theorem dX7_mayBegin_9 : decode cX7_mayBegin 9 = .ok (.aload_n 0, 1) := by decide +kernel
theorem dX7_mayBegin_10 : decode cX7_mayBegin 10 = .ok (.getfield 13, 3) := by decide +kernel
theorem dX7_mayBegin_13 : decode cX7_mayBegin 13 = .ok (.iconst 5, 1) := by decide +kernel
theorem dX7_mayBegin_14 : decode cX7_mayBegin 14 = .ok (.iaload, 1) := by decide +kernel
theorem dX7_mayBegin_15 : decode cX7_mayBegin 15 = .ok (.bipush 8, 2) := by decide +kernel
theorem dX7_mayBegin_17 : decode cX7_mayBegin 17 = .ok (.if_icmp .ge 7, 3) := by decide +kernel
theorem dX7_mayBegin_20 : decode cX7_mayBegin 20 = .ok (.iconst 1, 1) := by decide +kernel
theorem dX7_mayBegin_21 : decode cX7_mayBegin 21 = .ok (.goto 4, 3) := by decide +kernel
theorem dX7_mayBegin_24 : decode cX7_mayBegin 24 = .ok (.iconst 0, 1) := by decide +kernel
theorem dX7_mayBegin_25 : decode cX7_mayBegin 25 = .ok (.ireturn, 1) := by decide +kernel
theorem dX7_mayBegin_26 : decode cX7_mayBegin 26 = .ok (.aload_n 0, 1) := by decide +kernel
theorem dX7_mayBegin_27 : decode cX7_mayBegin 27 = .ok (.getfield 86, 3) := by decide +kernel
theorem dX7_mayBegin_30 : decode cX7_mayBegin 30 = .ok (.bipush 116, 2) := by decide +kernel
theorem dX7_mayBegin_32 : decode cX7_mayBegin 32 = .ok (.if_icmp .ne 22, 3) := by decide +kernel
theorem dX7_mayBegin_35 : decode cX7_mayBegin 35 = .ok (.aload_n 0, 1) := by decide +kernel
theorem dX7_mayBegin_36 : decode cX7_mayBegin 36 = .ok (.getfield 13, 3) := by decide +kernel
theorem dX7_mayBegin_39 : decode cX7_mayBegin 39 = .ok (.bipush 6, 2) := by decide +kernel
theorem dX7_mayBegin_41 : decode cX7_mayBegin 41 = .ok (.iaload, 1) := by decide +kernel
theorem dX7_mayBegin_42 : decode cX7_mayBegin 42 = .ok (.iconst 5, 1) := by decide +kernel
theorem dX7_mayBegin_43 : decode cX7_mayBegin 43 = .ok (.if_icmp .ge 7, 3) := by decide +kernel
theorem dX7_mayBegin_46 : decode cX7_mayBegin 46 = .ok (.iconst 1, 1) := by decide +kernel
theorem dX7_mayBegin_47 : decode cX7_mayBegin 47 = .ok (.goto 28, 3) := by decide +kernel
theorem dX7_mayBegin_50 : decode cX7_mayBegin 50 = .ok (.iconst 0, 1) := by decide +kernel
theorem dX7_mayBegin_51 : decode cX7_mayBegin 51 = .ok (.goto 24, 3) := by decide +kernel
theorem dX7_mayBegin_54 : decode cX7_mayBegin 54 = .ok (.aload_n 0, 1) := by decide +kernel
theorem dX7_mayBegin_55 : decode cX7_mayBegin 55 = .ok (.getfield 86, 3) := by decide +kernel
theorem dX7_mayBegin_58 : decode cX7_mayBegin 58 = .ok (.bipush 100, 2) := by decide +kernel
theorem dX7_mayBegin_60 : decode cX7_mayBegin 60 = .ok (.if_icmp .eq 10, 3) := by decide +kernel
theorem dX7_mayBegin_63 : decode cX7_mayBegin 63 = .ok (.aload_n 0, 1) := by decide +kernel
theorem dX7_mayBegin_64 : decode cX7_mayBegin 64 = .ok (.getfield 103, 3) := by decide +kernel
theorem dX7_mayBegin_67 : decode cX7_mayBegin 67 = .ok (.ifCond .ne 7, 3) := by decide +kernel
theorem dX7_mayBegin_70 : decode cX7_mayBegin 70 = .ok (.iconst 1, 1) := by decide +kernel
theorem dX7_mayBegin_71 : decode cX7_mayBegin 71 = .ok (.goto 4, 3) := by decide +kernel
theorem dX7_mayBegin_74 : decode cX7_mayBegin 74 = .ok (.iconst 0, 1) := by decide +kernel
theorem dX7_mayBegin_75 : decode cX7_mayBegin 75 = .ok (.ireturn, 1) := by decide +kernel
def T_X7_mayBegin : tk_Tb := [(0, tk_al 0 1), (1, tk_gI 7 7 4), (4, tk_ic (107) 6), (6, tk_cm (fun x y => x = y) 9 26), (9, tk_al 0 10), (10, tk_gR 7 9 13), (13, tk_ic (5) 14), (14, tk_ai 9 15), (15, tk_ic (8) 17), (17, tk_cm (fun x y => y ≤ x) 24 20), (20, tk_ic (1) 21), (21, tk_jmp 25), (24, tk_ic (0) 25), (25, tk_rZ), (26, tk_al 0 27), (27, tk_gI 7 7 30), (30, tk_ic (116) 32), (32, tk_cm (fun x y => x = y) 35 54), (35, tk_al 0 36), (36, tk_gR 7 9 39), (39, tk_ic (6) 41), (41, tk_ai 9 42), (42, tk_ic (5) 43), (43, tk_cm (fun x y => y ≤ x) 50 46), (46, tk_ic (1) 47), (47, tk_jmp 75), (50, tk_ic (0) 51), (51, tk_jmp 75), (54, tk_al 0 55), (55, tk_gI 7 7 58), (58, tk_ic (100) 60), (60, tk_cm (fun x y => x = y) 70 63), (63, tk_al 0 64), (64, tk_gI 7 10 67), (67, tk_br (fun x => x = 0) 70 74), (70, tk_ic (1) 71), (71, tk_jmp 75), (74, tk_ic (0) 75), (75, tk_rZ)]
set_option maxRecDepth 100000 in
theorem hT_X7_mayBegin (sc : Option (Nat × (Nat → Int32))) : ∀ x ∈ T_X7_mayBegin, tk_So sc M_X7_mayBegin x.1 x.2 := by
  unfold T_X7_mayBegin
  refine List.forall_mem_cons.mpr ⟨so_aload_n dX7_mayBegin_0 rfl rfl, ?_⟩
  refine List.forall_mem_cons.mpr ⟨so_gI (C := RX7) (T := TX7) (N := 29) dX7_mayBegin_1 (by decide) rfl rfl (by decide) rfl in_X7 wf_X7_86 rfl, ?_⟩
  refine List.forall_mem_cons.mpr ⟨so_bipush dX7_mayBegin_4 (by decide) rfl, ?_⟩
  refine List.forall_mem_cons.mpr ⟨so_icmp_ne dX7_mayBegin_6 (by decide) rfl, ?_⟩
  refine List.forall_mem_cons.mpr ⟨so_aload_n dX7_mayBegin_9 rfl rfl, ?_⟩
  refine List.forall_mem_cons.mpr ⟨so_gR (C := RX7) (T := TX7) (N := 29) dX7_mayBegin_10 (by decide) rfl rfl (by decide) rfl in_X7 wf_X7_13 rfl, ?_⟩
  refine List.forall_mem_cons.mpr ⟨so_iconst dX7_mayBegin_13 (by decide) rfl, ?_⟩
  refine List.forall_mem_cons.mpr ⟨so_iaload dX7_mayBegin_14 rfl, ?_⟩
  refine List.forall_mem_cons.mpr ⟨so_bipush dX7_mayBegin_15 (by decide) rfl, ?_⟩
  refine List.forall_mem_cons.mpr ⟨so_icmp_ge dX7_mayBegin_17 (by decide) rfl, ?_⟩
  refine List.forall_mem_cons.mpr ⟨so_iconst dX7_mayBegin_20 (by decide) rfl, ?_⟩
  refine List.forall_mem_cons.mpr ⟨so_goto dX7_mayBegin_21 (by decide), ?_⟩
  refine List.forall_mem_cons.mpr ⟨so_iconst dX7_mayBegin_24 (by decide) rfl, ?_⟩
  refine List.forall_mem_cons.mpr ⟨so_rZ dX7_mayBegin_25 rfl, ?_⟩
  refine List.forall_mem_cons.mpr ⟨so_aload_n dX7_mayBegin_26 rfl rfl, ?_⟩
  refine List.forall_mem_cons.mpr ⟨so_gI (C := RX7) (T := TX7) (N := 29) dX7_mayBegin_27 (by decide) rfl rfl (by decide) rfl in_X7 wf_X7_86 rfl, ?_⟩
  refine List.forall_mem_cons.mpr ⟨so_bipush dX7_mayBegin_30 (by decide) rfl, ?_⟩
  refine List.forall_mem_cons.mpr ⟨so_icmp_ne dX7_mayBegin_32 (by decide) rfl, ?_⟩
  refine List.forall_mem_cons.mpr ⟨so_aload_n dX7_mayBegin_35 rfl rfl, ?_⟩
  refine List.forall_mem_cons.mpr ⟨so_gR (C := RX7) (T := TX7) (N := 29) dX7_mayBegin_36 (by decide) rfl rfl (by decide) rfl in_X7 wf_X7_13 rfl, ?_⟩
  refine List.forall_mem_cons.mpr ⟨so_bipush dX7_mayBegin_39 (by decide) rfl, ?_⟩
  refine List.forall_mem_cons.mpr ⟨so_iaload dX7_mayBegin_41 rfl, ?_⟩
  refine List.forall_mem_cons.mpr ⟨so_iconst dX7_mayBegin_42 (by decide) rfl, ?_⟩
  refine List.forall_mem_cons.mpr ⟨so_icmp_ge dX7_mayBegin_43 (by decide) rfl, ?_⟩
  refine List.forall_mem_cons.mpr ⟨so_iconst dX7_mayBegin_46 (by decide) rfl, ?_⟩
  refine List.forall_mem_cons.mpr ⟨so_goto dX7_mayBegin_47 (by decide), ?_⟩
  refine List.forall_mem_cons.mpr ⟨so_iconst dX7_mayBegin_50 (by decide) rfl, ?_⟩
  refine List.forall_mem_cons.mpr ⟨so_goto dX7_mayBegin_51 (by decide), ?_⟩
  refine List.forall_mem_cons.mpr ⟨so_aload_n dX7_mayBegin_54 rfl rfl, ?_⟩
  refine List.forall_mem_cons.mpr ⟨so_gI (C := RX7) (T := TX7) (N := 29) dX7_mayBegin_55 (by decide) rfl rfl (by decide) rfl in_X7 wf_X7_86 rfl, ?_⟩
  refine List.forall_mem_cons.mpr ⟨so_bipush dX7_mayBegin_58 (by decide) rfl, ?_⟩
  refine List.forall_mem_cons.mpr ⟨so_icmp_eq dX7_mayBegin_60 (by decide) rfl, ?_⟩
  refine List.forall_mem_cons.mpr ⟨so_aload_n dX7_mayBegin_63 rfl rfl, ?_⟩
  refine List.forall_mem_cons.mpr ⟨so_gI (C := RX7) (T := TX7) (N := 29) dX7_mayBegin_64 (by decide) rfl rfl (by decide) rfl in_X7 wf_X7_103 rfl, ?_⟩
  refine List.forall_mem_cons.mpr ⟨so_if_ne dX7_mayBegin_67 (by decide) rfl, ?_⟩
  refine List.forall_mem_cons.mpr ⟨so_iconst dX7_mayBegin_70 (by decide) rfl, ?_⟩
  refine List.forall_mem_cons.mpr ⟨so_goto dX7_mayBegin_71 (by decide), ?_⟩
  refine List.forall_mem_cons.mpr ⟨so_iconst dX7_mayBegin_74 (by decide) rfl, ?_⟩
  refine List.forall_mem_cons.mpr ⟨so_rZ dX7_mayBegin_75 rfl, ?_⟩
  exact fun _ h => absurd h List.not_mem_nil
theorem dX7_readsItem_0 : decode cX7_readsItem 0 = .ok (.aload_n 0, 1) := by decide +kernel
theorem dX7_readsItem_1 : decode cX7_readsItem 1 = .ok (.getfield 13, 3) := by decide +kernel
theorem dX7_readsItem_4 : decode cX7_readsItem 4 = .ok (.iconst 5, 1) := by decide +kernel
theorem dX7_readsItem_5 : decode cX7_readsItem 5 = .ok (.iaload, 1) := by decide +kernel
theorem dX7_readsItem_6 : decode cX7_readsItem 6 = .ok (.iconst 1, 1) := by decide +kernel
theorem dX7_readsItem_7 : decode cX7_readsItem 7 = .ok (.isub, 1) := by decide +kernel
theorem dX7_readsItem_8 : decode cX7_readsItem 8 = .ok (.istore_n 2, 1) := by decide +kernel
theorem dX7_readsItem_9 : decode cX7_readsItem 9 = .ok (.iload_n 1, 1) := by decide +kernel
theorem dX7_readsItem_10 : decode cX7_readsItem 10 = .ok (.bipush 109, 2) := by decide +kernel
theorem dX7_readsItem_12 : decode cX7_readsItem 12 = .ok (.if_icmp .ne 67, 3) := by decide +kernel
theorem dX7_readsItem_15 : decode cX7_readsItem 15 = .ok (.aload_n 0, 1) := by decide +kernel
theorem dX7_readsItem_16 : decode cX7_readsItem 16 = .ok (.getfield 13, 3) := by decide +kernel
theorem dX7_readsItem_19 : decode cX7_readsItem 19 = .ok (.bipush 7, 2) := by decide +kernel
theorem dX7_readsItem_21 : decode cX7_readsItem 21 = .ok (.aload_n 0, 1) := by decide +kernel
theorem dX7_readsItem_22 : decode cX7_readsItem 22 = .ok (.iconst 2, 1) := by decide +kernel
theorem dX7_readsItem_23 : decode cX7_readsItem 23 = .ok (.bipush 20, 2) := by decide +kernel
theorem dX7_readsItem_25 : decode cX7_readsItem 25 = .ok (.invokevirtual 107, 3) := by decide +kernel
theorem dX7_readsItem_28 : decode cX7_readsItem 28 = .ok (.iastore, 1) := by decide +kernel
theorem dX7_readsItem_29 : decode cX7_readsItem 29 = .ok (.aload_n 0, 1) := by decide +kernel
theorem dX7_readsItem_30 : decode cX7_readsItem 30 = .ok (.getfield 13, 3) := by decide +kernel
theorem dX7_readsItem_33 : decode cX7_readsItem 33 = .ok (.bipush 8, 2) := by decide +kernel
theorem dX7_readsItem_35 : decode cX7_readsItem 35 = .ok (.aload_n 0, 1) := by decide +kernel
theorem dX7_readsItem_36 : decode cX7_readsItem 36 = .ok (.iconst 0, 1) := by decide +kernel
theorem dX7_readsItem_37 : decode cX7_readsItem 37 = .ok (.aload_n 0, 1) := by decide +kernel
theorem dX7_readsItem_38 : decode cX7_readsItem 38 = .ok (.getfield 13, 3) := by decide +kernel
theorem dX7_readsItem_41 : decode cX7_readsItem 41 = .ok (.bipush 7, 2) := by decide +kernel
theorem dX7_readsItem_43 : decode cX7_readsItem 43 = .ok (.iaload, 1) := by decide +kernel
theorem dX7_readsItem_44 : decode cX7_readsItem 44 = .ok (.iconst 1, 1) := by decide +kernel
theorem dX7_readsItem_45 : decode cX7_readsItem 45 = .ok (.isub, 1) := by decide +kernel
theorem dX7_readsItem_46 : decode cX7_readsItem 46 = .ok (.invokevirtual 107, 3) := by decide +kernel
theorem dX7_readsItem_49 : decode cX7_readsItem 49 = .ok (.iastore, 1) := by decide +kernel
theorem dX7_readsItem_50 : decode cX7_readsItem 50 = .ok (.aload_n 0, 1) := by decide +kernel
theorem dX7_readsItem_51 : decode cX7_readsItem 51 = .ok (.getfield 13, 3) := by decide +kernel
theorem dX7_readsItem_54 : decode cX7_readsItem 54 = .ok (.bipush 9, 2) := by decide +kernel
theorem dX7_readsItem_56 : decode cX7_readsItem 56 = .ok (.aload_n 0, 1) := by decide +kernel
theorem dX7_readsItem_57 : decode cX7_readsItem 57 = .ok (.iconst 0, 1) := by decide +kernel
theorem dX7_readsItem_58 : decode cX7_readsItem 58 = .ok (.aload_n 0, 1) := by decide +kernel
theorem dX7_readsItem_59 : decode cX7_readsItem 59 = .ok (.getfield 13, 3) := by decide +kernel
theorem dX7_readsItem_62 : decode cX7_readsItem 62 = .ok (.bipush 7, 2) := by decide +kernel
theorem dX7_readsItem_64 : decode cX7_readsItem 64 = .ok (.iaload, 1) := by decide +kernel
theorem dX7_readsItem_65 : decode cX7_readsItem 65 = .ok (.iconst 1, 1) := by decide +kernel
theorem dX7_readsItem_66 : decode cX7_readsItem 66 = .ok (.isub, 1) := by decide +kernel
theorem dX7_readsItem_67 : decode cX7_readsItem 67 = .ok (.invokevirtual 107, 3) := by decide +kernel
theorem dX7_readsItem_70 : decode cX7_readsItem 70 = .ok (.iastore, 1) := by decide +kernel
theorem dX7_readsItem_71 : decode cX7_readsItem 71 = .ok (.aload_n 0, 1) := by decide +kernel
theorem dX7_readsItem_72 : decode cX7_readsItem 72 = .ok (.iconst 1, 1) := by decide +kernel
theorem dX7_readsItem_73 : decode cX7_readsItem 73 = .ok (.putfield 103, 3) := by decide +kernel
theorem dX7_readsItem_76 : decode cX7_readsItem 76 = .ok (.goto 153, 3) := by decide +kernel
theorem dX7_readsItem_79 : decode cX7_readsItem 79 = .ok (.iload_n 1, 1) := by decide +kernel
theorem dX7_readsItem_80 : decode cX7_readsItem 80 = .ok (.bipush 107, 2) := by decide +kernel
theorem dX7_readsItem_82 : decode cX7_readsItem 82 = .ok (.if_icmp .ne 64, 3) := by decide +kernel
theorem dX7_readsItem_85 : decode cX7_readsItem 85 = .ok (.bipush 8, 2) := by decide +kernel
theorem dX7_readsItem_87 : decode cX7_readsItem 87 = .ok (.iload_n 2, 1) := by decide +kernel
theorem dX7_readsItem_88 : decode cX7_readsItem 88 = .ok (.iadd, 1) := by decide +kernel
theorem dX7_readsItem_89 : decode cX7_readsItem 89 = .ok (.iconst 1, 1) := by decide +kernel
theorem dX7_readsItem_90 : decode cX7_readsItem 90 = .ok (.iadd, 1) := by decide +kernel
theorem dX7_readsItem_91 : decode cX7_readsItem 91 = .ok (.istore_n 3, 1) := by decide +kernel
theorem dX7_readsItem_92 : decode cX7_readsItem 92 = .ok (.aload_n 0, 1) := by decide +kernel
theorem dX7_readsItem_93 : decode cX7_readsItem 93 = .ok (.getfield 16, 3) := by decide +kernel
theorem dX7_readsItem_96 : decode cX7_readsItem 96 = .ok (.iload_n 3, 1) := by decide +kernel
theorem dX7_readsItem_97 : decode cX7_readsItem 97 = .ok (.aload_n 0, 1) := by decide +kernel
theorem dX7_readsItem_98 : decode cX7_readsItem 98 = .ok (.iconst 0, 1) := by decide +kernel
theorem dX7_readsItem_99 : decode cX7_readsItem 99 = .ok (.iconst 1, 1) := by decide +kernel
theorem dX7_readsItem_100 : decode cX7_readsItem 100 = .ok (.invokevirtual 107, 3) := by decide +kernel
theorem dX7_readsItem_103 : decode cX7_readsItem 103 = .ok (.iastore, 1) := by decide +kernel
theorem dX7_readsItem_104 : decode cX7_readsItem 104 = .ok (.aload_n 0, 1) := by decide +kernel
theorem dX7_readsItem_105 : decode cX7_readsItem 105 = .ok (.getfield 19, 3) := by decide +kernel
theorem dX7_readsItem_108 : decode cX7_readsItem 108 = .ok (.iload_n 3, 1) := by decide +kernel
theorem dX7_readsItem_109 : decode cX7_readsItem 109 = .ok (.aload_n 0, 1) := by decide +kernel
theorem dX7_readsItem_110 : decode cX7_readsItem 110 = .ok (.iconst 0, 1) := by decide +kernel
theorem dX7_readsItem_111 : decode cX7_readsItem 111 = .ok (.bipush 19, 2) := by decide +kernel
theorem dX7_readsItem_113 : decode cX7_readsItem 113 = .ok (.invokevirtual 107, 3) := by decide +kernel
theorem dX7_readsItem_116 : decode cX7_readsItem 116 = .ok (.iastore, 1) := by decide +kernel
theorem dX7_readsItem_117 : decode cX7_readsItem 117 = .ok (.aload_n 0, 1) := by decide +kernel
theorem dX7_readsItem_118 : decode cX7_readsItem 118 = .ok (.getfield 22, 3) := by decide +kernel
theorem dX7_readsItem_121 : decode cX7_readsItem 121 = .ok (.iload_n 3, 1) := by decide +kernel
theorem dX7_readsItem_122 : decode cX7_readsItem 122 = .ok (.iload_n 2, 1) := by decide +kernel
theorem dX7_readsItem_123 : decode cX7_readsItem 123 = .ok (.iconst 1, 1) := by decide +kernel
theorem dX7_readsItem_124 : decode cX7_readsItem 124 = .ok (.iadd, 1) := by decide +kernel
theorem dX7_readsItem_125 : decode cX7_readsItem 125 = .ok (.iastore, 1) := by decide +kernel
theorem dX7_readsItem_126 : decode cX7_readsItem 126 = .ok (.aload_n 0, 1) := by decide +kernel
theorem dX7_readsItem_127 : decode cX7_readsItem 127 = .ok (.getfield 25, 3) := by decide +kernel
theorem dX7_readsItem_130 : decode cX7_readsItem 130 = .ok (.iload_n 3, 1) := by decide +kernel
theorem dX7_readsItem_131 : decode cX7_readsItem 131 = .ok (.iconst 1, 1) := by decide +kernel
theorem dX7_readsItem_132 : decode cX7_readsItem 132 = .ok (.iastore, 1) := by decide +kernel
theorem dX7_readsItem_133 : decode cX7_readsItem 133 = .ok (.aload_n 0, 1) := by decide +kernel
theorem dX7_readsItem_134 : decode cX7_readsItem 134 = .ok (.getfield 13, 3) := by decide +kernel
theorem dX7_readsItem_137 : decode cX7_readsItem 137 = .ok (.iconst 5, 1) := by decide +kernel
theorem dX7_readsItem_138 : decode cX7_readsItem 138 = .ok (.dup2, 1) := by decide +kernel
theorem dX7_readsItem_139 : decode cX7_readsItem 139 = .ok (.iaload, 1) := by decide +kernel
theorem dX7_readsItem_140 : decode cX7_readsItem 140 = .ok (.iconst 1, 1) := by decide +kernel
theorem dX7_readsItem_141 : decode cX7_readsItem 141 = .ok (.iadd, 1) := by decide +kernel
theorem dX7_readsItem_142 : decode cX7_readsItem 142 = .ok (.iastore, 1) := by decide +kernel
theorem dX7_readsItem_143 : decode cX7_readsItem 143 = .ok (.goto 86, 3) := by decide +kernel
theorem dX7_readsItem_146 : decode cX7_readsItem 146 = .ok (.iload_n 1, 1) := by decide +kernel
theorem dX7_readsItem_147 : decode cX7_readsItem 147 = .ok (.bipush 100, 2) := by decide +kernel
theorem dX7_readsItem_149 : decode cX7_readsItem 149 = .ok (.if_icmp .ne 51, 3) := by decide +kernel
theorem dX7_readsItem_152 : decode cX7_readsItem 152 = .ok (.aload_n 0, 1) := by decide +kernel
theorem dX7_readsItem_153 : decode cX7_readsItem 153 = .ok (.iconst 0, 1) := by decide +kernel
theorem dX7_readsItem_154 : decode cX7_readsItem 154 = .ok (.iload_n 2, 1) := by decide +kernel
theorem dX7_readsItem_155 : decode cX7_readsItem 155 = .ok (.invokevirtual 107, 3) := by decide +kernel
theorem dX7_readsItem_158 : decode cX7_readsItem 158 = .ok (.istore_n 3, 1) := by decide +kernel
theorem dX7_readsItem_159 : decode cX7_readsItem 159 = .ok (.aload_n 0, 1) := by decide +kernel
theorem dX7_readsItem_160 : decode cX7_readsItem 160 = .ok (.iconst 0, 1) := by decide +kernel
theorem dX7_readsItem_161 : decode cX7_readsItem 161 = .ok (.iload_n 2, 1) := by decide +kernel
theorem dX7_readsItem_162 : decode cX7_readsItem 162 = .ok (.invokevirtual 107, 3) := by decide +kernel
theorem dX7_readsItem_165 : decode cX7_readsItem 165 = .ok (.istore 4, 2) := by decide +kernel
theorem dX7_readsItem_167 : decode cX7_readsItem 167 = .ok (.aload_n 0, 1) := by decide +kernel
theorem dX7_readsItem_168 : decode cX7_readsItem 168 = .ok (.iconst 1, 1) := by decide +kernel
theorem dX7_readsItem_169 : decode cX7_readsItem 169 = .ok (.iconst 4, 1) := by decide +kernel
theorem dX7_readsItem_170 : decode cX7_readsItem 170 = .ok (.invokevirtual 107, 3) := by decide +kernel
theorem dX7_readsItem_173 : decode cX7_readsItem 173 = .ok (.istore 5, 2) := by decide +kernel
theorem dX7_readsItem_175 : decode cX7_readsItem 175 = .ok (.aload_n 0, 1) := by decide +kernel
theorem dX7_readsItem_176 : decode cX7_readsItem 176 = .ok (.getfield 22, 3) := by decide +kernel
theorem dX7_readsItem_179 : decode cX7_readsItem 179 = .ok (.bipush 8, 2) := by decide +kernel
theorem dX7_readsItem_181 : decode cX7_readsItem 181 = .ok (.iload_n 3, 1) := by decide +kernel
theorem dX7_readsItem_182 : decode cX7_readsItem 182 = .ok (.iadd, 1) := by decide +kernel
theorem dX7_readsItem_183 : decode cX7_readsItem 183 = .ok (.iload 4, 2) := by decide +kernel
theorem dX7_readsItem_185 : decode cX7_readsItem 185 = .ok (.iastore, 1) := by decide +kernel
theorem dX7_readsItem_186 : decode cX7_readsItem 186 = .ok (.aload_n 0, 1) := by decide +kernel
theorem dX7_readsItem_187 : decode cX7_readsItem 187 = .ok (.getfield 25, 3) := by decide +kernel
theorem dX7_readsItem_190 : decode cX7_readsItem 190 = .ok (.bipush 8, 2) := by decide +kernel
theorem dX7_readsItem_192 : decode cX7_readsItem 192 = .ok (.iload_n 3, 1) := by decide +kernel
theorem dX7_readsItem_193 : decode cX7_readsItem 193 = .ok (.iadd, 1) := by decide +kernel
theorem dX7_readsItem_194 : decode cX7_readsItem 194 = .ok (.iload 5, 2) := by decide +kernel
theorem dX7_readsItem_196 : decode cX7_readsItem 196 = .ok (.iastore, 1) := by decide +kernel
theorem dX7_readsItem_197 : decode cX7_readsItem 197 = .ok (.goto 32, 3) := by decide +kernel
theorem dX7_readsItem_200 : decode cX7_readsItem 200 = .ok (.aload_n 0, 1) := by decide +kernel
theorem dX7_readsItem_201 : decode cX7_readsItem 201 = .ok (.getfield 28, 3) := by decide +kernel
theorem dX7_readsItem_204 : decode cX7_readsItem 204 = .ok (.aload_n 0, 1) := by decide +kernel
theorem dX7_readsItem_205 : decode cX7_readsItem 205 = .ok (.getfield 13, 3) := by decide +kernel
theorem dX7_readsItem_208 : decode cX7_readsItem 208 = .ok (.bipush 6, 2) := by decide +kernel
theorem dX7_readsItem_210 : decode cX7_readsItem 210 = .ok (.iaload, 1) := by decide +kernel
theorem dX7_readsItem_211 : decode cX7_readsItem 211 = .ok (.aload_n 0, 1) := by decide +kernel
theorem dX7_readsItem_212 : decode cX7_readsItem 212 = .ok (.iconst 0, 1) := by decide +kernel
theorem dX7_readsItem_213 : decode cX7_readsItem 213 = .ok (.iload_n 2, 1) := by decide +kernel
theorem dX7_readsItem_214 : decode cX7_readsItem 214 = .ok (.invokevirtual 107, 3) := by decide +kernel
theorem dX7_readsItem_217 : decode cX7_readsItem 217 = .ok (.iastore, 1) := by decide +kernel
theorem dX7_readsItem_218 : decode cX7_readsItem 218 = .ok (.aload_n 0, 1) := by decide +kernel
theorem dX7_readsItem_219 : decode cX7_readsItem 219 = .ok (.getfield 13, 3) := by decide +kernel
theorem dX7_readsItem_222 : decode cX7_readsItem 222 = .ok (.bipush 6, 2) := by decide +kernel
theorem dX7_readsItem_224 : decode cX7_readsItem 224 = .ok (.dup2, 1) := by decide +kernel
theorem dX7_readsItem_225 : decode cX7_readsItem 225 = .ok (.iaload, 1) := by decide +kernel
theorem dX7_readsItem_226 : decode cX7_readsItem 226 = .ok (.iconst 1, 1) := by decide +kernel
theorem dX7_readsItem_227 : decode cX7_readsItem 227 = .ok (.iadd, 1) := by decide +kernel
theorem dX7_readsItem_228 : decode cX7_readsItem 228 = .ok (.iastore, 1) := by decide +kernel
theorem dX7_readsItem_229 : decode cX7_readsItem 229 = .ok (.return_, 1) := by decide +kernel
def T_X7_readsItem : tk_Tb := [(0, tk_al 0 1), (1, tk_gR 7 9 4), (4, tk_ic (5) 5), (5, tk_ai 9 6), (6, tk_ic (1) 7), (7, tk_bi (fun x y => x - y) 8), (8, tk_sI 2 9), (9, tk_il 1 10), (10, tk_ic (109) 12), (12, tk_cm (fun x y => x = y) 15 79), (15, tk_al 0 16), (16, tk_gR 7 9 19), (19, tk_ic (7) 21), (21, tk_al 0 22), (22, tk_ic (2) 23), (23, tk_ic (20) 25), (25, tk_cv 7 M_X7_number 2 28), (28, tk_si 9 (fun x => x) 29), (29, tk_al 0 30), (30, tk_gR 7 9 33), (33, tk_ic (8) 35), (35, tk_al 0 36), (36, tk_ic (0) 37), (37, tk_al 0 38), (38, tk_gR 7 9 41), (41, tk_ic (7) 43), (43, tk_ai 9 44), (44, tk_ic (1) 45), (45, tk_bi (fun x y => x - y) 46), (46, tk_cv 7 M_X7_number 2 49), (49, tk_si 9 (fun x => x) 50), (50, tk_al 0 51), (51, tk_gR 7 9 54), (54, tk_ic (9) 56), (56, tk_al 0 57), (57, tk_ic (0) 58), (58, tk_al 0 59), (59, tk_gR 7 9 62), (62, tk_ic (7) 64), (64, tk_ai 9 65), (65, tk_ic (1) 66), (66, tk_bi (fun x y => x - y) 67), (67, tk_cv 7 M_X7_number 2 70), (70, tk_si 9 (fun x => x) 71), (71, tk_al 0 72), (72, tk_ic (1) 73), (73, tk_pZ 7 10 76), (76, tk_jmp 229), (79, tk_il 1 80), (80, tk_ic (107) 82), (82, tk_cm (fun x y => x = y) 85 146), (85, tk_ic (8) 87), (87, tk_il 2 88), (88, tk_bi (fun x y => x + y) 89), (89, tk_ic (1) 90), (90, tk_bi (fun x y => x + y) 91), (91, tk_sI 3 92), (92, tk_al 0 93), (93, tk_gR 7 11 96), (96, tk_il 3 97), (97, tk_al 0 98), (98, tk_ic (0) 99), (99, tk_ic (1) 100), (100, tk_cv 7 M_X7_number 2 103), (103, tk_si 9 (fun x => x) 104), (104, tk_al 0 105), (105, tk_gR 7 12 108), (108, tk_il 3 109), (109, tk_al 0 110), (110, tk_ic (0) 111), (111, tk_ic (19) 113), (113, tk_cv 7 M_X7_number 2 116), (116, tk_si 9 (fun x => x) 117), (117, tk_al 0 118), (118, tk_gR 7 13 121), (121, tk_il 3 122), (122, tk_il 2 123), (123, tk_ic (1) 124), (124, tk_bi (fun x y => x + y) 125), (125, tk_si 9 (fun x => x) 126), (126, tk_al 0 127), (127, tk_gR 7 14 130), (130, tk_il 3 131), (131, tk_ic (1) 132), (132, tk_si 9 (fun x => x) 133), (133, tk_al 0 134), (134, tk_gR 7 9 137), (137, tk_ic (5) 138), (138, tk_du2 139), (139, tk_ai 9 140), (140, tk_ic (1) 141), (141, tk_bi (fun x y => x + y) 142), (142, tk_si 9 (fun x => x) 143), (143, tk_jmp 229), (146, tk_il 1 147), (147, tk_ic (100) 149), (149, tk_cm (fun x y => x = y) 152 200), (152, tk_al 0 153), (153, tk_ic (0) 154), (154, tk_il 2 155), (155, tk_cv 7 M_X7_number 2 158), (158, tk_sI 3 159), (159, tk_al 0 160), (160, tk_ic (0) 161), (161, tk_il 2 162), (162, tk_cv 7 M_X7_number 2 165), (165, tk_sI 4 167), (167, tk_al 0 168), (168, tk_ic (1) 169), (169, tk_ic (4) 170), (170, tk_cv 7 M_X7_number 2 173), (173, tk_sI 5 175), (175, tk_al 0 176), (176, tk_gR 7 13 179), (179, tk_ic (8) 181), (181, tk_il 3 182), (182, tk_bi (fun x y => x + y) 183), (183, tk_il 4 185), (185, tk_si 9 (fun x => x) 186), (186, tk_al 0 187), (187, tk_gR 7 14 190), (190, tk_ic (8) 192), (192, tk_il 3 193), (193, tk_bi (fun x y => x + y) 194), (194, tk_il 5 196), (196, tk_si 9 (fun x => x) 197), (197, tk_jmp 229), (200, tk_al 0 201), (201, tk_gR 7 15 204), (204, tk_al 0 205), (205, tk_gR 7 9 208), (208, tk_ic (6) 210), (210, tk_ai 9 211), (211, tk_al 0 212), (212, tk_ic (0) 213), (213, tk_il 2 214), (214, tk_cv 7 M_X7_number 2 217), (217, tk_si 9 (fun x => x) 218), (218, tk_al 0 219), (219, tk_gR 7 9 222), (222, tk_ic (6) 224), (224, tk_du2 225), (225, tk_ai 9 226), (226, tk_ic (1) 227), (227, tk_bi (fun x y => x + y) 228), (228, tk_si 9 (fun x => x) 229), (229, tk_rV)]
set_option maxRecDepth 100000 in
theorem hT_X7_readsItem (sc : Option (Nat × (Nat → Int32))) : ∀ x ∈ T_X7_readsItem, tk_So sc M_X7_readsItem x.1 x.2 := by
  unfold T_X7_readsItem
  refine List.forall_mem_cons.mpr ⟨so_aload_n dX7_readsItem_0 rfl rfl, ?_⟩
  refine List.forall_mem_cons.mpr ⟨so_gR (C := RX7) (T := TX7) (N := 29) dX7_readsItem_1 (by decide) rfl rfl (by decide) rfl in_X7 wf_X7_13 rfl, ?_⟩
  refine List.forall_mem_cons.mpr ⟨so_iconst dX7_readsItem_4 (by decide) rfl, ?_⟩
  refine List.forall_mem_cons.mpr ⟨so_iaload dX7_readsItem_5 rfl, ?_⟩
  refine List.forall_mem_cons.mpr ⟨so_iconst dX7_readsItem_6 (by decide) rfl, ?_⟩
  refine List.forall_mem_cons.mpr ⟨so_isub dX7_readsItem_7 rfl, ?_⟩
  refine List.forall_mem_cons.mpr ⟨so_istore_n dX7_readsItem_8 rfl rfl, ?_⟩
  refine List.forall_mem_cons.mpr ⟨so_iload_n dX7_readsItem_9 rfl rfl, ?_⟩
  refine List.forall_mem_cons.mpr ⟨so_bipush dX7_readsItem_10 (by decide) rfl, ?_⟩
  refine List.forall_mem_cons.mpr ⟨so_icmp_ne dX7_readsItem_12 (by decide) rfl, ?_⟩
  refine List.forall_mem_cons.mpr ⟨so_aload_n dX7_readsItem_15 rfl rfl, ?_⟩
  refine List.forall_mem_cons.mpr ⟨so_gR (C := RX7) (T := TX7) (N := 29) dX7_readsItem_16 (by decide) rfl rfl (by decide) rfl in_X7 wf_X7_13 rfl, ?_⟩
  refine List.forall_mem_cons.mpr ⟨so_bipush dX7_readsItem_19 (by decide) rfl, ?_⟩
  refine List.forall_mem_cons.mpr ⟨so_aload_n dX7_readsItem_21 rfl rfl, ?_⟩
  refine List.forall_mem_cons.mpr ⟨so_iconst dX7_readsItem_22 (by decide) rfl, ?_⟩
  refine List.forall_mem_cons.mpr ⟨so_bipush dX7_readsItem_23 (by decide) rfl, ?_⟩
  refine List.forall_mem_cons.mpr ⟨so_cv (T := TX7) (N := 29) dX7_readsItem_25 mv_X7_number wm_X7_107 (by decide) rfl ⟨rfl, rfl⟩ (by decide) rfl, ?_⟩
  refine List.forall_mem_cons.mpr ⟨so_iastore dX7_readsItem_28 rfl, ?_⟩
  refine List.forall_mem_cons.mpr ⟨so_aload_n dX7_readsItem_29 rfl rfl, ?_⟩
  refine List.forall_mem_cons.mpr ⟨so_gR (C := RX7) (T := TX7) (N := 29) dX7_readsItem_30 (by decide) rfl rfl (by decide) rfl in_X7 wf_X7_13 rfl, ?_⟩
  refine List.forall_mem_cons.mpr ⟨so_bipush dX7_readsItem_33 (by decide) rfl, ?_⟩
  refine List.forall_mem_cons.mpr ⟨so_aload_n dX7_readsItem_35 rfl rfl, ?_⟩
  refine List.forall_mem_cons.mpr ⟨so_iconst dX7_readsItem_36 (by decide) rfl, ?_⟩
  refine List.forall_mem_cons.mpr ⟨so_aload_n dX7_readsItem_37 rfl rfl, ?_⟩
  refine List.forall_mem_cons.mpr ⟨so_gR (C := RX7) (T := TX7) (N := 29) dX7_readsItem_38 (by decide) rfl rfl (by decide) rfl in_X7 wf_X7_13 rfl, ?_⟩
  refine List.forall_mem_cons.mpr ⟨so_bipush dX7_readsItem_41 (by decide) rfl, ?_⟩
  refine List.forall_mem_cons.mpr ⟨so_iaload dX7_readsItem_43 rfl, ?_⟩
  refine List.forall_mem_cons.mpr ⟨so_iconst dX7_readsItem_44 (by decide) rfl, ?_⟩
  refine List.forall_mem_cons.mpr ⟨so_isub dX7_readsItem_45 rfl, ?_⟩
  refine List.forall_mem_cons.mpr ⟨so_cv (T := TX7) (N := 29) dX7_readsItem_46 mv_X7_number wm_X7_107 (by decide) rfl ⟨rfl, rfl⟩ (by decide) rfl, ?_⟩
  refine List.forall_mem_cons.mpr ⟨so_iastore dX7_readsItem_49 rfl, ?_⟩
  refine List.forall_mem_cons.mpr ⟨so_aload_n dX7_readsItem_50 rfl rfl, ?_⟩
  refine List.forall_mem_cons.mpr ⟨so_gR (C := RX7) (T := TX7) (N := 29) dX7_readsItem_51 (by decide) rfl rfl (by decide) rfl in_X7 wf_X7_13 rfl, ?_⟩
  refine List.forall_mem_cons.mpr ⟨so_bipush dX7_readsItem_54 (by decide) rfl, ?_⟩
  refine List.forall_mem_cons.mpr ⟨so_aload_n dX7_readsItem_56 rfl rfl, ?_⟩
  refine List.forall_mem_cons.mpr ⟨so_iconst dX7_readsItem_57 (by decide) rfl, ?_⟩
  refine List.forall_mem_cons.mpr ⟨so_aload_n dX7_readsItem_58 rfl rfl, ?_⟩
  refine List.forall_mem_cons.mpr ⟨so_gR (C := RX7) (T := TX7) (N := 29) dX7_readsItem_59 (by decide) rfl rfl (by decide) rfl in_X7 wf_X7_13 rfl, ?_⟩
  refine List.forall_mem_cons.mpr ⟨so_bipush dX7_readsItem_62 (by decide) rfl, ?_⟩
  refine List.forall_mem_cons.mpr ⟨so_iaload dX7_readsItem_64 rfl, ?_⟩
  refine List.forall_mem_cons.mpr ⟨so_iconst dX7_readsItem_65 (by decide) rfl, ?_⟩
  refine List.forall_mem_cons.mpr ⟨so_isub dX7_readsItem_66 rfl, ?_⟩
  refine List.forall_mem_cons.mpr ⟨so_cv (T := TX7) (N := 29) dX7_readsItem_67 mv_X7_number wm_X7_107 (by decide) rfl ⟨rfl, rfl⟩ (by decide) rfl, ?_⟩
  refine List.forall_mem_cons.mpr ⟨so_iastore dX7_readsItem_70 rfl, ?_⟩
  refine List.forall_mem_cons.mpr ⟨so_aload_n dX7_readsItem_71 rfl rfl, ?_⟩
  refine List.forall_mem_cons.mpr ⟨so_iconst dX7_readsItem_72 (by decide) rfl, ?_⟩
  refine List.forall_mem_cons.mpr ⟨so_pZ (C := RX7) (T := TX7) (N := 29) dX7_readsItem_73 (by decide) rfl rfl (by decide) rfl in_X7 wf_X7_103 tyX7 tyX7_ok nmX7 rfl (by decide +kernel) rfl, ?_⟩
  refine List.forall_mem_cons.mpr ⟨so_goto dX7_readsItem_76 (by decide), ?_⟩
  refine List.forall_mem_cons.mpr ⟨so_iload_n dX7_readsItem_79 rfl rfl, ?_⟩
  refine List.forall_mem_cons.mpr ⟨so_bipush dX7_readsItem_80 (by decide) rfl, ?_⟩
  refine List.forall_mem_cons.mpr ⟨so_icmp_ne dX7_readsItem_82 (by decide) rfl, ?_⟩
  refine List.forall_mem_cons.mpr ⟨so_bipush dX7_readsItem_85 (by decide) rfl, ?_⟩
  refine List.forall_mem_cons.mpr ⟨so_iload_n dX7_readsItem_87 rfl rfl, ?_⟩
  refine List.forall_mem_cons.mpr ⟨so_iadd dX7_readsItem_88 rfl, ?_⟩
  refine List.forall_mem_cons.mpr ⟨so_iconst dX7_readsItem_89 (by decide) rfl, ?_⟩
  refine List.forall_mem_cons.mpr ⟨so_iadd dX7_readsItem_90 rfl, ?_⟩
  refine List.forall_mem_cons.mpr ⟨so_istore_n dX7_readsItem_91 rfl rfl, ?_⟩
  refine List.forall_mem_cons.mpr ⟨so_aload_n dX7_readsItem_92 rfl rfl, ?_⟩
  refine List.forall_mem_cons.mpr ⟨so_gR (C := RX7) (T := TX7) (N := 29) dX7_readsItem_93 (by decide) rfl rfl (by decide) rfl in_X7 wf_X7_16 rfl, ?_⟩
  refine List.forall_mem_cons.mpr ⟨so_iload_n dX7_readsItem_96 rfl rfl, ?_⟩
  refine List.forall_mem_cons.mpr ⟨so_aload_n dX7_readsItem_97 rfl rfl, ?_⟩
  refine List.forall_mem_cons.mpr ⟨so_iconst dX7_readsItem_98 (by decide) rfl, ?_⟩
  refine List.forall_mem_cons.mpr ⟨so_iconst dX7_readsItem_99 (by decide) rfl, ?_⟩
  refine List.forall_mem_cons.mpr ⟨so_cv (T := TX7) (N := 29) dX7_readsItem_100 mv_X7_number wm_X7_107 (by decide) rfl ⟨rfl, rfl⟩ (by decide) rfl, ?_⟩
  refine List.forall_mem_cons.mpr ⟨so_iastore dX7_readsItem_103 rfl, ?_⟩
  refine List.forall_mem_cons.mpr ⟨so_aload_n dX7_readsItem_104 rfl rfl, ?_⟩
  refine List.forall_mem_cons.mpr ⟨so_gR (C := RX7) (T := TX7) (N := 29) dX7_readsItem_105 (by decide) rfl rfl (by decide) rfl in_X7 wf_X7_19 rfl, ?_⟩
  refine List.forall_mem_cons.mpr ⟨so_iload_n dX7_readsItem_108 rfl rfl, ?_⟩
  refine List.forall_mem_cons.mpr ⟨so_aload_n dX7_readsItem_109 rfl rfl, ?_⟩
  refine List.forall_mem_cons.mpr ⟨so_iconst dX7_readsItem_110 (by decide) rfl, ?_⟩
  refine List.forall_mem_cons.mpr ⟨so_bipush dX7_readsItem_111 (by decide) rfl, ?_⟩
  refine List.forall_mem_cons.mpr ⟨so_cv (T := TX7) (N := 29) dX7_readsItem_113 mv_X7_number wm_X7_107 (by decide) rfl ⟨rfl, rfl⟩ (by decide) rfl, ?_⟩
  refine List.forall_mem_cons.mpr ⟨so_iastore dX7_readsItem_116 rfl, ?_⟩
  refine List.forall_mem_cons.mpr ⟨so_aload_n dX7_readsItem_117 rfl rfl, ?_⟩
  refine List.forall_mem_cons.mpr ⟨so_gR (C := RX7) (T := TX7) (N := 29) dX7_readsItem_118 (by decide) rfl rfl (by decide) rfl in_X7 wf_X7_22 rfl, ?_⟩
  refine List.forall_mem_cons.mpr ⟨so_iload_n dX7_readsItem_121 rfl rfl, ?_⟩
  refine List.forall_mem_cons.mpr ⟨so_iload_n dX7_readsItem_122 rfl rfl, ?_⟩
  refine List.forall_mem_cons.mpr ⟨so_iconst dX7_readsItem_123 (by decide) rfl, ?_⟩
  refine List.forall_mem_cons.mpr ⟨so_iadd dX7_readsItem_124 rfl, ?_⟩
  refine List.forall_mem_cons.mpr ⟨so_iastore dX7_readsItem_125 rfl, ?_⟩
  refine List.forall_mem_cons.mpr ⟨so_aload_n dX7_readsItem_126 rfl rfl, ?_⟩
  refine List.forall_mem_cons.mpr ⟨so_gR (C := RX7) (T := TX7) (N := 29) dX7_readsItem_127 (by decide) rfl rfl (by decide) rfl in_X7 wf_X7_25 rfl, ?_⟩
  refine List.forall_mem_cons.mpr ⟨so_iload_n dX7_readsItem_130 rfl rfl, ?_⟩
  refine List.forall_mem_cons.mpr ⟨so_iconst dX7_readsItem_131 (by decide) rfl, ?_⟩
  refine List.forall_mem_cons.mpr ⟨so_iastore dX7_readsItem_132 rfl, ?_⟩
  refine List.forall_mem_cons.mpr ⟨so_aload_n dX7_readsItem_133 rfl rfl, ?_⟩
  refine List.forall_mem_cons.mpr ⟨so_gR (C := RX7) (T := TX7) (N := 29) dX7_readsItem_134 (by decide) rfl rfl (by decide) rfl in_X7 wf_X7_13 rfl, ?_⟩
  refine List.forall_mem_cons.mpr ⟨so_iconst dX7_readsItem_137 (by decide) rfl, ?_⟩
  refine List.forall_mem_cons.mpr ⟨so_dup2 dX7_readsItem_138 rfl, ?_⟩
  refine List.forall_mem_cons.mpr ⟨so_iaload dX7_readsItem_139 rfl, ?_⟩
  refine List.forall_mem_cons.mpr ⟨so_iconst dX7_readsItem_140 (by decide) rfl, ?_⟩
  refine List.forall_mem_cons.mpr ⟨so_iadd dX7_readsItem_141 rfl, ?_⟩
  refine List.forall_mem_cons.mpr ⟨so_iastore dX7_readsItem_142 rfl, ?_⟩
  refine List.forall_mem_cons.mpr ⟨so_goto dX7_readsItem_143 (by decide), ?_⟩
  refine List.forall_mem_cons.mpr ⟨so_iload_n dX7_readsItem_146 rfl rfl, ?_⟩
  refine List.forall_mem_cons.mpr ⟨so_bipush dX7_readsItem_147 (by decide) rfl, ?_⟩
  refine List.forall_mem_cons.mpr ⟨so_icmp_ne dX7_readsItem_149 (by decide) rfl, ?_⟩
  refine List.forall_mem_cons.mpr ⟨so_aload_n dX7_readsItem_152 rfl rfl, ?_⟩
  refine List.forall_mem_cons.mpr ⟨so_iconst dX7_readsItem_153 (by decide) rfl, ?_⟩
  refine List.forall_mem_cons.mpr ⟨so_iload_n dX7_readsItem_154 rfl rfl, ?_⟩
  refine List.forall_mem_cons.mpr ⟨so_cv (T := TX7) (N := 29) dX7_readsItem_155 mv_X7_number wm_X7_107 (by decide) rfl ⟨rfl, rfl⟩ (by decide) rfl, ?_⟩
  refine List.forall_mem_cons.mpr ⟨so_istore_n dX7_readsItem_158 rfl rfl, ?_⟩
  refine List.forall_mem_cons.mpr ⟨so_aload_n dX7_readsItem_159 rfl rfl, ?_⟩
  refine List.forall_mem_cons.mpr ⟨so_iconst dX7_readsItem_160 (by decide) rfl, ?_⟩
  refine List.forall_mem_cons.mpr ⟨so_iload_n dX7_readsItem_161 rfl rfl, ?_⟩
  refine List.forall_mem_cons.mpr ⟨so_cv (T := TX7) (N := 29) dX7_readsItem_162 mv_X7_number wm_X7_107 (by decide) rfl ⟨rfl, rfl⟩ (by decide) rfl, ?_⟩
  refine List.forall_mem_cons.mpr ⟨so_istore dX7_readsItem_165 rfl, ?_⟩
  refine List.forall_mem_cons.mpr ⟨so_aload_n dX7_readsItem_167 rfl rfl, ?_⟩
  refine List.forall_mem_cons.mpr ⟨so_iconst dX7_readsItem_168 (by decide) rfl, ?_⟩
  refine List.forall_mem_cons.mpr ⟨so_iconst dX7_readsItem_169 (by decide) rfl, ?_⟩
  refine List.forall_mem_cons.mpr ⟨so_cv (T := TX7) (N := 29) dX7_readsItem_170 mv_X7_number wm_X7_107 (by decide) rfl ⟨rfl, rfl⟩ (by decide) rfl, ?_⟩
  refine List.forall_mem_cons.mpr ⟨so_istore dX7_readsItem_173 rfl, ?_⟩
  refine List.forall_mem_cons.mpr ⟨so_aload_n dX7_readsItem_175 rfl rfl, ?_⟩
  refine List.forall_mem_cons.mpr ⟨so_gR (C := RX7) (T := TX7) (N := 29) dX7_readsItem_176 (by decide) rfl rfl (by decide) rfl in_X7 wf_X7_22 rfl, ?_⟩
  refine List.forall_mem_cons.mpr ⟨so_bipush dX7_readsItem_179 (by decide) rfl, ?_⟩
  refine List.forall_mem_cons.mpr ⟨so_iload_n dX7_readsItem_181 rfl rfl, ?_⟩
  refine List.forall_mem_cons.mpr ⟨so_iadd dX7_readsItem_182 rfl, ?_⟩
  refine List.forall_mem_cons.mpr ⟨so_iload dX7_readsItem_183 rfl, ?_⟩
  refine List.forall_mem_cons.mpr ⟨so_iastore dX7_readsItem_185 rfl, ?_⟩
  refine List.forall_mem_cons.mpr ⟨so_aload_n dX7_readsItem_186 rfl rfl, ?_⟩
  refine List.forall_mem_cons.mpr ⟨so_gR (C := RX7) (T := TX7) (N := 29) dX7_readsItem_187 (by decide) rfl rfl (by decide) rfl in_X7 wf_X7_25 rfl, ?_⟩
  refine List.forall_mem_cons.mpr ⟨so_bipush dX7_readsItem_190 (by decide) rfl, ?_⟩
  refine List.forall_mem_cons.mpr ⟨so_iload_n dX7_readsItem_192 rfl rfl, ?_⟩
  refine List.forall_mem_cons.mpr ⟨so_iadd dX7_readsItem_193 rfl, ?_⟩
  refine List.forall_mem_cons.mpr ⟨so_iload dX7_readsItem_194 rfl, ?_⟩
  refine List.forall_mem_cons.mpr ⟨so_iastore dX7_readsItem_196 rfl, ?_⟩
  refine List.forall_mem_cons.mpr ⟨so_goto dX7_readsItem_197 (by decide), ?_⟩
  refine List.forall_mem_cons.mpr ⟨so_aload_n dX7_readsItem_200 rfl rfl, ?_⟩
  refine List.forall_mem_cons.mpr ⟨so_gR (C := RX7) (T := TX7) (N := 29) dX7_readsItem_201 (by decide) rfl rfl (by decide) rfl in_X7 wf_X7_28 rfl, ?_⟩
  refine List.forall_mem_cons.mpr ⟨so_aload_n dX7_readsItem_204 rfl rfl, ?_⟩
  refine List.forall_mem_cons.mpr ⟨so_gR (C := RX7) (T := TX7) (N := 29) dX7_readsItem_205 (by decide) rfl rfl (by decide) rfl in_X7 wf_X7_13 rfl, ?_⟩
  refine List.forall_mem_cons.mpr ⟨so_bipush dX7_readsItem_208 (by decide) rfl, ?_⟩
  refine List.forall_mem_cons.mpr ⟨so_iaload dX7_readsItem_210 rfl, ?_⟩
  refine List.forall_mem_cons.mpr ⟨so_aload_n dX7_readsItem_211 rfl rfl, ?_⟩
  refine List.forall_mem_cons.mpr ⟨so_iconst dX7_readsItem_212 (by decide) rfl, ?_⟩
  refine List.forall_mem_cons.mpr ⟨so_iload_n dX7_readsItem_213 rfl rfl, ?_⟩
  refine List.forall_mem_cons.mpr ⟨so_cv (T := TX7) (N := 29) dX7_readsItem_214 mv_X7_number wm_X7_107 (by decide) rfl ⟨rfl, rfl⟩ (by decide) rfl, ?_⟩
  refine List.forall_mem_cons.mpr ⟨so_iastore dX7_readsItem_217 rfl, ?_⟩
  refine List.forall_mem_cons.mpr ⟨so_aload_n dX7_readsItem_218 rfl rfl, ?_⟩
  refine List.forall_mem_cons.mpr ⟨so_gR (C := RX7) (T := TX7) (N := 29) dX7_readsItem_219 (by decide) rfl rfl (by decide) rfl in_X7 wf_X7_13 rfl, ?_⟩
  refine List.forall_mem_cons.mpr ⟨so_bipush dX7_readsItem_222 (by decide) rfl, ?_⟩
  refine List.forall_mem_cons.mpr ⟨so_dup2 dX7_readsItem_224 rfl, ?_⟩
  refine List.forall_mem_cons.mpr ⟨so_iaload dX7_readsItem_225 rfl, ?_⟩
  refine List.forall_mem_cons.mpr ⟨so_iconst dX7_readsItem_226 (by decide) rfl, ?_⟩
  refine List.forall_mem_cons.mpr ⟨so_iadd dX7_readsItem_227 rfl, ?_⟩
  refine List.forall_mem_cons.mpr ⟨so_iastore dX7_readsItem_228 rfl, ?_⟩
  refine List.forall_mem_cons.mpr ⟨so_rV dX7_readsItem_229 rfl, ?_⟩
  exact fun _ h => absurd h List.not_mem_nil
