theorem dX6_carries_0 : decode cX6_carries 0 = .ok (.aload_n 0, 1) := by decide +kernel
theorem dX6_carries_1 : decode cX6_carries 1 = .ok (.getfield 19, 3) := by decide +kernel
theorem dX6_carries_4 : decode cX6_carries 4 = .ok (.iload_n 1, 1) := by decide +kernel
theorem dX6_carries_5 : decode cX6_carries 5 = .ok (.invokevirtual 119, 3) := by decide +kernel
theorem dX6_carries_8 : decode cX6_carries 8 = .ok (.ifCond .eq 14, 3) := by decide +kernel
theorem dX6_carries_11 : decode cX6_carries 11 = .ok (.aload_n 0, 1) := by decide +kernel
theorem dX6_carries_12 : decode cX6_carries 12 = .ok (.getfield 19, 3) := by decide +kernel
theorem dX6_carries_15 : decode cX6_carries 15 = .ok (.iload_n 2, 1) := by decide +kernel
theorem dX6_carries_16 : decode cX6_carries 16 = .ok (.invokevirtual 94, 3) := by decide +kernel
theorem dX6_carries_19 : decode cX6_carries 19 = .ok (.ifCond .ne 5, 3) := by decide +kernel
theorem dX6_carries_22 : decode cX6_carries 22 = .ok (.iconst (-1), 1) := by decide +kernel
theorem dX6_carries_23 : decode cX6_carries 23 = .ok (.ireturn, 1) := by decide +kernel
theorem dX6_carries_24 : decode cX6_carries 24 = .ok (.aload_n 0, 1) := by decide +kernel
theorem dX6_carries_25 : decode cX6_carries 25 = .ok (.getfield 29, 3) := by decide +kernel
theorem dX6_carries_28 : decode cX6_carries 28 = .ok (.getfield 122, 3) := by decide +kernel
theorem dX6_carries_31 : decode cX6_carries 31 = .ok (.iload_n 1, 1) := by decide +kernel
theorem dX6_carries_32 : decode cX6_carries 32 = .ok (.aaload, 1) := by decide +kernel
theorem dX6_carries_33 : decode cX6_carries 33 = .ok (.astore_n 3, 1) := by decide +kernel
theorem dX6_carries_34 : decode cX6_carries 34 = .ok (.aload_n 3, 1) := by decide +kernel
theorem dX6_carries_35 : decode cX6_carries 35 = .ok (.invokevirtual 164, 3) := by decide +kernel
theorem dX6_carries_38 : decode cX6_carries 38 = .ok (.ifCond .eq 26, 3) := by decide +kernel
theorem dX6_carries_41 : decode cX6_carries 41 = .ok (.aload_n 3, 1) := by decide +kernel
theorem dX6_carries_42 : decode cX6_carries 42 = .ok (.getfield 128, 3) := by decide +kernel
theorem dX6_carries_45 : decode cX6_carries 45 = .ok (.iload_n 2, 1) := by decide +kernel
theorem dX6_carries_46 : decode cX6_carries 46 = .ok (.if_icmp .eq 18, 3) := by decide +kernel
theorem dX6_carries_49 : decode cX6_carries 49 = .ok (.aload_n 0, 1) := by decide +kernel
theorem dX6_carries_50 : decode cX6_carries 50 = .ok (.getfield 19, 3) := by decide +kernel
theorem dX6_carries_53 : decode cX6_carries 53 = .ok (.aload_n 3, 1) := by decide +kernel
theorem dX6_carries_54 : decode cX6_carries 54 = .ok (.getfield 128, 3) := by decide +kernel
theorem dX6_carries_57 : decode cX6_carries 57 = .ok (.iload_n 2, 1) := by decide +kernel
theorem dX6_carries_58 : decode cX6_carries 58 = .ok (.invokevirtual 171, 3) := by decide +kernel
theorem dX6_carries_61 : decode cX6_carries 61 = .ok (.ifCond .ne 6, 3) := by decide +kernel
theorem dX6_carries_64 : decode cX6_carries 64 = .ok (.bipush (-2), 2) := by decide +kernel
theorem dX6_carries_66 : decode cX6_carries 66 = .ok (.ireturn, 1) := by decide +kernel
theorem dX6_carries_67 : decode cX6_carries 67 = .ok (.aload_n 0, 1) := by decide +kernel
theorem dX6_carries_68 : decode cX6_carries 68 = .ok (.getfield 29, 3) := by decide +kernel
theorem dX6_carries_71 : decode cX6_carries 71 = .ok (.aload_n 0, 1) := by decide +kernel
theorem dX6_carries_72 : decode cX6_carries 72 = .ok (.getfield 36, 3) := by decide +kernel
theorem dX6_carries_75 : decode cX6_carries 75 = .ok (.invokevirtual 153, 3) := by decide +kernel
theorem dX6_carries_78 : decode cX6_carries 78 = .ok (.invokevirtual 157, 3) := by decide +kernel
theorem dX6_carries_81 : decode cX6_carries 81 = .ok (.aload_n 3, 1) := by decide +kernel
theorem dX6_carries_82 : decode cX6_carries 82 = .ok (.getfield 128, 3) := by decide +kernel
theorem dX6_carries_85 : decode cX6_carries 85 = .ok (.istore 4, 2) := by decide +kernel
theorem dX6_carries_87 : decode cX6_carries 87 = .ok (.aload_n 3, 1) := by decide +kernel
theorem dX6_carries_88 : decode cX6_carries 88 = .ok (.iload_n 2, 1) := by decide +kernel
theorem dX6_carries_89 : decode cX6_carries 89 = .ok (.putfield 128, 3) := by decide +kernel
theorem dX6_carries_92 : decode cX6_carries 92 = .ok (.iload 4, 2) := by decide +kernel
theorem dX6_carries_94 : decode cX6_carries 94 = .ok (.ireturn, 1) := by decide +kernel
def T_X6_carries : tk_Tb := [(0, tk_al 0 1), (1, tk_gR 6 1 4), (4, tk_il 1 5), (5, tk_cv 5 M_X5_isThing 1 8), (8, tk_br (fun x => x = 0) 22 11), (11, tk_al 0 12), (12, tk_gR 6 1 15), (15, tk_il 2 16), (16, tk_cv 5 M_X5_isKerb 1 19), (19, tk_br (fun x => x = 0) 22 24), (22, tk_ic (-1) 23), (23, tk_rI), (24, tk_al 0 25), (25, tk_gR 6 3 28), (28, tk_gR 1 2 31), (31, tk_il 1 32), (32, tk_aa 11 33), (33, tk_sA 3 34), (34, tk_al 3 35), (35, tk_cv 4 M_X4_lies 0 38), (38, tk_br (fun x => x = 0) 64 41), (41, tk_al 3 42), (42, tk_gI 4 0 45), (45, tk_il 2 46), (46, tk_cm (fun x y => x = y) 64 49), (49, tk_al 0 50), (50, tk_gR 6 1 53), (53, tk_al 3 54), (54, tk_gI 4 0 57), (57, tk_il 2 58), (58, tk_cv 5 M_X5_areOfOneTown 2 61), (61, tk_br (fun x => x = 0) 64 67), (64, tk_ic (-2) 66), (66, tk_rI), (67, tk_al 0 68), (68, tk_gR 6 3 71), (71, tk_al 0 72), (72, tk_gR 6 4 75), (75, tk_cv 2 M_X2_nextRow 0 78), (78, tk_cv 1 M_X1_saveTo 1 81), (81, tk_al 3 82), (82, tk_gI 4 0 85), (85, tk_sI 4 87), (87, tk_al 3 88), (88, tk_il 2 89), (89, tk_pI 4 0 92), (92, tk_il 4 94), (94, tk_rI)]
set_option maxRecDepth 100000 in
theorem hT_X6_carries (sc : Option (Nat × (Nat → Int32))) : ∀ x ∈ T_X6_carries, tk_So sc M_X6_carries x.1 x.2 := by
  unfold T_X6_carries
  refine List.forall_mem_cons.mpr ⟨so_aload_n dX6_carries_0 rfl rfl, ?_⟩
  refine List.forall_mem_cons.mpr ⟨so_gR (C := RX6) (T := TX6) (N := 12) dX6_carries_1 (by decide) rfl rfl (by decide) rfl in_X6 wf_X6_19 rfl, ?_⟩
  refine List.forall_mem_cons.mpr ⟨so_iload_n dX6_carries_4 rfl rfl, ?_⟩
  refine List.forall_mem_cons.mpr ⟨so_cv (T := TX5) (N := 10) dX6_carries_5 mv_X5_isThing wm_X6_119 (by decide) rfl ⟨rfl, rfl⟩ (by decide) rfl, ?_⟩
  refine List.forall_mem_cons.mpr ⟨so_if_eq dX6_carries_8 (by decide) rfl, ?_⟩
  refine List.forall_mem_cons.mpr ⟨so_aload_n dX6_carries_11 rfl rfl, ?_⟩
  refine List.forall_mem_cons.mpr ⟨so_gR (C := RX6) (T := TX6) (N := 12) dX6_carries_12 (by decide) rfl rfl (by decide) rfl in_X6 wf_X6_19 rfl, ?_⟩
  refine List.forall_mem_cons.mpr ⟨so_iload_n dX6_carries_15 rfl rfl, ?_⟩
  refine List.forall_mem_cons.mpr ⟨so_cv (T := TX5) (N := 10) dX6_carries_16 mv_X5_isKerb wm_X6_94 (by decide) rfl ⟨rfl, rfl⟩ (by decide) rfl, ?_⟩
  refine List.forall_mem_cons.mpr ⟨so_if_ne dX6_carries_19 (by decide) rfl, ?_⟩
  refine List.forall_mem_cons.mpr ⟨so_iconst dX6_carries_22 (by decide) rfl, ?_⟩
  refine List.forall_mem_cons.mpr ⟨so_rI dX6_carries_23 rfl, ?_⟩
  refine List.forall_mem_cons.mpr ⟨so_aload_n dX6_carries_24 rfl rfl, ?_⟩
  refine List.forall_mem_cons.mpr ⟨so_gR (C := RX6) (T := TX6) (N := 12) dX6_carries_25 (by decide) rfl rfl (by decide) rfl in_X6 wf_X6_29 rfl, ?_⟩
  refine List.forall_mem_cons.mpr ⟨so_gR (C := RX1) (T := TX1) (N := 3) dX6_carries_28 (by decide) rfl rfl (by decide) rfl in_X1 wf_X6_122 rfl, ?_⟩
  refine List.forall_mem_cons.mpr ⟨so_iload_n dX6_carries_31 rfl rfl, ?_⟩
  refine List.forall_mem_cons.mpr ⟨so_aaT dX6_carries_32 rfl, ?_⟩
  refine List.forall_mem_cons.mpr ⟨so_astore_n dX6_carries_33 rfl rfl, ?_⟩
  refine List.forall_mem_cons.mpr ⟨so_aload_n dX6_carries_34 rfl rfl, ?_⟩
  refine List.forall_mem_cons.mpr ⟨so_cv (T := TX4) (N := 3) dX6_carries_35 mv_X4_lies wm_X6_164 (by decide) rfl ⟨rfl, rfl⟩ (by decide) rfl, ?_⟩
  refine List.forall_mem_cons.mpr ⟨so_if_eq dX6_carries_38 (by decide) rfl, ?_⟩
  refine List.forall_mem_cons.mpr ⟨so_aload_n dX6_carries_41 rfl rfl, ?_⟩
  refine List.forall_mem_cons.mpr ⟨so_gI (C := RX4) (T := TX4) (N := 3) dX6_carries_42 (by decide) rfl rfl (by decide) rfl in_X4 wf_X6_128 rfl, ?_⟩
  refine List.forall_mem_cons.mpr ⟨so_iload_n dX6_carries_45 rfl rfl, ?_⟩
  refine List.forall_mem_cons.mpr ⟨so_icmp_eq dX6_carries_46 (by decide) rfl, ?_⟩
  refine List.forall_mem_cons.mpr ⟨so_aload_n dX6_carries_49 rfl rfl, ?_⟩
  refine List.forall_mem_cons.mpr ⟨so_gR (C := RX6) (T := TX6) (N := 12) dX6_carries_50 (by decide) rfl rfl (by decide) rfl in_X6 wf_X6_19 rfl, ?_⟩
  refine List.forall_mem_cons.mpr ⟨so_aload_n dX6_carries_53 rfl rfl, ?_⟩
  refine List.forall_mem_cons.mpr ⟨so_gI (C := RX4) (T := TX4) (N := 3) dX6_carries_54 (by decide) rfl rfl (by decide) rfl in_X4 wf_X6_128 rfl, ?_⟩
  refine List.forall_mem_cons.mpr ⟨so_iload_n dX6_carries_57 rfl rfl, ?_⟩
  refine List.forall_mem_cons.mpr ⟨so_cv (T := TX5) (N := 10) dX6_carries_58 mv_X5_areOfOneTown wm_X6_171 (by decide) rfl ⟨rfl, rfl⟩ (by decide) rfl, ?_⟩
  refine List.forall_mem_cons.mpr ⟨so_if_ne dX6_carries_61 (by decide) rfl, ?_⟩
  refine List.forall_mem_cons.mpr ⟨so_bipush dX6_carries_64 (by decide) rfl, ?_⟩
  refine List.forall_mem_cons.mpr ⟨so_rI dX6_carries_66 rfl, ?_⟩
  refine List.forall_mem_cons.mpr ⟨so_aload_n dX6_carries_67 rfl rfl, ?_⟩
  refine List.forall_mem_cons.mpr ⟨so_gR (C := RX6) (T := TX6) (N := 12) dX6_carries_68 (by decide) rfl rfl (by decide) rfl in_X6 wf_X6_29 rfl, ?_⟩
  refine List.forall_mem_cons.mpr ⟨so_aload_n dX6_carries_71 rfl rfl, ?_⟩
  refine List.forall_mem_cons.mpr ⟨so_gR (C := RX6) (T := TX6) (N := 12) dX6_carries_72 (by decide) rfl rfl (by decide) rfl in_X6 wf_X6_36 rfl, ?_⟩
  refine List.forall_mem_cons.mpr ⟨so_cv (T := TX2) (N := 3) dX6_carries_75 mv_X2_nextRow wm_X6_153 (by decide) rfl ⟨rfl, rfl⟩ (by decide) rfl, ?_⟩
  refine List.forall_mem_cons.mpr ⟨so_cv (T := TX1) (N := 3) dX6_carries_78 mv_X1_saveTo wm_X6_157 (by decide) rfl ⟨rfl, rfl⟩ (by decide) rfl, ?_⟩
  refine List.forall_mem_cons.mpr ⟨so_aload_n dX6_carries_81 rfl rfl, ?_⟩
  refine List.forall_mem_cons.mpr ⟨so_gI (C := RX4) (T := TX4) (N := 3) dX6_carries_82 (by decide) rfl rfl (by decide) rfl in_X4 wf_X6_128 rfl, ?_⟩
  refine List.forall_mem_cons.mpr ⟨so_istore dX6_carries_85 rfl, ?_⟩
  refine List.forall_mem_cons.mpr ⟨so_aload_n dX6_carries_87 rfl rfl, ?_⟩
  refine List.forall_mem_cons.mpr ⟨so_iload_n dX6_carries_88 rfl rfl, ?_⟩
  refine List.forall_mem_cons.mpr ⟨so_pI (C := RX4) (T := TX4) (N := 3) dX6_carries_89 (by decide) rfl rfl (by decide) rfl in_X4 wf_X6_128 tyX4 tyX4_ok nmX4 rfl (by decide +kernel) rfl, ?_⟩
  refine List.forall_mem_cons.mpr ⟨so_iload dX6_carries_92 rfl, ?_⟩
  refine List.forall_mem_cons.mpr ⟨so_rI dX6_carries_94 rfl, ?_⟩
  exact fun _ h => absurd h List.not_mem_nil
theorem dX6_undo_0 : decode cX6_undo 0 = .ok (.aload_n 0, 1) := by decide +kernel
theorem dX6_undo_1 : decode cX6_undo 1 = .ok (.getfield 36, 3) := by decide +kernel
theorem dX6_undo_4 : decode cX6_undo 4 = .ok (.getfield 150, 3) := by decide +kernel
theorem dX6_undo_7 : decode cX6_undo 7 = .ok (.iconst 1, 1) := by decide +kernel
theorem dX6_undo_8 : decode cX6_undo 8 = .ok (.if_icmp .ge 6, 3) := by decide +kernel
theorem dX6_undo_11 : decode cX6_undo 11 = .ok (.bipush (-2), 2) := by decide +kernel
theorem dX6_undo_13 : decode cX6_undo 13 = .ok (.ireturn, 1) := by decide +kernel
theorem dX6_undo_14 : decode cX6_undo 14 = .ok (.aload_n 0, 1) := by decide +kernel
theorem dX6_undo_15 : decode cX6_undo 15 = .ok (.getfield 29, 3) := by decide +kernel
theorem dX6_undo_18 : decode cX6_undo 18 = .ok (.aload_n 0, 1) := by decide +kernel
theorem dX6_undo_19 : decode cX6_undo 19 = .ok (.getfield 36, 3) := by decide +kernel
theorem dX6_undo_22 : decode cX6_undo 22 = .ok (.invokevirtual 175, 3) := by decide +kernel
theorem dX6_undo_25 : decode cX6_undo 25 = .ok (.invokevirtual 178, 3) := by decide +kernel
theorem dX6_undo_28 : decode cX6_undo 28 = .ok (.aload_n 0, 1) := by decide +kernel
theorem dX6_undo_29 : decode cX6_undo 29 = .ok (.getfield 36, 3) := by decide +kernel
theorem dX6_undo_32 : decode cX6_undo 32 = .ok (.getfield 150, 3) := by decide +kernel
theorem dX6_undo_35 : decode cX6_undo 35 = .ok (.ireturn, 1) := by decide +kernel
def T_X6_undo : tk_Tb := [(0, tk_al 0 1), (1, tk_gR 6 4 4), (4, tk_gI 2 1 7), (7, tk_ic (1) 8), (8, tk_cm (fun x y => y ≤ x) 14 11), (11, tk_ic (-2) 13), (13, tk_rI), (14, tk_al 0 15), (15, tk_gR 6 3 18), (18, tk_al 0 19), (19, tk_gR 6 4 22), (22, tk_cv 2 M_X2_latestRow 0 25), (25, tk_cv 1 M_X1_loadFrom 1 28), (28, tk_al 0 29), (29, tk_gR 6 4 32), (32, tk_gI 2 1 35), (35, tk_rI)]
set_option maxRecDepth 100000 in
theorem hT_X6_undo (sc : Option (Nat × (Nat → Int32))) : ∀ x ∈ T_X6_undo, tk_So sc M_X6_undo x.1 x.2 := by
  unfold T_X6_undo
  refine List.forall_mem_cons.mpr ⟨so_aload_n dX6_undo_0 rfl rfl, ?_⟩
  refine List.forall_mem_cons.mpr ⟨so_gR (C := RX6) (T := TX6) (N := 12) dX6_undo_1 (by decide) rfl rfl (by decide) rfl in_X6 wf_X6_36 rfl, ?_⟩
  refine List.forall_mem_cons.mpr ⟨so_gI (C := RX2) (T := TX2) (N := 3) dX6_undo_4 (by decide) rfl rfl (by decide) rfl in_X2 wf_X6_150 rfl, ?_⟩
  refine List.forall_mem_cons.mpr ⟨so_iconst dX6_undo_7 (by decide) rfl, ?_⟩
  refine List.forall_mem_cons.mpr ⟨so_icmp_ge dX6_undo_8 (by decide) rfl, ?_⟩
  refine List.forall_mem_cons.mpr ⟨so_bipush dX6_undo_11 (by decide) rfl, ?_⟩
  refine List.forall_mem_cons.mpr ⟨so_rI dX6_undo_13 rfl, ?_⟩
  refine List.forall_mem_cons.mpr ⟨so_aload_n dX6_undo_14 rfl rfl, ?_⟩
  refine List.forall_mem_cons.mpr ⟨so_gR (C := RX6) (T := TX6) (N := 12) dX6_undo_15 (by decide) rfl rfl (by decide) rfl in_X6 wf_X6_29 rfl, ?_⟩
  refine List.forall_mem_cons.mpr ⟨so_aload_n dX6_undo_18 rfl rfl, ?_⟩
  refine List.forall_mem_cons.mpr ⟨so_gR (C := RX6) (T := TX6) (N := 12) dX6_undo_19 (by decide) rfl rfl (by decide) rfl in_X6 wf_X6_36 rfl, ?_⟩
  refine List.forall_mem_cons.mpr ⟨so_cv (T := TX2) (N := 3) dX6_undo_22 mv_X2_latestRow wm_X6_175 (by decide) rfl ⟨rfl, rfl⟩ (by decide) rfl, ?_⟩
  refine List.forall_mem_cons.mpr ⟨so_cv (T := TX1) (N := 3) dX6_undo_25 mv_X1_loadFrom wm_X6_178 (by decide) rfl ⟨rfl, rfl⟩ (by decide) rfl, ?_⟩
  refine List.forall_mem_cons.mpr ⟨so_aload_n dX6_undo_28 rfl rfl, ?_⟩
  refine List.forall_mem_cons.mpr ⟨so_gR (C := RX6) (T := TX6) (N := 12) dX6_undo_29 (by decide) rfl rfl (by decide) rfl in_X6 wf_X6_36 rfl, ?_⟩
  refine List.forall_mem_cons.mpr ⟨so_gI (C := RX2) (T := TX2) (N := 3) dX6_undo_32 (by decide) rfl rfl (by decide) rfl in_X2 wf_X6_150 rfl, ?_⟩
  refine List.forall_mem_cons.mpr ⟨so_rI dX6_undo_35 rfl, ?_⟩
  exact fun _ h => absurd h List.not_mem_nil
theorem dX6_level_0 : decode cX6_level 0 = .ok (.iload_n 1, 1) := by decide +kernel
theorem dX6_level_1 : decode cX6_level 1 = .ok (.iconst 0, 1) := by decide +kernel
theorem dX6_level_2 : decode cX6_level 2 = .ok (.sipush 9999, 3) := by decide +kernel
theorem dX6_level_5 : decode cX6_level 5 = .ok (.invokestatic 69, 3) := by decide +kernel
theorem dX6_level_8 : decode cX6_level 8 = .ok (.ifCond .eq 14, 3) := by decide +kernel
theorem dX6_level_11 : decode cX6_level 11 = .ok (.aload_n 0, 1) := by decide +kernel
theorem dX6_level_12 : decode cX6_level 12 = .ok (.getfield 19, 3) := by decide +kernel
theorem dX6_level_15 : decode cX6_level 15 = .ok (.iload_n 1, 1) := by decide +kernel
theorem dX6_level_16 : decode cX6_level 16 = .ok (.invokevirtual 141, 3) := by decide +kernel
theorem dX6_level_19 : decode cX6_level 19 = .ok (.goto 4, 3) := by decide +kernel
theorem dX6_level_22 : decode cX6_level 22 = .ok (.iconst (-1), 1) := by decide +kernel
theorem dX6_level_23 : decode cX6_level 23 = .ok (.ireturn, 1) := by decide +kernel
def T_X6_level : tk_Tb := [(0, tk_il 1 1), (1, tk_ic (0) 2), (2, tk_ic (9999) 5), (5, tk_cs M_X6_isWithin 3 8), (8, tk_br (fun x => x = 0) 22 11), (11, tk_al 0 12), (12, tk_gR 6 1 15), (15, tk_il 1 16), (16, tk_cv 5 M_X5_levelOf 1 19), (19, tk_jmp 23), (22, tk_ic (-1) 23), (23, tk_rI)]
set_option maxRecDepth 100000 in
theorem hT_X6_level (sc : Option (Nat × (Nat → Int32))) : ∀ x ∈ T_X6_level, tk_So sc M_X6_level x.1 x.2 := by
  unfold T_X6_level
  refine List.forall_mem_cons.mpr ⟨so_iload_n dX6_level_0 rfl rfl, ?_⟩
  refine List.forall_mem_cons.mpr ⟨so_iconst dX6_level_1 (by decide) rfl, ?_⟩
  refine List.forall_mem_cons.mpr ⟨so_sipush dX6_level_2 (by decide) rfl, ?_⟩
  refine List.forall_mem_cons.mpr ⟨so_cs dX6_level_5 mv_X6_isWithin wm_X6_69 ⟨rfl, rfl⟩ (by decide) rfl, ?_⟩
  refine List.forall_mem_cons.mpr ⟨so_if_eq dX6_level_8 (by decide) rfl, ?_⟩
  refine List.forall_mem_cons.mpr ⟨so_aload_n dX6_level_11 rfl rfl, ?_⟩
  refine List.forall_mem_cons.mpr ⟨so_gR (C := RX6) (T := TX6) (N := 12) dX6_level_12 (by decide) rfl rfl (by decide) rfl in_X6 wf_X6_19 rfl, ?_⟩
  refine List.forall_mem_cons.mpr ⟨so_iload_n dX6_level_15 rfl rfl, ?_⟩
  refine List.forall_mem_cons.mpr ⟨so_cv (T := TX5) (N := 10) dX6_level_16 mv_X5_levelOf wm_X6_141 (by decide) rfl ⟨rfl, rfl⟩ (by decide) rfl, ?_⟩
  refine List.forall_mem_cons.mpr ⟨so_goto dX6_level_19 (by decide), ?_⟩
  refine List.forall_mem_cons.mpr ⟨so_iconst dX6_level_22 (by decide) rfl, ?_⟩
  refine List.forall_mem_cons.mpr ⟨so_rI dX6_level_23 rfl, ?_⟩
  exact fun _ h => absurd h List.not_mem_nil
theorem dX6_high_0 : decode cX6_high 0 = .ok (.iload_n 1, 1) := by decide +kernel
theorem dX6_high_1 : decode cX6_high 1 = .ok (.iconst 0, 1) := by decide +kernel
theorem dX6_high_2 : decode cX6_high 2 = .ok (.bipush 19, 2) := by decide +kernel
theorem dX6_high_4 : decode cX6_high 4 = .ok (.invokestatic 69, 3) := by decide +kernel
theorem dX6_high_7 : decode cX6_high 7 = .ok (.ifCond .ne 5, 3) := by decide +kernel
theorem dX6_high_10 : decode cX6_high 10 = .ok (.iconst (-1), 1) := by decide +kernel
theorem dX6_high_11 : decode cX6_high 11 = .ok (.ireturn, 1) := by decide +kernel
theorem dX6_high_12 : decode cX6_high 12 = .ok (.iconst 0, 1) := by decide +kernel
theorem dX6_high_13 : decode cX6_high 13 = .ok (.istore_n 2, 1) := by decide +kernel
theorem dX6_high_14 : decode cX6_high 14 = .ok (.iload_n 2, 1) := by decide +kernel
theorem dX6_high_15 : decode cX6_high 15 = .ok (.aload_n 0, 1) := by decide +kernel
theorem dX6_high_16 : decode cX6_high 16 = .ok (.getfield 19, 3) := by decide +kernel
theorem dX6_high_19 : decode cX6_high 19 = .ok (.getfield 181, 3) := by decide +kernel
theorem dX6_high_22 : decode cX6_high 22 = .ok (.if_icmp .ge 39, 3) := by decide +kernel
theorem dX6_high_25 : decode cX6_high 25 = .ok (.aload_n 0, 1) := by decide +kernel
theorem dX6_high_26 : decode cX6_high 26 = .ok (.getfield 19, 3) := by decide +kernel
theorem dX6_high_29 : decode cX6_high 29 = .ok (.aload_n 0, 1) := by decide +kernel
theorem dX6_high_30 : decode cX6_high 30 = .ok (.getfield 29, 3) := by decide +kernel
theorem dX6_high_33 : decode cX6_high 33 = .ok (.getfield 138, 3) := by decide +kernel
theorem dX6_high_36 : decode cX6_high 36 = .ok (.iload_n 2, 1) := by decide +kernel
theorem dX6_high_37 : decode cX6_high 37 = .ok (.iadd, 1) := by decide +kernel
theorem dX6_high_38 : decode cX6_high 38 = .ok (.invokevirtual 141, 3) := by decide +kernel
theorem dX6_high_41 : decode cX6_high 41 = .ok (.iload_n 1, 1) := by decide +kernel
theorem dX6_high_42 : decode cX6_high 42 = .ok (.if_icmp .lt 13, 3) := by decide +kernel
theorem dX6_high_45 : decode cX6_high 45 = .ok (.aload_n 0, 1) := by decide +kernel
theorem dX6_high_46 : decode cX6_high 46 = .ok (.getfield 29, 3) := by decide +kernel
theorem dX6_high_49 : decode cX6_high 49 = .ok (.getfield 138, 3) := by decide +kernel
theorem dX6_high_52 : decode cX6_high 52 = .ok (.iload_n 2, 1) := by decide +kernel
theorem dX6_high_53 : decode cX6_high 53 = .ok (.iadd, 1) := by decide +kernel
theorem dX6_high_54 : decode cX6_high 54 = .ok (.ireturn, 1) := by decide +kernel
theorem dX6_high_55 : decode cX6_high 55 = .ok (.iinc 2 1, 3) := by decide +kernel
theorem dX6_high_58 : decode cX6_high 58 = .ok (.goto (-44), 3) := by decide +kernel
theorem dX6_high_61 : decode cX6_high 61 = .ok (.bipush (-9), 2) := by decide +kernel
theorem dX6_high_63 : decode cX6_high 63 = .ok (.ireturn, 1) := by decide +kernel
def T_X6_high : tk_Tb := [(0, tk_il 1 1), (1, tk_ic (0) 2), (2, tk_ic (19) 4), (4, tk_cs M_X6_isWithin 3 7), (7, tk_br (fun x => x = 0) 10 12), (10, tk_ic (-1) 11), (11, tk_rI), (12, tk_ic (0) 13), (13, tk_sI 2 14), (14, tk_il 2 15), (15, tk_al 0 16), (16, tk_gR 6 1 19), (19, tk_gI 5 0 22), (22, tk_cm (fun x y => y ≤ x) 61 25), (25, tk_al 0 26), (26, tk_gR 6 1 29), (29, tk_al 0 30), (30, tk_gR 6 3 33), (33, tk_gI 1 0 36), (36, tk_il 2 37), (37, tk_bi (fun x y => x + y) 38), (38, tk_cv 5 M_X5_levelOf 1 41), (41, tk_il 1 42), (42, tk_cm (fun x y => x < y) 55 45), (45, tk_al 0 46), (46, tk_gR 6 3 49), (49, tk_gI 1 0 52), (52, tk_il 2 53), (53, tk_bi (fun x y => x + y) 54), (54, tk_rI), (55, tk_inc 2 (1) 58), (58, tk_jmp 14), (61, tk_ic (-9) 63), (63, tk_rI)]
set_option maxRecDepth 100000 in
theorem hT_X6_high (sc : Option (Nat × (Nat → Int32))) : ∀ x ∈ T_X6_high, tk_So sc M_X6_high x.1 x.2 := by
  unfold T_X6_high
  refine List.forall_mem_cons.mpr ⟨so_iload_n dX6_high_0 rfl rfl, ?_⟩
  refine List.forall_mem_cons.mpr ⟨so_iconst dX6_high_1 (by decide) rfl, ?_⟩
  refine List.forall_mem_cons.mpr ⟨so_bipush dX6_high_2 (by decide) rfl, ?_⟩
  refine List.forall_mem_cons.mpr ⟨so_cs dX6_high_4 mv_X6_isWithin wm_X6_69 ⟨rfl, rfl⟩ (by decide) rfl, ?_⟩
  refine List.forall_mem_cons.mpr ⟨so_if_ne dX6_high_7 (by decide) rfl, ?_⟩
  refine List.forall_mem_cons.mpr ⟨so_iconst dX6_high_10 (by decide) rfl, ?_⟩
  refine List.forall_mem_cons.mpr ⟨so_rI dX6_high_11 rfl, ?_⟩
  refine List.forall_mem_cons.mpr ⟨so_iconst dX6_high_12 (by decide) rfl, ?_⟩
  refine List.forall_mem_cons.mpr ⟨so_istore_n dX6_high_13 rfl rfl, ?_⟩
  refine List.forall_mem_cons.mpr ⟨so_iload_n dX6_high_14 rfl rfl, ?_⟩
  refine List.forall_mem_cons.mpr ⟨so_aload_n dX6_high_15 rfl rfl, ?_⟩
  refine List.forall_mem_cons.mpr ⟨so_gR (C := RX6) (T := TX6) (N := 12) dX6_high_16 (by decide) rfl rfl (by decide) rfl in_X6 wf_X6_19 rfl, ?_⟩
  refine List.forall_mem_cons.mpr ⟨so_gI (C := RX5) (T := TX5) (N := 10) dX6_high_19 (by decide) rfl rfl (by decide) rfl in_X5 wf_X6_181 rfl, ?_⟩
  refine List.forall_mem_cons.mpr ⟨so_icmp_ge dX6_high_22 (by decide) rfl, ?_⟩
  refine List.forall_mem_cons.mpr ⟨so_aload_n dX6_high_25 rfl rfl, ?_⟩
  refine List.forall_mem_cons.mpr ⟨so_gR (C := RX6) (T := TX6) (N := 12) dX6_high_26 (by decide) rfl rfl (by decide) rfl in_X6 wf_X6_19 rfl, ?_⟩
  refine List.forall_mem_cons.mpr ⟨so_aload_n dX6_high_29 rfl rfl, ?_⟩
  refine List.forall_mem_cons.mpr ⟨so_gR (C := RX6) (T := TX6) (N := 12) dX6_high_30 (by decide) rfl rfl (by decide) rfl in_X6 wf_X6_29 rfl, ?_⟩
  refine List.forall_mem_cons.mpr ⟨so_gI (C := RX1) (T := TX1) (N := 3) dX6_high_33 (by decide) rfl rfl (by decide) rfl in_X1 wf_X6_138 rfl, ?_⟩
  refine List.forall_mem_cons.mpr ⟨so_iload_n dX6_high_36 rfl rfl, ?_⟩
  refine List.forall_mem_cons.mpr ⟨so_iadd dX6_high_37 rfl, ?_⟩
  refine List.forall_mem_cons.mpr ⟨so_cv (T := TX5) (N := 10) dX6_high_38 mv_X5_levelOf wm_X6_141 (by decide) rfl ⟨rfl, rfl⟩ (by decide) rfl, ?_⟩
  refine List.forall_mem_cons.mpr ⟨so_iload_n dX6_high_41 rfl rfl, ?_⟩
  refine List.forall_mem_cons.mpr ⟨so_icmp_lt dX6_high_42 (by decide) rfl, ?_⟩
  refine List.forall_mem_cons.mpr ⟨so_aload_n dX6_high_45 rfl rfl, ?_⟩
  refine List.forall_mem_cons.mpr ⟨so_gR (C := RX6) (T := TX6) (N := 12) dX6_high_46 (by decide) rfl rfl (by decide) rfl in_X6 wf_X6_29 rfl, ?_⟩
  refine List.forall_mem_cons.mpr ⟨so_gI (C := RX1) (T := TX1) (N := 3) dX6_high_49 (by decide) rfl rfl (by decide) rfl in_X1 wf_X6_138 rfl, ?_⟩
  refine List.forall_mem_cons.mpr ⟨so_iload_n dX6_high_52 rfl rfl, ?_⟩
  refine List.forall_mem_cons.mpr ⟨so_iadd dX6_high_53 rfl, ?_⟩
  refine List.forall_mem_cons.mpr ⟨so_rI dX6_high_54 rfl, ?_⟩
  refine List.forall_mem_cons.mpr ⟨so_iinc dX6_high_55 (by decide) rfl, ?_⟩
  refine List.forall_mem_cons.mpr ⟨so_goto dX6_high_58 (by decide), ?_⟩
  refine List.forall_mem_cons.mpr ⟨so_bipush dX6_high_61 (by decide) rfl, ?_⟩
  refine List.forall_mem_cons.mpr ⟨so_rI dX6_high_63 rfl, ?_⟩
  exact fun _ h => absurd h List.not_mem_nil
theorem dX6_flood_0 : decode cX6_flood 0 = .ok (.iload_n 1, 1) := by decide +kernel
theorem dX6_flood_1 : decode cX6_flood 1 = .ok (.iconst 0, 1) := by decide +kernel
theorem dX6_flood_2 : decode cX6_flood 2 = .ok (.sipush 9999, 3) := by decide +kernel
theorem dX6_flood_5 : decode cX6_flood 5 = .ok (.invokestatic 69, 3) := by decide +kernel
theorem dX6_flood_8 : decode cX6_flood 8 = .ok (.ifCond .eq 21, 3) := by decide +kernel
theorem dX6_flood_11 : decode cX6_flood 11 = .ok (.aload_n 0, 1) := by decide +kernel
theorem dX6_flood_12 : decode cX6_flood 12 = .ok (.getfield 19, 3) := by decide +kernel
theorem dX6_flood_15 : decode cX6_flood 15 = .ok (.aload_n 0, 1) := by decide +kernel
theorem dX6_flood_16 : decode cX6_flood 16 = .ok (.getfield 19, 3) := by decide +kernel
theorem dX6_flood_19 : decode cX6_flood 19 = .ok (.iload_n 1, 1) := by decide +kernel
theorem dX6_flood_20 : decode cX6_flood 20 = .ok (.invokevirtual 141, 3) := by decide +kernel
theorem dX6_flood_23 : decode cX6_flood 23 = .ok (.invokevirtual 147, 3) := by decide +kernel
theorem dX6_flood_26 : decode cX6_flood 26 = .ok (.goto 4, 3) := by decide +kernel
theorem dX6_flood_29 : decode cX6_flood 29 = .ok (.iconst (-1), 1) := by decide +kernel
theorem dX6_flood_30 : decode cX6_flood 30 = .ok (.ireturn, 1) := by decide +kernel
def T_X6_flood : tk_Tb := [(0, tk_il 1 1), (1, tk_ic (0) 2), (2, tk_ic (9999) 5), (5, tk_cs M_X6_isWithin 3 8), (8, tk_br (fun x => x = 0) 29 11), (11, tk_al 0 12), (12, tk_gR 6 1 15), (15, tk_al 0 16), (16, tk_gR 6 1 19), (19, tk_il 1 20), (20, tk_cv 5 M_X5_levelOf 1 23), (23, tk_cv 5 M_X5_floodedBy 1 26), (26, tk_jmp 30), (29, tk_ic (-1) 30), (30, tk_rI)]
set_option maxRecDepth 100000 in
theorem hT_X6_flood (sc : Option (Nat × (Nat → Int32))) : ∀ x ∈ T_X6_flood, tk_So sc M_X6_flood x.1 x.2 := by
  unfold T_X6_flood
  refine List.forall_mem_cons.mpr ⟨so_iload_n dX6_flood_0 rfl rfl, ?_⟩
  refine List.forall_mem_cons.mpr ⟨so_iconst dX6_flood_1 (by decide) rfl, ?_⟩
  refine List.forall_mem_cons.mpr ⟨so_sipush dX6_flood_2 (by decide) rfl, ?_⟩
  refine List.forall_mem_cons.mpr ⟨so_cs dX6_flood_5 mv_X6_isWithin wm_X6_69 ⟨rfl, rfl⟩ (by decide) rfl, ?_⟩
  refine List.forall_mem_cons.mpr ⟨so_if_eq dX6_flood_8 (by decide) rfl, ?_⟩
  refine List.forall_mem_cons.mpr ⟨so_aload_n dX6_flood_11 rfl rfl, ?_⟩
  refine List.forall_mem_cons.mpr ⟨so_gR (C := RX6) (T := TX6) (N := 12) dX6_flood_12 (by decide) rfl rfl (by decide) rfl in_X6 wf_X6_19 rfl, ?_⟩
  refine List.forall_mem_cons.mpr ⟨so_aload_n dX6_flood_15 rfl rfl, ?_⟩
  refine List.forall_mem_cons.mpr ⟨so_gR (C := RX6) (T := TX6) (N := 12) dX6_flood_16 (by decide) rfl rfl (by decide) rfl in_X6 wf_X6_19 rfl, ?_⟩
  refine List.forall_mem_cons.mpr ⟨so_iload_n dX6_flood_19 rfl rfl, ?_⟩
  refine List.forall_mem_cons.mpr ⟨so_cv (T := TX5) (N := 10) dX6_flood_20 mv_X5_levelOf wm_X6_141 (by decide) rfl ⟨rfl, rfl⟩ (by decide) rfl, ?_⟩
  refine List.forall_mem_cons.mpr ⟨so_cv (T := TX5) (N := 10) dX6_flood_23 mv_X5_floodedBy wm_X6_147 (by decide) rfl ⟨rfl, rfl⟩ (by decide) rfl, ?_⟩
  refine List.forall_mem_cons.mpr ⟨so_goto dX6_flood_26 (by decide), ?_⟩
  refine List.forall_mem_cons.mpr ⟨so_iconst dX6_flood_29 (by decide) rfl, ?_⟩
  refine List.forall_mem_cons.mpr ⟨so_rI dX6_flood_30 rfl, ?_⟩
  exact fun _ h => absurd h List.not_mem_nil
theorem dX6_where_0 : decode cX6_where 0 = .ok (.aload_n 0, 1) := by decide +kernel
theorem dX6_where_1 : decode cX6_where 1 = .ok (.getfield 19, 3) := by decide +kernel
theorem dX6_where_4 : decode cX6_where 4 = .ok (.iload_n 1, 1) := by decide +kernel
theorem dX6_where_5 : decode cX6_where 5 = .ok (.invokevirtual 119, 3) := by decide +kernel
theorem dX6_where_8 : decode cX6_where 8 = .ok (.ifCond .eq 14, 3) := by decide +kernel
theorem dX6_where_11 : decode cX6_where 11 = .ok (.iload_n 2, 1) := by decide +kernel
theorem dX6_where_12 : decode cX6_where 12 = .ok (.iconst 0, 1) := by decide +kernel
theorem dX6_where_13 : decode cX6_where 13 = .ok (.sipush 400, 3) := by decide +kernel
theorem dX6_where_16 : decode cX6_where 16 = .ok (.invokestatic 69, 3) := by decide +kernel
theorem dX6_where_19 : decode cX6_where 19 = .ok (.ifCond .ne 5, 3) := by decide +kernel
theorem dX6_where_22 : decode cX6_where 22 = .ok (.iconst (-1), 1) := by decide +kernel
theorem dX6_where_23 : decode cX6_where 23 = .ok (.ireturn, 1) := by decide +kernel
theorem dX6_where_24 : decode cX6_where 24 = .ok (.aload_n 0, 1) := by decide +kernel
theorem dX6_where_25 : decode cX6_where 25 = .ok (.getfield 62, 3) := by decide +kernel
theorem dX6_where_28 : decode cX6_where 28 = .ok (.aload_n 0, 1) := by decide +kernel
theorem dX6_where_29 : decode cX6_where 29 = .ok (.getfield 29, 3) := by decide +kernel
theorem dX6_where_32 : decode cX6_where 32 = .ok (.getfield 122, 3) := by decide +kernel
theorem dX6_where_35 : decode cX6_where 35 = .ok (.iload_n 1, 1) := by decide +kernel
theorem dX6_where_36 : decode cX6_where 36 = .ok (.aaload, 1) := by decide +kernel
theorem dX6_where_37 : decode cX6_where 37 = .ok (.invokevirtual 184, 3) := by decide +kernel
theorem dX6_where_40 : decode cX6_where 40 = .ok (.iconst 0, 1) := by decide +kernel
theorem dX6_where_41 : decode cX6_where 41 = .ok (.istore_n 3, 1) := by decide +kernel
theorem dX6_where_42 : decode cX6_where 42 = .ok (.iload_n 3, 1) := by decide +kernel
theorem dX6_where_43 : decode cX6_where 43 = .ok (.iload_n 2, 1) := by decide +kernel
theorem dX6_where_44 : decode cX6_where 44 = .ok (.if_icmp .ge 37, 3) := by decide +kernel
theorem dX6_where_47 : decode cX6_where 47 = .ok (.aload_n 0, 1) := by decide +kernel
theorem dX6_where_48 : decode cX6_where 48 = .ok (.getfield 62, 3) := by decide +kernel
theorem dX6_where_51 : decode cX6_where 51 = .ok (.aload_n 0, 1) := by decide +kernel
theorem dX6_where_52 : decode cX6_where 52 = .ok (.getfield 19, 3) := by decide +kernel
theorem dX6_where_55 : decode cX6_where 55 = .ok (.aload_n 0, 1) := by decide +kernel
theorem dX6_where_56 : decode cX6_where 56 = .ok (.getfield 19, 3) := by decide +kernel
theorem dX6_where_59 : decode cX6_where 59 = .ok (.aload_n 0, 1) := by decide +kernel
theorem dX6_where_60 : decode cX6_where 60 = .ok (.getfield 29, 3) := by decide +kernel
theorem dX6_where_63 : decode cX6_where 63 = .ok (.getfield 138, 3) := by decide +kernel
theorem dX6_where_66 : decode cX6_where 66 = .ok (.iload_n 3, 1) := by decide +kernel
theorem dX6_where_67 : decode cX6_where 67 = .ok (.iadd, 1) := by decide +kernel
theorem dX6_where_68 : decode cX6_where 68 = .ok (.invokevirtual 141, 3) := by decide +kernel
theorem dX6_where_71 : decode cX6_where 71 = .ok (.invokevirtual 188, 3) := by decide +kernel
theorem dX6_where_74 : decode cX6_where 74 = .ok (.pop, 1) := by decide +kernel
theorem dX6_where_75 : decode cX6_where 75 = .ok (.iinc 3 1, 3) := by decide +kernel
theorem dX6_where_78 : decode cX6_where 78 = .ok (.goto (-36), 3) := by decide +kernel
theorem dX6_where_81 : decode cX6_where 81 = .ok (.aload_n 0, 1) := by decide +kernel
theorem dX6_where_82 : decode cX6_where 82 = .ok (.getfield 62, 3) := by decide +kernel
theorem dX6_where_85 : decode cX6_where 85 = .ok (.invokevirtual 125, 3) := by decide +kernel
theorem dX6_where_88 : decode cX6_where 88 = .ok (.ireturn, 1) := by decide +kernel
def T_X6_where : tk_Tb := [(0, tk_al 0 1), (1, tk_gR 6 1 4), (4, tk_il 1 5), (5, tk_cv 5 M_X5_isThing 1 8), (8, tk_br (fun x => x = 0) 22 11), (11, tk_il 2 12), (12, tk_ic (0) 13), (13, tk_ic (400) 16), (16, tk_cs M_X6_isWithin 3 19), (19, tk_br (fun x => x = 0) 22 24), (22, tk_ic (-1) 23), (23, tk_rI), (24, tk_al 0 25), (25, tk_gR 6 9 28), (28, tk_al 0 29), (29, tk_gR 6 3 32), (32, tk_gR 1 2 35), (35, tk_il 1 36), (36, tk_aa 11 37), (37, tk_cv 4 M_X4_becomes 1 40), (40, tk_ic (0) 41), (41, tk_sI 3 42), (42, tk_il 3 43), (43, tk_il 2 44), (44, tk_cm (fun x y => y ≤ x) 81 47), (47, tk_al 0 48), (48, tk_gR 6 9 51), (51, tk_al 0 52), (52, tk_gR 6 1 55), (55, tk_al 0 56), (56, tk_gR 6 1 59), (59, tk_al 0 60), (60, tk_gR 6 3 63), (63, tk_gI 1 0 66), (66, tk_il 3 67), (67, tk_bi (fun x y => x + y) 68), (68, tk_cv 5 M_X5_levelOf 1 71), (71, tk_cv 4 M_X4_pass 2 74), (74, tk_pp 75), (75, tk_inc 3 (1) 78), (78, tk_jmp 42), (81, tk_al 0 82), (82, tk_gR 6 9 85), (85, tk_cv 4 M_X4_place 0 88), (88, tk_rI)]
set_option maxRecDepth 100000 in
theorem hT_X6_where (sc : Option (Nat × (Nat → Int32))) : ∀ x ∈ T_X6_where, tk_So sc M_X6_where x.1 x.2 := by
  unfold T_X6_where
  refine List.forall_mem_cons.mpr ⟨so_aload_n dX6_where_0 rfl rfl, ?_⟩
  refine List.forall_mem_cons.mpr ⟨so_gR (C := RX6) (T := TX6) (N := 12) dX6_where_1 (by decide) rfl rfl (by decide) rfl in_X6 wf_X6_19 rfl, ?_⟩
  refine List.forall_mem_cons.mpr ⟨so_iload_n dX6_where_4 rfl rfl, ?_⟩
  refine List.forall_mem_cons.mpr ⟨so_cv (T := TX5) (N := 10) dX6_where_5 mv_X5_isThing wm_X6_119 (by decide) rfl ⟨rfl, rfl⟩ (by decide) rfl, ?_⟩
  refine List.forall_mem_cons.mpr ⟨so_if_eq dX6_where_8 (by decide) rfl, ?_⟩
  refine List.forall_mem_cons.mpr ⟨so_iload_n dX6_where_11 rfl rfl, ?_⟩
  refine List.forall_mem_cons.mpr ⟨so_iconst dX6_where_12 (by decide) rfl, ?_⟩
  refine List.forall_mem_cons.mpr ⟨so_sipush dX6_where_13 (by decide) rfl, ?_⟩
  refine List.forall_mem_cons.mpr ⟨so_cs dX6_where_16 mv_X6_isWithin wm_X6_69 ⟨rfl, rfl⟩ (by decide) rfl, ?_⟩
  refine List.forall_mem_cons.mpr ⟨so_if_ne dX6_where_19 (by decide) rfl, ?_⟩
  refine List.forall_mem_cons.mpr ⟨so_iconst dX6_where_22 (by decide) rfl, ?_⟩
  refine List.forall_mem_cons.mpr ⟨so_rI dX6_where_23 rfl, ?_⟩
  refine List.forall_mem_cons.mpr ⟨so_aload_n dX6_where_24 rfl rfl, ?_⟩
  refine List.forall_mem_cons.mpr ⟨so_gR (C := RX6) (T := TX6) (N := 12) dX6_where_25 (by decide) rfl rfl (by decide) rfl in_X6 wf_X6_62 rfl, ?_⟩
  refine List.forall_mem_cons.mpr ⟨so_aload_n dX6_where_28 rfl rfl, ?_⟩
  refine List.forall_mem_cons.mpr ⟨so_gR (C := RX6) (T := TX6) (N := 12) dX6_where_29 (by decide) rfl rfl (by decide) rfl in_X6 wf_X6_29 rfl, ?_⟩
  refine List.forall_mem_cons.mpr ⟨so_gR (C := RX1) (T := TX1) (N := 3) dX6_where_32 (by decide) rfl rfl (by decide) rfl in_X1 wf_X6_122 rfl, ?_⟩
  refine List.forall_mem_cons.mpr ⟨so_iload_n dX6_where_35 rfl rfl, ?_⟩
  refine List.forall_mem_cons.mpr ⟨so_aaT dX6_where_36 rfl, ?_⟩
  refine List.forall_mem_cons.mpr ⟨so_cv (T := TX4) (N := 3) dX6_where_37 mv_X4_becomes wm_X6_184 (by decide) rfl ⟨rfl, rfl⟩ (by decide) rfl, ?_⟩
  refine List.forall_mem_cons.mpr ⟨so_iconst dX6_where_40 (by decide) rfl, ?_⟩
  refine List.forall_mem_cons.mpr ⟨so_istore_n dX6_where_41 rfl rfl, ?_⟩
  refine List.forall_mem_cons.mpr ⟨so_iload_n dX6_where_42 rfl rfl, ?_⟩
  refine List.forall_mem_cons.mpr ⟨so_iload_n dX6_where_43 rfl rfl, ?_⟩
  refine List.forall_mem_cons.mpr ⟨so_icmp_ge dX6_where_44 (by decide) rfl, ?_⟩
  refine List.forall_mem_cons.mpr ⟨so_aload_n dX6_where_47 rfl rfl, ?_⟩
  refine List.forall_mem_cons.mpr ⟨so_gR (C := RX6) (T := TX6) (N := 12) dX6_where_48 (by decide) rfl rfl (by decide) rfl in_X6 wf_X6_62 rfl, ?_⟩
  refine List.forall_mem_cons.mpr ⟨so_aload_n dX6_where_51 rfl rfl, ?_⟩
  refine List.forall_mem_cons.mpr ⟨so_gR (C := RX6) (T := TX6) (N := 12) dX6_where_52 (by decide) rfl rfl (by decide) rfl in_X6 wf_X6_19 rfl, ?_⟩
  refine List.forall_mem_cons.mpr ⟨so_aload_n dX6_where_55 rfl rfl, ?_⟩
  refine List.forall_mem_cons.mpr ⟨so_gR (C := RX6) (T := TX6) (N := 12) dX6_where_56 (by decide) rfl rfl (by decide) rfl in_X6 wf_X6_19 rfl, ?_⟩
  refine List.forall_mem_cons.mpr ⟨so_aload_n dX6_where_59 rfl rfl, ?_⟩
  refine List.forall_mem_cons.mpr ⟨so_gR (C := RX6) (T := TX6) (N := 12) dX6_where_60 (by decide) rfl rfl (by decide) rfl in_X6 wf_X6_29 rfl, ?_⟩
  refine List.forall_mem_cons.mpr ⟨so_gI (C := RX1) (T := TX1) (N := 3) dX6_where_63 (by decide) rfl rfl (by decide) rfl in_X1 wf_X6_138 rfl, ?_⟩
  refine List.forall_mem_cons.mpr ⟨so_iload_n dX6_where_66 rfl rfl, ?_⟩
  refine List.forall_mem_cons.mpr ⟨so_iadd dX6_where_67 rfl, ?_⟩
  refine List.forall_mem_cons.mpr ⟨so_cv (T := TX5) (N := 10) dX6_where_68 mv_X5_levelOf wm_X6_141 (by decide) rfl ⟨rfl, rfl⟩ (by decide) rfl, ?_⟩
  refine List.forall_mem_cons.mpr ⟨so_cv (T := TX4) (N := 3) dX6_where_71 mv_X4_pass wm_X6_188 (by decide) rfl ⟨rfl, rfl⟩ (by decide) rfl, ?_⟩
  refine List.forall_mem_cons.mpr ⟨so_pop dX6_where_74 rfl, ?_⟩
  refine List.forall_mem_cons.mpr ⟨so_iinc dX6_where_75 (by decide) rfl, ?_⟩
  refine List.forall_mem_cons.mpr ⟨so_goto dX6_where_78 (by decide), ?_⟩
  refine List.forall_mem_cons.mpr ⟨so_aload_n dX6_where_81 rfl rfl, ?_⟩
  refine List.forall_mem_cons.mpr ⟨so_gR (C := RX6) (T := TX6) (N := 12) dX6_where_82 (by decide) rfl rfl (by decide) rfl in_X6 wf_X6_62 rfl, ?_⟩
  refine List.forall_mem_cons.mpr ⟨so_cv (T := TX4) (N := 3) dX6_where_85 mv_X4_place wm_X6_125 (by decide) rfl ⟨rfl, rfl⟩ (by decide) rfl, ?_⟩
  refine List.forall_mem_cons.mpr ⟨so_rI dX6_where_88 rfl, ?_⟩
  exact fun _ h => absurd h List.not_mem_nil
theorem dX6_firstTideOn_0 : decode cX6_firstTideOn 0 = .ok (.iconst 0, 1) := by decide +kernel
theorem dX6_firstTideOn_1 : decode cX6_firstTideOn 1 = .ok (.istore_n 3, 1) := by decide +kernel
theorem dX6_firstTideOn_2 : decode cX6_firstTideOn 2 = .ok (.iload_n 3, 1) := by decide +kernel
theorem dX6_firstTideOn_3 : decode cX6_firstTideOn 3 = .ok (.sipush 400, 3) := by decide +kernel
theorem dX6_firstTideOn_6 : decode cX6_firstTideOn 6 = .ok (.if_icmp .gt 52, 3) := by decide +kernel
theorem dX6_firstTideOn_9 : decode cX6_firstTideOn 9 = .ok (.aload_n 1, 1) := by decide +kernel
theorem dX6_firstTideOn_10 : decode cX6_firstTideOn 10 = .ok (.iload_n 2, 1) := by decide +kernel
theorem dX6_firstTideOn_11 : decode cX6_firstTideOn 11 = .ok (.invokevirtual 202, 3) := by decide +kernel
theorem dX6_firstTideOn_14 : decode cX6_firstTideOn 14 = .ok (.ifCond .eq 13, 3) := by decide +kernel
theorem dX6_firstTideOn_17 : decode cX6_firstTideOn 17 = .ok (.aload_n 0, 1) := by decide +kernel
theorem dX6_firstTideOn_18 : decode cX6_firstTideOn 18 = .ok (.getfield 29, 3) := by decide +kernel
theorem dX6_firstTideOn_21 : decode cX6_firstTideOn 21 = .ok (.getfield 138, 3) := by decide +kernel
theorem dX6_firstTideOn_24 : decode cX6_firstTideOn 24 = .ok (.iload_n 3, 1) := by decide +kernel
theorem dX6_firstTideOn_25 : decode cX6_firstTideOn 25 = .ok (.iadd, 1) := by decide +kernel
theorem dX6_firstTideOn_26 : decode cX6_firstTideOn 26 = .ok (.ireturn, 1) := by decide +kernel
theorem dX6_firstTideOn_27 : decode cX6_firstTideOn 27 = .ok (.aload_n 1, 1) := by decide +kernel
theorem dX6_firstTideOn_28 : decode cX6_firstTideOn 28 = .ok (.aload_n 0, 1) := by decide +kernel
theorem dX6_firstTideOn_29 : decode cX6_firstTideOn 29 = .ok (.getfield 19, 3) := by decide +kernel
theorem dX6_firstTideOn_32 : decode cX6_firstTideOn 32 = .ok (.aload_n 0, 1) := by decide +kernel
theorem dX6_firstTideOn_33 : decode cX6_firstTideOn 33 = .ok (.getfield 19, 3) := by decide +kernel
theorem dX6_firstTideOn_36 : decode cX6_firstTideOn 36 = .ok (.aload_n 0, 1) := by decide +kernel
theorem dX6_firstTideOn_37 : decode cX6_firstTideOn 37 = .ok (.getfield 29, 3) := by decide +kernel
theorem dX6_firstTideOn_40 : decode cX6_firstTideOn 40 = .ok (.getfield 138, 3) := by decide +kernel
theorem dX6_firstTideOn_43 : decode cX6_firstTideOn 43 = .ok (.iload_n 3, 1) := by decide +kernel
theorem dX6_firstTideOn_44 : decode cX6_firstTideOn 44 = .ok (.iadd, 1) := by decide +kernel
theorem dX6_firstTideOn_45 : decode cX6_firstTideOn 45 = .ok (.invokevirtual 141, 3) := by decide +kernel
theorem dX6_firstTideOn_48 : decode cX6_firstTideOn 48 = .ok (.invokevirtual 188, 3) := by decide +kernel
theorem dX6_firstTideOn_51 : decode cX6_firstTideOn 51 = .ok (.pop, 1) := by decide +kernel
theorem dX6_firstTideOn_52 : decode cX6_firstTideOn 52 = .ok (.iinc 3 1, 3) := by decide +kernel
theorem dX6_firstTideOn_55 : decode cX6_firstTideOn 55 = .ok (.goto (-53), 3) := by decide +kernel
theorem dX6_firstTideOn_58 : decode cX6_firstTideOn 58 = .ok (.bipush (-9), 2) := by decide +kernel
theorem dX6_firstTideOn_60 : decode cX6_firstTideOn 60 = .ok (.ireturn, 1) := by decide +kernel
def T_X6_firstTideOn : tk_Tb := [(0, tk_ic (0) 1), (1, tk_sI 3 2), (2, tk_il 3 3), (3, tk_ic (400) 6), (6, tk_cm (fun x y => y < x) 58 9), (9, tk_al 1 10), (10, tk_il 2 11), (11, tk_cv 4 M_X4_liesOn 1 14), (14, tk_br (fun x => x = 0) 27 17), (17, tk_al 0 18), (18, tk_gR 6 3 21), (21, tk_gI 1 0 24), (24, tk_il 3 25), (25, tk_bi (fun x y => x + y) 26), (26, tk_rI), (27, tk_al 1 28), (28, tk_al 0 29), (29, tk_gR 6 1 32), (32, tk_al 0 33), (33, tk_gR 6 1 36), (36, tk_al 0 37), (37, tk_gR 6 3 40), (40, tk_gI 1 0 43), (43, tk_il 3 44), (44, tk_bi (fun x y => x + y) 45), (45, tk_cv 5 M_X5_levelOf 1 48), (48, tk_cv 4 M_X4_pass 2 51), (51, tk_pp 52), (52, tk_inc 3 (1) 55), (55, tk_jmp 2), (58, tk_ic (-9) 60), (60, tk_rI)]
set_option maxRecDepth 100000 in
theorem hT_X6_firstTideOn (sc : Option (Nat × (Nat → Int32))) : ∀ x ∈ T_X6_firstTideOn, tk_So sc M_X6_firstTideOn x.1 x.2 := by
  unfold T_X6_firstTideOn
  refine List.forall_mem_cons.mpr ⟨so_iconst dX6_firstTideOn_0 (by decide) rfl, ?_⟩
  refine List.forall_mem_cons.mpr ⟨so_istore_n dX6_firstTideOn_1 rfl rfl, ?_⟩
  refine List.forall_mem_cons.mpr ⟨so_iload_n dX6_firstTideOn_2 rfl rfl, ?_⟩
  refine List.forall_mem_cons.mpr ⟨so_sipush dX6_firstTideOn_3 (by decide) rfl, ?_⟩
  refine List.forall_mem_cons.mpr ⟨so_icmp_gt dX6_firstTideOn_6 (by decide) rfl, ?_⟩
  refine List.forall_mem_cons.mpr ⟨so_aload_n dX6_firstTideOn_9 rfl rfl, ?_⟩
  refine List.forall_mem_cons.mpr ⟨so_iload_n dX6_firstTideOn_10 rfl rfl, ?_⟩
  refine List.forall_mem_cons.mpr ⟨so_cv (T := TX4) (N := 3) dX6_firstTideOn_11 mv_X4_liesOn wm_X6_202 (by decide) rfl ⟨rfl, rfl⟩ (by decide) rfl, ?_⟩
  refine List.forall_mem_cons.mpr ⟨so_if_eq dX6_firstTideOn_14 (by decide) rfl, ?_⟩
  refine List.forall_mem_cons.mpr ⟨so_aload_n dX6_firstTideOn_17 rfl rfl, ?_⟩
  refine List.forall_mem_cons.mpr ⟨so_gR (C := RX6) (T := TX6) (N := 12) dX6_firstTideOn_18 (by decide) rfl rfl (by decide) rfl in_X6 wf_X6_29 rfl, ?_⟩
  refine List.forall_mem_cons.mpr ⟨so_gI (C := RX1) (T := TX1) (N := 3) dX6_firstTideOn_21 (by decide) rfl rfl (by decide) rfl in_X1 wf_X6_138 rfl, ?_⟩
  refine List.forall_mem_cons.mpr ⟨so_iload_n dX6_firstTideOn_24 rfl rfl, ?_⟩
  refine List.forall_mem_cons.mpr ⟨so_iadd dX6_firstTideOn_25 rfl, ?_⟩
  refine List.forall_mem_cons.mpr ⟨so_rI dX6_firstTideOn_26 rfl, ?_⟩
  refine List.forall_mem_cons.mpr ⟨so_aload_n dX6_firstTideOn_27 rfl rfl, ?_⟩
  refine List.forall_mem_cons.mpr ⟨so_aload_n dX6_firstTideOn_28 rfl rfl, ?_⟩
  refine List.forall_mem_cons.mpr ⟨so_gR (C := RX6) (T := TX6) (N := 12) dX6_firstTideOn_29 (by decide) rfl rfl (by decide) rfl in_X6 wf_X6_19 rfl, ?_⟩
  refine List.forall_mem_cons.mpr ⟨so_aload_n dX6_firstTideOn_32 rfl rfl, ?_⟩
  refine List.forall_mem_cons.mpr ⟨so_gR (C := RX6) (T := TX6) (N := 12) dX6_firstTideOn_33 (by decide) rfl rfl (by decide) rfl in_X6 wf_X6_19 rfl, ?_⟩
  refine List.forall_mem_cons.mpr ⟨so_aload_n dX6_firstTideOn_36 rfl rfl, ?_⟩
  refine List.forall_mem_cons.mpr ⟨so_gR (C := RX6) (T := TX6) (N := 12) dX6_firstTideOn_37 (by decide) rfl rfl (by decide) rfl in_X6 wf_X6_29 rfl, ?_⟩
  refine List.forall_mem_cons.mpr ⟨so_gI (C := RX1) (T := TX1) (N := 3) dX6_firstTideOn_40 (by decide) rfl rfl (by decide) rfl in_X1 wf_X6_138 rfl, ?_⟩
  refine List.forall_mem_cons.mpr ⟨so_iload_n dX6_firstTideOn_43 rfl rfl, ?_⟩
  refine List.forall_mem_cons.mpr ⟨so_iadd dX6_firstTideOn_44 rfl, ?_⟩
  refine List.forall_mem_cons.mpr ⟨so_cv (T := TX5) (N := 10) dX6_firstTideOn_45 mv_X5_levelOf wm_X6_141 (by decide) rfl ⟨rfl, rfl⟩ (by decide) rfl, ?_⟩
  refine List.forall_mem_cons.mpr ⟨so_cv (T := TX4) (N := 3) dX6_firstTideOn_48 mv_X4_pass wm_X6_188 (by decide) rfl ⟨rfl, rfl⟩ (by decide) rfl, ?_⟩
  refine List.forall_mem_cons.mpr ⟨so_pop dX6_firstTideOn_51 rfl, ?_⟩
  refine List.forall_mem_cons.mpr ⟨so_iinc dX6_firstTideOn_52 (by decide) rfl, ?_⟩
  refine List.forall_mem_cons.mpr ⟨so_goto dX6_firstTideOn_55 (by decide), ?_⟩
  refine List.forall_mem_cons.mpr ⟨so_bipush dX6_firstTideOn_58 (by decide) rfl, ?_⟩
  refine List.forall_mem_cons.mpr ⟨so_rI dX6_firstTideOn_60 rfl, ?_⟩
  exact fun _ h => absurd h List.not_mem_nil
theorem dX6_when_0 : decode cX6_when 0 = .ok (.aload_n 0, 1) := by decide +kernel
theorem dX6_when_1 : decode cX6_when 1 = .ok (.getfield 19, 3) := by decide +kernel
theorem dX6_when_4 : decode cX6_when 4 = .ok (.iload_n 1, 1) := by decide +kernel
theorem dX6_when_5 : decode cX6_when 5 = .ok (.invokevirtual 119, 3) := by decide +kernel
theorem dX6_when_8 : decode cX6_when 8 = .ok (.ifCond .eq 14, 3) := by decide +kernel
theorem dX6_when_11 : decode cX6_when 11 = .ok (.aload_n 0, 1) := by decide +kernel
theorem dX6_when_12 : decode cX6_when 12 = .ok (.getfield 19, 3) := by decide +kernel
theorem dX6_when_15 : decode cX6_when 15 = .ok (.iload_n 2, 1) := by decide +kernel
theorem dX6_when_16 : decode cX6_when 16 = .ok (.invokevirtual 94, 3) := by decide +kernel
theorem dX6_when_19 : decode cX6_when 19 = .ok (.ifCond .ne 5, 3) := by decide +kernel
theorem dX6_when_22 : decode cX6_when 22 = .ok (.iconst (-1), 1) := by decide +kernel
theorem dX6_when_23 : decode cX6_when 23 = .ok (.ireturn, 1) := by decide +kernel
theorem dX6_when_24 : decode cX6_when 24 = .ok (.aload_n 0, 1) := by decide +kernel
theorem dX6_when_25 : decode cX6_when 25 = .ok (.getfield 62, 3) := by decide +kernel
theorem dX6_when_28 : decode cX6_when 28 = .ok (.aload_n 0, 1) := by decide +kernel
theorem dX6_when_29 : decode cX6_when 29 = .ok (.getfield 29, 3) := by decide +kernel
theorem dX6_when_32 : decode cX6_when 32 = .ok (.getfield 122, 3) := by decide +kernel
theorem dX6_when_35 : decode cX6_when 35 = .ok (.iload_n 1, 1) := by decide +kernel
theorem dX6_when_36 : decode cX6_when 36 = .ok (.aaload, 1) := by decide +kernel
theorem dX6_when_37 : decode cX6_when 37 = .ok (.invokevirtual 184, 3) := by decide +kernel
theorem dX6_when_40 : decode cX6_when 40 = .ok (.aload_n 0, 1) := by decide +kernel
theorem dX6_when_41 : decode cX6_when 41 = .ok (.aload_n 0, 1) := by decide +kernel
theorem dX6_when_42 : decode cX6_when 42 = .ok (.getfield 62, 3) := by decide +kernel
theorem dX6_when_45 : decode cX6_when 45 = .ok (.iload_n 2, 1) := by decide +kernel
theorem dX6_when_46 : decode cX6_when 46 = .ok (.invokevirtual 191, 3) := by decide +kernel
theorem dX6_when_49 : decode cX6_when 49 = .ok (.ireturn, 1) := by decide +kernel
def T_X6_when : tk_Tb := [(0, tk_al 0 1), (1, tk_gR 6 1 4), (4, tk_il 1 5), (5, tk_cv 5 M_X5_isThing 1 8), (8, tk_br (fun x => x = 0) 22 11), (11, tk_al 0 12), (12, tk_gR 6 1 15), (15, tk_il 2 16), (16, tk_cv 5 M_X5_isKerb 1 19), (19, tk_br (fun x => x = 0) 22 24), (22, tk_ic (-1) 23), (23, tk_rI), (24, tk_al 0 25), (25, tk_gR 6 9 28), (28, tk_al 0 29), (29, tk_gR 6 3 32), (32, tk_gR 1 2 35), (35, tk_il 1 36), (36, tk_aa 11 37), (37, tk_cv 4 M_X4_becomes 1 40), (40, tk_al 0 41), (41, tk_al 0 42), (42, tk_gR 6 9 45), (45, tk_il 2 46), (46, tk_cv 6 M_X6_firstTideOn 2 49), (49, tk_rI)]
set_option maxRecDepth 100000 in
theorem hT_X6_when (sc : Option (Nat × (Nat → Int32))) : ∀ x ∈ T_X6_when, tk_So sc M_X6_when x.1 x.2 := by
  unfold T_X6_when
  refine List.forall_mem_cons.mpr ⟨so_aload_n dX6_when_0 rfl rfl, ?_⟩
  refine List.forall_mem_cons.mpr ⟨so_gR (C := RX6) (T := TX6) (N := 12) dX6_when_1 (by decide) rfl rfl (by decide) rfl in_X6 wf_X6_19 rfl, ?_⟩
  refine List.forall_mem_cons.mpr ⟨so_iload_n dX6_when_4 rfl rfl, ?_⟩
  refine List.forall_mem_cons.mpr ⟨so_cv (T := TX5) (N := 10) dX6_when_5 mv_X5_isThing wm_X6_119 (by decide) rfl ⟨rfl, rfl⟩ (by decide) rfl, ?_⟩
  refine List.forall_mem_cons.mpr ⟨so_if_eq dX6_when_8 (by decide) rfl, ?_⟩
  refine List.forall_mem_cons.mpr ⟨so_aload_n dX6_when_11 rfl rfl, ?_⟩
  refine List.forall_mem_cons.mpr ⟨so_gR (C := RX6) (T := TX6) (N := 12) dX6_when_12 (by decide) rfl rfl (by decide) rfl in_X6 wf_X6_19 rfl, ?_⟩
  refine List.forall_mem_cons.mpr ⟨so_iload_n dX6_when_15 rfl rfl, ?_⟩
  refine List.forall_mem_cons.mpr ⟨so_cv (T := TX5) (N := 10) dX6_when_16 mv_X5_isKerb wm_X6_94 (by decide) rfl ⟨rfl, rfl⟩ (by decide) rfl, ?_⟩
  refine List.forall_mem_cons.mpr ⟨so_if_ne dX6_when_19 (by decide) rfl, ?_⟩
  refine List.forall_mem_cons.mpr ⟨so_iconst dX6_when_22 (by decide) rfl, ?_⟩
  refine List.forall_mem_cons.mpr ⟨so_rI dX6_when_23 rfl, ?_⟩
  refine List.forall_mem_cons.mpr ⟨so_aload_n dX6_when_24 rfl rfl, ?_⟩
  refine List.forall_mem_cons.mpr ⟨so_gR (C := RX6) (T := TX6) (N := 12) dX6_when_25 (by decide) rfl rfl (by decide) rfl in_X6 wf_X6_62 rfl, ?_⟩
  refine List.forall_mem_cons.mpr ⟨so_aload_n dX6_when_28 rfl rfl, ?_⟩
  refine List.forall_mem_cons.mpr ⟨so_gR (C := RX6) (T := TX6) (N := 12) dX6_when_29 (by decide) rfl rfl (by decide) rfl in_X6 wf_X6_29 rfl, ?_⟩
  refine List.forall_mem_cons.mpr ⟨so_gR (C := RX1) (T := TX1) (N := 3) dX6_when_32 (by decide) rfl rfl (by decide) rfl in_X1 wf_X6_122 rfl, ?_⟩
  refine List.forall_mem_cons.mpr ⟨so_iload_n dX6_when_35 rfl rfl, ?_⟩
  refine List.forall_mem_cons.mpr ⟨so_aaT dX6_when_36 rfl, ?_⟩
  refine List.forall_mem_cons.mpr ⟨so_cv (T := TX4) (N := 3) dX6_when_37 mv_X4_becomes wm_X6_184 (by decide) rfl ⟨rfl, rfl⟩ (by decide) rfl, ?_⟩
  refine List.forall_mem_cons.mpr ⟨so_aload_n dX6_when_40 rfl rfl, ?_⟩
  refine List.forall_mem_cons.mpr ⟨so_aload_n dX6_when_41 rfl rfl, ?_⟩
  refine List.forall_mem_cons.mpr ⟨so_gR (C := RX6) (T := TX6) (N := 12) dX6_when_42 (by decide) rfl rfl (by decide) rfl in_X6 wf_X6_62 rfl, ?_⟩
  refine List.forall_mem_cons.mpr ⟨so_iload_n dX6_when_45 rfl rfl, ?_⟩
  refine List.forall_mem_cons.mpr ⟨so_cv (T := TX6) (N := 12) dX6_when_46 mv_X6_firstTideOn wm_X6_191 (by decide) rfl ⟨rfl, rfl⟩ (by decide) rfl, ?_⟩
  refine List.forall_mem_cons.mpr ⟨so_rI dX6_when_49 rfl, ?_⟩
  exact fun _ h => absurd h List.not_mem_nil
theorem dX6_send_0 : decode cX6_send 0 = .ok (.aload_n 0, 1) := by decide +kernel
theorem dX6_send_1 : decode cX6_send 1 = .ok (.getfield 19, 3) := by decide +kernel
theorem dX6_send_4 : decode cX6_send 4 = .ok (.iload_n 1, 1) := by decide +kernel
theorem dX6_send_5 : decode cX6_send 5 = .ok (.invokevirtual 119, 3) := by decide +kernel
theorem dX6_send_8 : decode cX6_send 8 = .ok (.ifCond .eq 23, 3) := by decide +kernel
theorem dX6_send_11 : decode cX6_send 11 = .ok (.aload_n 0, 1) := by decide +kernel
theorem dX6_send_12 : decode cX6_send 12 = .ok (.getfield 19, 3) := by decide +kernel
theorem dX6_send_15 : decode cX6_send 15 = .ok (.iload_n 2, 1) := by decide +kernel
theorem dX6_send_16 : decode cX6_send 16 = .ok (.invokevirtual 94, 3) := by decide +kernel
theorem dX6_send_19 : decode cX6_send 19 = .ok (.ifCond .eq 12, 3) := by decide +kernel
theorem dX6_send_22 : decode cX6_send 22 = .ok (.iload_n 3, 1) := by decide +kernel
theorem dX6_send_23 : decode cX6_send 23 = .ok (.iconst 0, 1) := by decide +kernel
theorem dX6_send_24 : decode cX6_send 24 = .ok (.iconst 1, 1) := by decide +kernel
theorem dX6_send_25 : decode cX6_send 25 = .ok (.invokestatic 69, 3) := by decide +kernel
theorem dX6_send_28 : decode cX6_send 28 = .ok (.ifCond .ne 5, 3) := by decide +kernel
theorem dX6_send_31 : decode cX6_send 31 = .ok (.iconst (-1), 1) := by decide +kernel
theorem dX6_send_32 : decode cX6_send 32 = .ok (.ireturn, 1) := by decide +kernel
theorem dX6_send_33 : decode cX6_send 33 = .ok (.aload_n 0, 1) := by decide +kernel
theorem dX6_send_34 : decode cX6_send 34 = .ok (.getfield 29, 3) := by decide +kernel
theorem dX6_send_37 : decode cX6_send 37 = .ok (.getfield 122, 3) := by decide +kernel
theorem dX6_send_40 : decode cX6_send 40 = .ok (.iload_n 1, 1) := by decide +kernel
theorem dX6_send_41 : decode cX6_send 41 = .ok (.aaload, 1) := by decide +kernel
theorem dX6_send_42 : decode cX6_send 42 = .ok (.astore 4, 2) := by decide +kernel
theorem dX6_send_44 : decode cX6_send 44 = .ok (.aload 4, 2) := by decide +kernel
theorem dX6_send_46 : decode cX6_send 46 = .ok (.invokevirtual 164, 3) := by decide +kernel
theorem dX6_send_49 : decode cX6_send 49 = .ok (.ifCond .ne 6, 3) := by decide +kernel
theorem dX6_send_52 : decode cX6_send 52 = .ok (.bipush (-2), 2) := by decide +kernel
theorem dX6_send_54 : decode cX6_send 54 = .ok (.ireturn, 1) := by decide +kernel
theorem dX6_send_55 : decode cX6_send 55 = .ok (.bipush (-9), 2) := by decide +kernel
theorem dX6_send_57 : decode cX6_send 57 = .ok (.istore 5, 2) := by decide +kernel
theorem dX6_send_59 : decode cX6_send 59 = .ok (.bipush (-9), 2) := by decide +kernel
theorem dX6_send_61 : decode cX6_send 61 = .ok (.istore 6, 2) := by decide +kernel
theorem dX6_send_63 : decode cX6_send 63 = .ok (.iconst 0, 1) := by decide +kernel
theorem dX6_send_64 : decode cX6_send 64 = .ok (.istore 7, 2) := by decide +kernel
theorem dX6_send_66 : decode cX6_send 66 = .ok (.iload 7, 2) := by decide +kernel
theorem dX6_send_68 : decode cX6_send 68 = .ok (.aload_n 0, 1) := by decide +kernel
theorem dX6_send_69 : decode cX6_send 69 = .ok (.getfield 19, 3) := by decide +kernel
theorem dX6_send_72 : decode cX6_send 72 = .ok (.getfield 195, 3) := by decide +kernel
theorem dX6_send_75 : decode cX6_send 75 = .ok (.if_icmp .ge 75, 3) := by decide +kernel
theorem dX6_send_78 : decode cX6_send 78 = .ok (.aload_n 0, 1) := by decide +kernel
theorem dX6_send_79 : decode cX6_send 79 = .ok (.getfield 19, 3) := by decide +kernel
theorem dX6_send_82 : decode cX6_send 82 = .ok (.aload 4, 2) := by decide +kernel
theorem dX6_send_84 : decode cX6_send 84 = .ok (.getfield 128, 3) := by decide +kernel
theorem dX6_send_87 : decode cX6_send 87 = .ok (.iload 7, 2) := by decide +kernel
theorem dX6_send_89 : decode cX6_send 89 = .ok (.invokevirtual 171, 3) := by decide +kernel
theorem dX6_send_92 : decode cX6_send 92 = .ok (.ifCond .eq 52, 3) := by decide +kernel
theorem dX6_send_95 : decode cX6_send 95 = .ok (.aload_n 0, 1) := by decide +kernel
theorem dX6_send_96 : decode cX6_send 96 = .ok (.getfield 62, 3) := by decide +kernel
theorem dX6_send_99 : decode cX6_send 99 = .ok (.iload 7, 2) := by decide +kernel
theorem dX6_send_101 : decode cX6_send 101 = .ok (.invokevirtual 198, 3) := by decide +kernel
theorem dX6_send_104 : decode cX6_send 104 = .ok (.aload_n 0, 1) := by decide +kernel
theorem dX6_send_105 : decode cX6_send 105 = .ok (.aload_n 0, 1) := by decide +kernel
theorem dX6_send_106 : decode cX6_send 106 = .ok (.getfield 62, 3) := by decide +kernel
theorem dX6_send_109 : decode cX6_send 109 = .ok (.iload_n 2, 1) := by decide +kernel
theorem dX6_send_110 : decode cX6_send 110 = .ok (.invokevirtual 191, 3) := by decide +kernel
theorem dX6_send_113 : decode cX6_send 113 = .ok (.istore 8, 2) := by decide +kernel
theorem dX6_send_115 : decode cX6_send 115 = .ok (.iload 8, 2) := by decide +kernel
theorem dX6_send_117 : decode cX6_send 117 = .ok (.bipush (-9), 2) := by decide +kernel
theorem dX6_send_119 : decode cX6_send 119 = .ok (.if_icmp .eq 25, 3) := by decide +kernel
theorem dX6_send_122 : decode cX6_send 122 = .ok (.iload 6, 2) := by decide +kernel
theorem dX6_send_124 : decode cX6_send 124 = .ok (.bipush (-9), 2) := by decide +kernel
theorem dX6_send_126 : decode cX6_send 126 = .ok (.if_icmp .eq 10, 3) := by decide +kernel
theorem dX6_send_129 : decode cX6_send 129 = .ok (.iload 8, 2) := by decide +kernel
theorem dX6_send_131 : decode cX6_send 131 = .ok (.iload 6, 2) := by decide +kernel
theorem dX6_send_133 : decode cX6_send 133 = .ok (.if_icmp .ge 11, 3) := by decide +kernel
theorem dX6_send_136 : decode cX6_send 136 = .ok (.iload 7, 2) := by decide +kernel
theorem dX6_send_138 : decode cX6_send 138 = .ok (.istore 5, 2) := by decide +kernel
theorem dX6_send_140 : decode cX6_send 140 = .ok (.iload 8, 2) := by decide +kernel
theorem dX6_send_142 : decode cX6_send 142 = .ok (.istore 6, 2) := by decide +kernel
theorem dX6_send_144 : decode cX6_send 144 = .ok (.iinc 7 1, 3) := by decide +kernel
theorem dX6_send_147 : decode cX6_send 147 = .ok (.goto (-81), 3) := by decide +kernel
theorem dX6_send_150 : decode cX6_send 150 = .ok (.iload_n 3, 1) := by decide +kernel
theorem dX6_send_151 : decode cX6_send 151 = .ok (.ifCond .ne 8, 3) := by decide +kernel
theorem dX6_send_154 : decode cX6_send 154 = .ok (.iload 5, 2) := by decide +kernel
theorem dX6_send_156 : decode cX6_send 156 = .ok (.goto 5, 3) := by decide +kernel
theorem dX6_send_159 : decode cX6_send 159 = .ok (.iload 6, 2) := by decide +kernel
theorem dX6_send_161 : decode cX6_send 161 = .ok (.ireturn, 1) := by decide +kernel
def T_X6_send : tk_Tb := [(0, tk_al 0 1), (1, tk_gR 6 1 4), (4, tk_il 1 5), (5, tk_cv 5 M_X5_isThing 1 8), (8, tk_br (fun x => x = 0) 31 11), (11, tk_al 0 12), (12, tk_gR 6 1 15), (15, tk_il 2 16), (16, tk_cv 5 M_X5_isKerb 1 19), (19, tk_br (fun x => x = 0) 31 22), (22, tk_il 3 23), (23, tk_ic (0) 24), (24, tk_ic (1) 25), (25, tk_cs M_X6_isWithin 3 28), (28, tk_br (fun x => x = 0) 31 33), (31, tk_ic (-1) 32), (32, tk_rI), (33, tk_al 0 34), (34, tk_gR 6 3 37), (37, tk_gR 1 2 40), (40, tk_il 1 41), (41, tk_aa 11 42), (42, tk_sA 4 44), (44, tk_al 4 46), (46, tk_cv 4 M_X4_lies 0 49), (49, tk_br (fun x => x = 0) 52 55), (52, tk_ic (-2) 54), (54, tk_rI), (55, tk_ic (-9) 57), (57, tk_sI 5 59), (59, tk_ic (-9) 61), (61, tk_sI 6 63), (63, tk_ic (0) 64), (64, tk_sI 7 66), (66, tk_il 7 68), (68, tk_al 0 69), (69, tk_gR 6 1 72), (72, tk_gI 5 3 75), (75, tk_cm (fun x y => y ≤ x) 150 78), (78, tk_al 0 79), (79, tk_gR 6 1 82), (82, tk_al 4 84), (84, tk_gI 4 0 87), (87, tk_il 7 89), (89, tk_cv 5 M_X5_areOfOneTown 2 92), (92, tk_br (fun x => x = 0) 144 95), (95, tk_al 0 96), (96, tk_gR 6 9 99), (99, tk_il 7 101), (101, tk_cv 4 M_X4_lieOn 1 104), (104, tk_al 0 105), (105, tk_al 0 106), (106, tk_gR 6 9 109), (109, tk_il 2 110), (110, tk_cv 6 M_X6_firstTideOn 2 113), (113, tk_sI 8 115), (115, tk_il 8 117), (117, tk_ic (-9) 119), (119, tk_cm (fun x y => x = y) 144 122), (122, tk_il 6 124), (124, tk_ic (-9) 126), (126, tk_cm (fun x y => x = y) 136 129), (129, tk_il 8 131), (131, tk_il 6 133), (133, tk_cm (fun x y => y ≤ x) 144 136), (136, tk_il 7 138), (138, tk_sI 5 140), (140, tk_il 8 142), (142, tk_sI 6 144), (144, tk_inc 7 (1) 147), (147, tk_jmp 66), (150, tk_il 3 151), (151, tk_br (fun x => x = 0) 154 159), (154, tk_il 5 156), (156, tk_jmp 161), (159, tk_il 6 161), (161, tk_rI)]
set_option maxRecDepth 100000 in
theorem hT_X6_send (sc : Option (Nat × (Nat → Int32))) : ∀ x ∈ T_X6_send, tk_So sc M_X6_send x.1 x.2 := by
  unfold T_X6_send
  refine List.forall_mem_cons.mpr ⟨so_aload_n dX6_send_0 rfl rfl, ?_⟩
  refine List.forall_mem_cons.mpr ⟨so_gR (C := RX6) (T := TX6) (N := 12) dX6_send_1 (by decide) rfl rfl (by decide) rfl in_X6 wf_X6_19 rfl, ?_⟩
  refine List.forall_mem_cons.mpr ⟨so_iload_n dX6_send_4 rfl rfl, ?_⟩
  refine List.forall_mem_cons.mpr ⟨so_cv (T := TX5) (N := 10) dX6_send_5 mv_X5_isThing wm_X6_119 (by decide) rfl ⟨rfl, rfl⟩ (by decide) rfl, ?_⟩
  refine List.forall_mem_cons.mpr ⟨so_if_eq dX6_send_8 (by decide) rfl, ?_⟩
  refine List.forall_mem_cons.mpr ⟨so_aload_n dX6_send_11 rfl rfl, ?_⟩
  refine List.forall_mem_cons.mpr ⟨so_gR (C := RX6) (T := TX6) (N := 12) dX6_send_12 (by decide) rfl rfl (by decide) rfl in_X6 wf_X6_19 rfl, ?_⟩
  refine List.forall_mem_cons.mpr ⟨so_iload_n dX6_send_15 rfl rfl, ?_⟩
  refine List.forall_mem_cons.mpr ⟨so_cv (T := TX5) (N := 10) dX6_send_16 mv_X5_isKerb wm_X6_94 (by decide) rfl ⟨rfl, rfl⟩ (by decide) rfl, ?_⟩
  refine List.forall_mem_cons.mpr ⟨so_if_eq dX6_send_19 (by decide) rfl, ?_⟩
  refine List.forall_mem_cons.mpr ⟨so_iload_n dX6_send_22 rfl rfl, ?_⟩
  refine List.forall_mem_cons.mpr ⟨so_iconst dX6_send_23 (by decide) rfl, ?_⟩
  refine List.forall_mem_cons.mpr ⟨so_iconst dX6_send_24 (by decide) rfl, ?_⟩
  refine List.forall_mem_cons.mpr ⟨so_cs dX6_send_25 mv_X6_isWithin wm_X6_69 ⟨rfl, rfl⟩ (by decide) rfl, ?_⟩
  refine List.forall_mem_cons.mpr ⟨so_if_ne dX6_send_28 (by decide) rfl, ?_⟩
  refine List.forall_mem_cons.mpr ⟨so_iconst dX6_send_31 (by decide) rfl, ?_⟩
  refine List.forall_mem_cons.mpr ⟨so_rI dX6_send_32 rfl, ?_⟩
  refine List.forall_mem_cons.mpr ⟨so_aload_n dX6_send_33 rfl rfl, ?_⟩
  refine List.forall_mem_cons.mpr ⟨so_gR (C := RX6) (T := TX6) (N := 12) dX6_send_34 (by decide) rfl rfl (by decide) rfl in_X6 wf_X6_29 rfl, ?_⟩
  refine List.forall_mem_cons.mpr ⟨so_gR (C := RX1) (T := TX1) (N := 3) dX6_send_37 (by decide) rfl rfl (by decide) rfl in_X1 wf_X6_122 rfl, ?_⟩
  refine List.forall_mem_cons.mpr ⟨so_iload_n dX6_send_40 rfl rfl, ?_⟩
  refine List.forall_mem_cons.mpr ⟨so_aaT dX6_send_41 rfl, ?_⟩
  refine List.forall_mem_cons.mpr ⟨so_astore dX6_send_42 rfl, ?_⟩
  refine List.forall_mem_cons.mpr ⟨so_aload dX6_send_44 rfl, ?_⟩
  refine List.forall_mem_cons.mpr ⟨so_cv (T := TX4) (N := 3) dX6_send_46 mv_X4_lies wm_X6_164 (by decide) rfl ⟨rfl, rfl⟩ (by decide) rfl, ?_⟩
  refine List.forall_mem_cons.mpr ⟨so_if_ne dX6_send_49 (by decide) rfl, ?_⟩
  refine List.forall_mem_cons.mpr ⟨so_bipush dX6_send_52 (by decide) rfl, ?_⟩
  refine List.forall_mem_cons.mpr ⟨so_rI dX6_send_54 rfl, ?_⟩
  refine List.forall_mem_cons.mpr ⟨so_bipush dX6_send_55 (by decide) rfl, ?_⟩
  refine List.forall_mem_cons.mpr ⟨so_istore dX6_send_57 rfl, ?_⟩
  refine List.forall_mem_cons.mpr ⟨so_bipush dX6_send_59 (by decide) rfl, ?_⟩
  refine List.forall_mem_cons.mpr ⟨so_istore dX6_send_61 rfl, ?_⟩
  refine List.forall_mem_cons.mpr ⟨so_iconst dX6_send_63 (by decide) rfl, ?_⟩
  refine List.forall_mem_cons.mpr ⟨so_istore dX6_send_64 rfl, ?_⟩
  refine List.forall_mem_cons.mpr ⟨so_iload dX6_send_66 rfl, ?_⟩
  refine List.forall_mem_cons.mpr ⟨so_aload_n dX6_send_68 rfl rfl, ?_⟩
  refine List.forall_mem_cons.mpr ⟨so_gR (C := RX6) (T := TX6) (N := 12) dX6_send_69 (by decide) rfl rfl (by decide) rfl in_X6 wf_X6_19 rfl, ?_⟩
  refine List.forall_mem_cons.mpr ⟨so_gI (C := RX5) (T := TX5) (N := 10) dX6_send_72 (by decide) rfl rfl (by decide) rfl in_X5 wf_X6_195 rfl, ?_⟩
  refine List.forall_mem_cons.mpr ⟨so_icmp_ge dX6_send_75 (by decide) rfl, ?_⟩
  refine List.forall_mem_cons.mpr ⟨so_aload_n dX6_send_78 rfl rfl, ?_⟩
  refine List.forall_mem_cons.mpr ⟨so_gR (C := RX6) (T := TX6) (N := 12) dX6_send_79 (by decide) rfl rfl (by decide) rfl in_X6 wf_X6_19 rfl, ?_⟩
  refine List.forall_mem_cons.mpr ⟨so_aload dX6_send_82 rfl, ?_⟩
  refine List.forall_mem_cons.mpr ⟨so_gI (C := RX4) (T := TX4) (N := 3) dX6_send_84 (by decide) rfl rfl (by decide) rfl in_X4 wf_X6_128 rfl, ?_⟩
  refine List.forall_mem_cons.mpr ⟨so_iload dX6_send_87 rfl, ?_⟩
  refine List.forall_mem_cons.mpr ⟨so_cv (T := TX5) (N := 10) dX6_send_89 mv_X5_areOfOneTown wm_X6_171 (by decide) rfl ⟨rfl, rfl⟩ (by decide) rfl, ?_⟩
  refine List.forall_mem_cons.mpr ⟨so_if_eq dX6_send_92 (by decide) rfl, ?_⟩
  refine List.forall_mem_cons.mpr ⟨so_aload_n dX6_send_95 rfl rfl, ?_⟩
  refine List.forall_mem_cons.mpr ⟨so_gR (C := RX6) (T := TX6) (N := 12) dX6_send_96 (by decide) rfl rfl (by decide) rfl in_X6 wf_X6_62 rfl, ?_⟩
  refine List.forall_mem_cons.mpr ⟨so_iload dX6_send_99 rfl, ?_⟩
  refine List.forall_mem_cons.mpr ⟨so_cv (T := TX4) (N := 3) dX6_send_101 mv_X4_lieOn wm_X6_198 (by decide) rfl ⟨rfl, rfl⟩ (by decide) rfl, ?_⟩
  refine List.forall_mem_cons.mpr ⟨so_aload_n dX6_send_104 rfl rfl, ?_⟩
  refine List.forall_mem_cons.mpr ⟨so_aload_n dX6_send_105 rfl rfl, ?_⟩
  refine List.forall_mem_cons.mpr ⟨so_gR (C := RX6) (T := TX6) (N := 12) dX6_send_106 (by decide) rfl rfl (by decide) rfl in_X6 wf_X6_62 rfl, ?_⟩
  refine List.forall_mem_cons.mpr ⟨so_iload_n dX6_send_109 rfl rfl, ?_⟩
  refine List.forall_mem_cons.mpr ⟨so_cv (T := TX6) (N := 12) dX6_send_110 mv_X6_firstTideOn wm_X6_191 (by decide) rfl ⟨rfl, rfl⟩ (by decide) rfl, ?_⟩
  refine List.forall_mem_cons.mpr ⟨so_istore dX6_send_113 rfl, ?_⟩
  refine List.forall_mem_cons.mpr ⟨so_iload dX6_send_115 rfl, ?_⟩
  refine List.forall_mem_cons.mpr ⟨so_bipush dX6_send_117 (by decide) rfl, ?_⟩
  refine List.forall_mem_cons.mpr ⟨so_icmp_eq dX6_send_119 (by decide) rfl, ?_⟩
  refine List.forall_mem_cons.mpr ⟨so_iload dX6_send_122 rfl, ?_⟩
  refine List.forall_mem_cons.mpr ⟨so_bipush dX6_send_124 (by decide) rfl, ?_⟩
  refine List.forall_mem_cons.mpr ⟨so_icmp_eq dX6_send_126 (by decide) rfl, ?_⟩
  refine List.forall_mem_cons.mpr ⟨so_iload dX6_send_129 rfl, ?_⟩
  refine List.forall_mem_cons.mpr ⟨so_iload dX6_send_131 rfl, ?_⟩
  refine List.forall_mem_cons.mpr ⟨so_icmp_ge dX6_send_133 (by decide) rfl, ?_⟩
  refine List.forall_mem_cons.mpr ⟨so_iload dX6_send_136 rfl, ?_⟩
  refine List.forall_mem_cons.mpr ⟨so_istore dX6_send_138 rfl, ?_⟩
  refine List.forall_mem_cons.mpr ⟨so_iload dX6_send_140 rfl, ?_⟩
  refine List.forall_mem_cons.mpr ⟨so_istore dX6_send_142 rfl, ?_⟩
  refine List.forall_mem_cons.mpr ⟨so_iinc dX6_send_144 (by decide) rfl, ?_⟩
  refine List.forall_mem_cons.mpr ⟨so_goto dX6_send_147 (by decide), ?_⟩
  refine List.forall_mem_cons.mpr ⟨so_iload_n dX6_send_150 rfl rfl, ?_⟩
  refine List.forall_mem_cons.mpr ⟨so_if_ne dX6_send_151 (by decide) rfl, ?_⟩
  refine List.forall_mem_cons.mpr ⟨so_iload dX6_send_154 rfl, ?_⟩
  refine List.forall_mem_cons.mpr ⟨so_goto dX6_send_156 (by decide), ?_⟩
  refine List.forall_mem_cons.mpr ⟨so_iload dX6_send_159 rfl, ?_⟩
  refine List.forall_mem_cons.mpr ⟨so_rI dX6_send_161 rfl, ?_⟩
  exact fun _ h => absurd h List.not_mem_nil
theorem dX6_meet_0 : decode cX6_meet 0 = .ok (.aload_n 0, 1) := by decide +kernel
theorem dX6_meet_1 : decode cX6_meet 1 = .ok (.getfield 19, 3) := by decide +kernel
theorem dX6_meet_4 : decode cX6_meet 4 = .ok (.iload_n 1, 1) := by decide +kernel
theorem dX6_meet_5 : decode cX6_meet 5 = .ok (.invokevirtual 119, 3) := by decide +kernel
theorem dX6_meet_8 : decode cX6_meet 8 = .ok (.ifCond .eq 19, 3) := by decide +kernel
theorem dX6_meet_11 : decode cX6_meet 11 = .ok (.aload_n 0, 1) := by decide +kernel
theorem dX6_meet_12 : decode cX6_meet 12 = .ok (.getfield 19, 3) := by decide +kernel
theorem dX6_meet_15 : decode cX6_meet 15 = .ok (.iload_n 2, 1) := by decide +kernel
theorem dX6_meet_16 : decode cX6_meet 16 = .ok (.invokevirtual 119, 3) := by decide +kernel
theorem dX6_meet_19 : decode cX6_meet 19 = .ok (.ifCond .eq 8, 3) := by decide +kernel
theorem dX6_meet_22 : decode cX6_meet 22 = .ok (.iload_n 1, 1) := by decide +kernel
theorem dX6_meet_23 : decode cX6_meet 23 = .ok (.iload_n 2, 1) := by decide +kernel
theorem dX6_meet_24 : decode cX6_meet 24 = .ok (.if_icmp .ne 5, 3) := by decide +kernel
theorem dX6_meet_27 : decode cX6_meet 27 = .ok (.iconst (-1), 1) := by decide +kernel
theorem dX6_meet_28 : decode cX6_meet 28 = .ok (.ireturn, 1) := by decide +kernel
theorem dX6_meet_29 : decode cX6_meet 29 = .ok (.aload_n 0, 1) := by decide +kernel
theorem dX6_meet_30 : decode cX6_meet 30 = .ok (.getfield 62, 3) := by decide +kernel
theorem dX6_meet_33 : decode cX6_meet 33 = .ok (.aload_n 0, 1) := by decide +kernel
theorem dX6_meet_34 : decode cX6_meet 34 = .ok (.getfield 29, 3) := by decide +kernel
theorem dX6_meet_37 : decode cX6_meet 37 = .ok (.getfield 122, 3) := by decide +kernel
theorem dX6_meet_40 : decode cX6_meet 40 = .ok (.iload_n 1, 1) := by decide +kernel
theorem dX6_meet_41 : decode cX6_meet 41 = .ok (.aaload, 1) := by decide +kernel
theorem dX6_meet_42 : decode cX6_meet 42 = .ok (.invokevirtual 184, 3) := by decide +kernel
theorem dX6_meet_45 : decode cX6_meet 45 = .ok (.aload_n 0, 1) := by decide +kernel
theorem dX6_meet_46 : decode cX6_meet 46 = .ok (.getfield 66, 3) := by decide +kernel
theorem dX6_meet_49 : decode cX6_meet 49 = .ok (.aload_n 0, 1) := by decide +kernel
theorem dX6_meet_50 : decode cX6_meet 50 = .ok (.getfield 29, 3) := by decide +kernel
theorem dX6_meet_53 : decode cX6_meet 53 = .ok (.getfield 122, 3) := by decide +kernel
theorem dX6_meet_56 : decode cX6_meet 56 = .ok (.iload_n 2, 1) := by decide +kernel
theorem dX6_meet_57 : decode cX6_meet 57 = .ok (.aaload, 1) := by decide +kernel
theorem dX6_meet_58 : decode cX6_meet 58 = .ok (.invokevirtual 184, 3) := by decide +kernel
theorem dX6_meet_61 : decode cX6_meet 61 = .ok (.iconst 0, 1) := by decide +kernel
theorem dX6_meet_62 : decode cX6_meet 62 = .ok (.istore_n 3, 1) := by decide +kernel
theorem dX6_meet_63 : decode cX6_meet 63 = .ok (.iload_n 3, 1) := by decide +kernel
theorem dX6_meet_64 : decode cX6_meet 64 = .ok (.sipush 400, 3) := by decide +kernel
theorem dX6_meet_67 : decode cX6_meet 67 = .ok (.if_icmp .gt 92, 3) := by decide +kernel
theorem dX6_meet_70 : decode cX6_meet 70 = .ok (.aload_n 0, 1) := by decide +kernel
theorem dX6_meet_71 : decode cX6_meet 71 = .ok (.getfield 62, 3) := by decide +kernel
theorem dX6_meet_74 : decode cX6_meet 74 = .ok (.invokevirtual 164, 3) := by decide +kernel
theorem dX6_meet_77 : decode cX6_meet 77 = .ok (.ifCond .eq 30, 3) := by decide +kernel
theorem dX6_meet_80 : decode cX6_meet 80 = .ok (.aload_n 0, 1) := by decide +kernel
theorem dX6_meet_81 : decode cX6_meet 81 = .ok (.getfield 66, 3) := by decide +kernel
theorem dX6_meet_84 : decode cX6_meet 84 = .ok (.aload_n 0, 1) := by decide +kernel
theorem dX6_meet_85 : decode cX6_meet 85 = .ok (.getfield 62, 3) := by decide +kernel
theorem dX6_meet_88 : decode cX6_meet 88 = .ok (.getfield 128, 3) := by decide +kernel
theorem dX6_meet_91 : decode cX6_meet 91 = .ok (.invokevirtual 202, 3) := by decide +kernel
theorem dX6_meet_94 : decode cX6_meet 94 = .ok (.ifCond .eq 13, 3) := by decide +kernel
theorem dX6_meet_97 : decode cX6_meet 97 = .ok (.aload_n 0, 1) := by decide +kernel
theorem dX6_meet_98 : decode cX6_meet 98 = .ok (.getfield 29, 3) := by decide +kernel
theorem dX6_meet_101 : decode cX6_meet 101 = .ok (.getfield 138, 3) := by decide +kernel
theorem dX6_meet_104 : decode cX6_meet 104 = .ok (.iload_n 3, 1) := by decide +kernel
theorem dX6_meet_105 : decode cX6_meet 105 = .ok (.iadd, 1) := by decide +kernel
theorem dX6_meet_106 : decode cX6_meet 106 = .ok (.ireturn, 1) := by decide +kernel
theorem dX6_meet_107 : decode cX6_meet 107 = .ok (.aload_n 0, 1) := by decide +kernel
theorem dX6_meet_108 : decode cX6_meet 108 = .ok (.getfield 19, 3) := by decide +kernel
theorem dX6_meet_111 : decode cX6_meet 111 = .ok (.aload_n 0, 1) := by decide +kernel
theorem dX6_meet_112 : decode cX6_meet 112 = .ok (.getfield 29, 3) := by decide +kernel
theorem dX6_meet_115 : decode cX6_meet 115 = .ok (.getfield 138, 3) := by decide +kernel
theorem dX6_meet_118 : decode cX6_meet 118 = .ok (.iload_n 3, 1) := by decide +kernel
theorem dX6_meet_119 : decode cX6_meet 119 = .ok (.iadd, 1) := by decide +kernel
theorem dX6_meet_120 : decode cX6_meet 120 = .ok (.invokevirtual 141, 3) := by decide +kernel
theorem dX6_meet_123 : decode cX6_meet 123 = .ok (.istore 4, 2) := by decide +kernel
theorem dX6_meet_125 : decode cX6_meet 125 = .ok (.aload_n 0, 1) := by decide +kernel
theorem dX6_meet_126 : decode cX6_meet 126 = .ok (.getfield 62, 3) := by decide +kernel
theorem dX6_meet_129 : decode cX6_meet 129 = .ok (.aload_n 0, 1) := by decide +kernel
theorem dX6_meet_130 : decode cX6_meet 130 = .ok (.getfield 19, 3) := by decide +kernel
theorem dX6_meet_133 : decode cX6_meet 133 = .ok (.iload 4, 2) := by decide +kernel
theorem dX6_meet_135 : decode cX6_meet 135 = .ok (.invokevirtual 188, 3) := by decide +kernel
theorem dX6_meet_138 : decode cX6_meet 138 = .ok (.pop, 1) := by decide +kernel
theorem dX6_meet_139 : decode cX6_meet 139 = .ok (.aload_n 0, 1) := by decide +kernel
theorem dX6_meet_140 : decode cX6_meet 140 = .ok (.getfield 66, 3) := by decide +kernel
theorem dX6_meet_143 : decode cX6_meet 143 = .ok (.aload_n 0, 1) := by decide +kernel
theorem dX6_meet_144 : decode cX6_meet 144 = .ok (.getfield 19, 3) := by decide +kernel
theorem dX6_meet_147 : decode cX6_meet 147 = .ok (.iload 4, 2) := by decide +kernel
theorem dX6_meet_149 : decode cX6_meet 149 = .ok (.invokevirtual 188, 3) := by decide +kernel
theorem dX6_meet_152 : decode cX6_meet 152 = .ok (.pop, 1) := by decide +kernel
theorem dX6_meet_153 : decode cX6_meet 153 = .ok (.iinc 3 1, 3) := by decide +kernel
theorem dX6_meet_156 : decode cX6_meet 156 = .ok (.goto (-93), 3) := by decide +kernel
theorem dX6_meet_159 : decode cX6_meet 159 = .ok (.bipush (-9), 2) := by decide +kernel
theorem dX6_meet_161 : decode cX6_meet 161 = .ok (.ireturn, 1) := by decide +kernel
def T_X6_meet : tk_Tb := [(0, tk_al 0 1), (1, tk_gR 6 1 4), (4, tk_il 1 5), (5, tk_cv 5 M_X5_isThing 1 8), (8, tk_br (fun x => x = 0) 27 11), (11, tk_al 0 12), (12, tk_gR 6 1 15), (15, tk_il 2 16), (16, tk_cv 5 M_X5_isThing 1 19), (19, tk_br (fun x => x = 0) 27 22), (22, tk_il 1 23), (23, tk_il 2 24), (24, tk_cm (fun x y => x = y) 27 29), (27, tk_ic (-1) 28), (28, tk_rI), (29, tk_al 0 30), (30, tk_gR 6 9 33), (33, tk_al 0 34), (34, tk_gR 6 3 37), (37, tk_gR 1 2 40), (40, tk_il 1 41), (41, tk_aa 11 42), (42, tk_cv 4 M_X4_becomes 1 45), (45, tk_al 0 46), (46, tk_gR 6 10 49), (49, tk_al 0 50), (50, tk_gR 6 3 53), (53, tk_gR 1 2 56), (56, tk_il 2 57), (57, tk_aa 11 58), (58, tk_cv 4 M_X4_becomes 1 61), (61, tk_ic (0) 62), (62, tk_sI 3 63), (63, tk_il 3 64), (64, tk_ic (400) 67), (67, tk_cm (fun x y => y < x) 159 70), (70, tk_al 0 71), (71, tk_gR 6 9 74), (74, tk_cv 4 M_X4_lies 0 77), (77, tk_br (fun x => x = 0) 107 80), (80, tk_al 0 81), (81, tk_gR 6 10 84), (84, tk_al 0 85), (85, tk_gR 6 9 88), (88, tk_gI 4 0 91), (91, tk_cv 4 M_X4_liesOn 1 94), (94, tk_br (fun x => x = 0) 107 97), (97, tk_al 0 98), (98, tk_gR 6 3 101), (101, tk_gI 1 0 104), (104, tk_il 3 105), (105, tk_bi (fun x y => x + y) 106), (106, tk_rI), (107, tk_al 0 108), (108, tk_gR 6 1 111), (111, tk_al 0 112), (112, tk_gR 6 3 115), (115, tk_gI 1 0 118), (118, tk_il 3 119), (119, tk_bi (fun x y => x + y) 120), (120, tk_cv 5 M_X5_levelOf 1 123), (123, tk_sI 4 125), (125, tk_al 0 126), (126, tk_gR 6 9 129), (129, tk_al 0 130), (130, tk_gR 6 1 133), (133, tk_il 4 135), (135, tk_cv 4 M_X4_pass 2 138), (138, tk_pp 139), (139, tk_al 0 140), (140, tk_gR 6 10 143), (143, tk_al 0 144), (144, tk_gR 6 1 147), (147, tk_il 4 149), (149, tk_cv 4 M_X4_pass 2 152), (152, tk_pp 153), (153, tk_inc 3 (1) 156), (156, tk_jmp 63), (159, tk_ic (-9) 161), (161, tk_rI)]
set_option maxRecDepth 100000 in
theorem hT_X6_meet (sc : Option (Nat × (Nat → Int32))) : ∀ x ∈ T_X6_meet, tk_So sc M_X6_meet x.1 x.2 := by
  unfold T_X6_meet
  refine List.forall_mem_cons.mpr ⟨so_aload_n dX6_meet_0 rfl rfl, ?_⟩
  refine List.forall_mem_cons.mpr ⟨so_gR (C := RX6) (T := TX6) (N := 12) dX6_meet_1 (by decide) rfl rfl (by decide) rfl in_X6 wf_X6_19 rfl, ?_⟩
  refine List.forall_mem_cons.mpr ⟨so_iload_n dX6_meet_4 rfl rfl, ?_⟩
  refine List.forall_mem_cons.mpr ⟨so_cv (T := TX5) (N := 10) dX6_meet_5 mv_X5_isThing wm_X6_119 (by decide) rfl ⟨rfl, rfl⟩ (by decide) rfl, ?_⟩
  refine List.forall_mem_cons.mpr ⟨so_if_eq dX6_meet_8 (by decide) rfl, ?_⟩
  refine List.forall_mem_cons.mpr ⟨so_aload_n dX6_meet_11 rfl rfl, ?_⟩
  refine List.forall_mem_cons.mpr ⟨so_gR (C := RX6) (T := TX6) (N := 12) dX6_meet_12 (by decide) rfl rfl (by decide) rfl in_X6 wf_X6_19 rfl, ?_⟩
  refine List.forall_mem_cons.mpr ⟨so_iload_n dX6_meet_15 rfl rfl, ?_⟩
  refine List.forall_mem_cons.mpr ⟨so_cv (T := TX5) (N := 10) dX6_meet_16 mv_X5_isThing wm_X6_119 (by decide) rfl ⟨rfl, rfl⟩ (by decide) rfl, ?_⟩
  refine List.forall_mem_cons.mpr ⟨so_if_eq dX6_meet_19 (by decide) rfl, ?_⟩
  refine List.forall_mem_cons.mpr ⟨so_iload_n dX6_meet_22 rfl rfl, ?_⟩
  refine List.forall_mem_cons.mpr ⟨so_iload_n dX6_meet_23 rfl rfl, ?_⟩
  refine List.forall_mem_cons.mpr ⟨so_icmp_ne dX6_meet_24 (by decide) rfl, ?_⟩
  refine List.forall_mem_cons.mpr ⟨so_iconst dX6_meet_27 (by decide) rfl, ?_⟩
  refine List.forall_mem_cons.mpr ⟨so_rI dX6_meet_28 rfl, ?_⟩
  refine List.forall_mem_cons.mpr ⟨so_aload_n dX6_meet_29 rfl rfl, ?_⟩
  refine List.forall_mem_cons.mpr ⟨so_gR (C := RX6) (T := TX6) (N := 12) dX6_meet_30 (by decide) rfl rfl (by decide) rfl in_X6 wf_X6_62 rfl, ?_⟩
  refine List.forall_mem_cons.mpr ⟨so_aload_n dX6_meet_33 rfl rfl, ?_⟩
  refine List.forall_mem_cons.mpr ⟨so_gR (C := RX6) (T := TX6) (N := 12) dX6_meet_34 (by decide) rfl rfl (by decide) rfl in_X6 wf_X6_29 rfl, ?_⟩
  refine List.forall_mem_cons.mpr ⟨so_gR (C := RX1) (T := TX1) (N := 3) dX6_meet_37 (by decide) rfl rfl (by decide) rfl in_X1 wf_X6_122 rfl, ?_⟩
  refine List.forall_mem_cons.mpr ⟨so_iload_n dX6_meet_40 rfl rfl, ?_⟩
  refine List.forall_mem_cons.mpr ⟨so_aaT dX6_meet_41 rfl, ?_⟩
  refine List.forall_mem_cons.mpr ⟨so_cv (T := TX4) (N := 3) dX6_meet_42 mv_X4_becomes wm_X6_184 (by decide) rfl ⟨rfl, rfl⟩ (by decide) rfl, ?_⟩
  refine List.forall_mem_cons.mpr ⟨so_aload_n dX6_meet_45 rfl rfl, ?_⟩
  refine List.forall_mem_cons.mpr ⟨so_gR (C := RX6) (T := TX6) (N := 12) dX6_meet_46 (by decide) rfl rfl (by decide) rfl in_X6 wf_X6_66 rfl, ?_⟩
  refine List.forall_mem_cons.mpr ⟨so_aload_n dX6_meet_49 rfl rfl, ?_⟩
  refine List.forall_mem_cons.mpr ⟨so_gR (C := RX6) (T := TX6) (N := 12) dX6_meet_50 (by decide) rfl rfl (by decide) rfl in_X6 wf_X6_29 rfl, ?_⟩
  refine List.forall_mem_cons.mpr ⟨so_gR (C := RX1) (T := TX1) (N := 3) dX6_meet_53 (by decide) rfl rfl (by decide) rfl in_X1 wf_X6_122 rfl, ?_⟩
  refine List.forall_mem_cons.mpr ⟨so_iload_n dX6_meet_56 rfl rfl, ?_⟩
  refine List.forall_mem_cons.mpr ⟨so_aaT dX6_meet_57 rfl, ?_⟩
  refine List.forall_mem_cons.mpr ⟨so_cv (T := TX4) (N := 3) dX6_meet_58 mv_X4_becomes wm_X6_184 (by decide) rfl ⟨rfl, rfl⟩ (by decide) rfl, ?_⟩
  refine List.forall_mem_cons.mpr ⟨so_iconst dX6_meet_61 (by decide) rfl, ?_⟩
  refine List.forall_mem_cons.mpr ⟨so_istore_n dX6_meet_62 rfl rfl, ?_⟩
  refine List.forall_mem_cons.mpr ⟨so_iload_n dX6_meet_63 rfl rfl, ?_⟩
  refine List.forall_mem_cons.mpr ⟨so_sipush dX6_meet_64 (by decide) rfl, ?_⟩
  refine List.forall_mem_cons.mpr ⟨so_icmp_gt dX6_meet_67 (by decide) rfl, ?_⟩
  refine List.forall_mem_cons.mpr ⟨so_aload_n dX6_meet_70 rfl rfl, ?_⟩
  refine List.forall_mem_cons.mpr ⟨so_gR (C := RX6) (T := TX6) (N := 12) dX6_meet_71 (by decide) rfl rfl (by decide) rfl in_X6 wf_X6_62 rfl, ?_⟩
  refine List.forall_mem_cons.mpr ⟨so_cv (T := TX4) (N := 3) dX6_meet_74 mv_X4_lies wm_X6_164 (by decide) rfl ⟨rfl, rfl⟩ (by decide) rfl, ?_⟩
  refine List.forall_mem_cons.mpr ⟨so_if_eq dX6_meet_77 (by decide) rfl, ?_⟩
  refine List.forall_mem_cons.mpr ⟨so_aload_n dX6_meet_80 rfl rfl, ?_⟩
  refine List.forall_mem_cons.mpr ⟨so_gR (C := RX6) (T := TX6) (N := 12) dX6_meet_81 (by decide) rfl rfl (by decide) rfl in_X6 wf_X6_66 rfl, ?_⟩
  refine List.forall_mem_cons.mpr ⟨so_aload_n dX6_meet_84 rfl rfl, ?_⟩
  refine List.forall_mem_cons.mpr ⟨so_gR (C := RX6) (T := TX6) (N := 12) dX6_meet_85 (by decide) rfl rfl (by decide) rfl in_X6 wf_X6_62 rfl, ?_⟩
  refine List.forall_mem_cons.mpr ⟨so_gI (C := RX4) (T := TX4) (N := 3) dX6_meet_88 (by decide) rfl rfl (by decide) rfl in_X4 wf_X6_128 rfl, ?_⟩
  refine List.forall_mem_cons.mpr ⟨so_cv (T := TX4) (N := 3) dX6_meet_91 mv_X4_liesOn wm_X6_202 (by decide) rfl ⟨rfl, rfl⟩ (by decide) rfl, ?_⟩
  refine List.forall_mem_cons.mpr ⟨so_if_eq dX6_meet_94 (by decide) rfl, ?_⟩
  refine List.forall_mem_cons.mpr ⟨so_aload_n dX6_meet_97 rfl rfl, ?_⟩
  refine List.forall_mem_cons.mpr ⟨so_gR (C := RX6) (T := TX6) (N := 12) dX6_meet_98 (by decide) rfl rfl (by decide) rfl in_X6 wf_X6_29 rfl, ?_⟩
  refine List.forall_mem_cons.mpr ⟨so_gI (C := RX1) (T := TX1) (N := 3) dX6_meet_101 (by decide) rfl rfl (by decide) rfl in_X1 wf_X6_138 rfl, ?_⟩
  refine List.forall_mem_cons.mpr ⟨so_iload_n dX6_meet_104 rfl rfl, ?_⟩
  refine List.forall_mem_cons.mpr ⟨so_iadd dX6_meet_105 rfl, ?_⟩
  refine List.forall_mem_cons.mpr ⟨so_rI dX6_meet_106 rfl, ?_⟩
  refine List.forall_mem_cons.mpr ⟨so_aload_n dX6_meet_107 rfl rfl, ?_⟩
  refine List.forall_mem_cons.mpr ⟨so_gR (C := RX6) (T := TX6) (N := 12) dX6_meet_108 (by decide) rfl rfl (by decide) rfl in_X6 wf_X6_19 rfl, ?_⟩
  refine List.forall_mem_cons.mpr ⟨so_aload_n dX6_meet_111 rfl rfl, ?_⟩
  refine List.forall_mem_cons.mpr ⟨so_gR (C := RX6) (T := TX6) (N := 12) dX6_meet_112 (by decide) rfl rfl (by decide) rfl in_X6 wf_X6_29 rfl, ?_⟩
  refine List.forall_mem_cons.mpr ⟨so_gI (C := RX1) (T := TX1) (N := 3) dX6_meet_115 (by decide) rfl rfl (by decide) rfl in_X1 wf_X6_138 rfl, ?_⟩
  refine List.forall_mem_cons.mpr ⟨so_iload_n dX6_meet_118 rfl rfl, ?_⟩
  refine List.forall_mem_cons.mpr ⟨so_iadd dX6_meet_119 rfl, ?_⟩
  refine List.forall_mem_cons.mpr ⟨so_cv (T := TX5) (N := 10) dX6_meet_120 mv_X5_levelOf wm_X6_141 (by decide) rfl ⟨rfl, rfl⟩ (by decide) rfl, ?_⟩
  refine List.forall_mem_cons.mpr ⟨so_istore dX6_meet_123 rfl, ?_⟩
  refine List.forall_mem_cons.mpr ⟨so_aload_n dX6_meet_125 rfl rfl, ?_⟩
  refine List.forall_mem_cons.mpr ⟨so_gR (C := RX6) (T := TX6) (N := 12) dX6_meet_126 (by decide) rfl rfl (by decide) rfl in_X6 wf_X6_62 rfl, ?_⟩
  refine List.forall_mem_cons.mpr ⟨so_aload_n dX6_meet_129 rfl rfl, ?_⟩
  refine List.forall_mem_cons.mpr ⟨so_gR (C := RX6) (T := TX6) (N := 12) dX6_meet_130 (by decide) rfl rfl (by decide) rfl in_X6 wf_X6_19 rfl, ?_⟩
  refine List.forall_mem_cons.mpr ⟨so_iload dX6_meet_133 rfl, ?_⟩
  refine List.forall_mem_cons.mpr ⟨so_cv (T := TX4) (N := 3) dX6_meet_135 mv_X4_pass wm_X6_188 (by decide) rfl ⟨rfl, rfl⟩ (by decide) rfl, ?_⟩
  refine List.forall_mem_cons.mpr ⟨so_pop dX6_meet_138 rfl, ?_⟩
  refine List.forall_mem_cons.mpr ⟨so_aload_n dX6_meet_139 rfl rfl, ?_⟩
  refine List.forall_mem_cons.mpr ⟨so_gR (C := RX6) (T := TX6) (N := 12) dX6_meet_140 (by decide) rfl rfl (by decide) rfl in_X6 wf_X6_66 rfl, ?_⟩
  refine List.forall_mem_cons.mpr ⟨so_aload_n dX6_meet_143 rfl rfl, ?_⟩
  refine List.forall_mem_cons.mpr ⟨so_gR (C := RX6) (T := TX6) (N := 12) dX6_meet_144 (by decide) rfl rfl (by decide) rfl in_X6 wf_X6_19 rfl, ?_⟩
  refine List.forall_mem_cons.mpr ⟨so_iload dX6_meet_147 rfl, ?_⟩
  refine List.forall_mem_cons.mpr ⟨so_cv (T := TX4) (N := 3) dX6_meet_149 mv_X4_pass wm_X6_188 (by decide) rfl ⟨rfl, rfl⟩ (by decide) rfl, ?_⟩
  refine List.forall_mem_cons.mpr ⟨so_pop dX6_meet_152 rfl, ?_⟩
  refine List.forall_mem_cons.mpr ⟨so_iinc dX6_meet_153 (by decide) rfl, ?_⟩
  refine List.forall_mem_cons.mpr ⟨so_goto dX6_meet_156 (by decide), ?_⟩
  refine List.forall_mem_cons.mpr ⟨so_bipush dX6_meet_159 (by decide) rfl, ?_⟩
  refine List.forall_mem_cons.mpr ⟨so_rI dX6_meet_161 rfl, ?_⟩
  exact fun _ h => absurd h List.not_mem_nil
theorem dX6_round_0 : decode cX6_round 0 = .ok (.aload_n 0, 1) := by decide +kernel
theorem dX6_round_1 : decode cX6_round 1 = .ok (.getfield 19, 3) := by decide +kernel
theorem dX6_round_4 : decode cX6_round 4 = .ok (.iload_n 1, 1) := by decide +kernel
theorem dX6_round_5 : decode cX6_round 5 = .ok (.invokevirtual 119, 3) := by decide +kernel
theorem dX6_round_8 : decode cX6_round 8 = .ok (.ifCond .ne 5, 3) := by decide +kernel
theorem dX6_round_11 : decode cX6_round 11 = .ok (.iconst (-1), 1) := by decide +kernel
theorem dX6_round_12 : decode cX6_round 12 = .ok (.ireturn, 1) := by decide +kernel
theorem dX6_round_13 : decode cX6_round 13 = .ok (.aload_n 0, 1) := by decide +kernel
theorem dX6_round_14 : decode cX6_round 14 = .ok (.getfield 19, 3) := by decide +kernel
theorem dX6_round_17 : decode cX6_round 17 = .ok (.getfield 195, 3) := by decide +kernel
theorem dX6_round_20 : decode cX6_round 20 = .ok (.iconst 4, 1) := by decide +kernel
theorem dX6_round_21 : decode cX6_round 21 = .ok (.imul, 1) := by decide +kernel
theorem dX6_round_22 : decode cX6_round 22 = .ok (.aload_n 0, 1) := by decide +kernel
theorem dX6_round_23 : decode cX6_round 23 = .ok (.getfield 19, 3) := by decide +kernel
theorem dX6_round_26 : decode cX6_round 26 = .ok (.getfield 181, 3) := by decide +kernel
theorem dX6_round_29 : decode cX6_round 29 = .ok (.imul, 1) := by decide +kernel
theorem dX6_round_30 : decode cX6_round 30 = .ok (.istore_n 2, 1) := by decide +kernel
theorem dX6_round_31 : decode cX6_round 31 = .ok (.aload_n 0, 1) := by decide +kernel
theorem dX6_round_32 : decode cX6_round 32 = .ok (.getfield 62, 3) := by decide +kernel
theorem dX6_round_35 : decode cX6_round 35 = .ok (.aload_n 0, 1) := by decide +kernel
theorem dX6_round_36 : decode cX6_round 36 = .ok (.getfield 29, 3) := by decide +kernel
theorem dX6_round_39 : decode cX6_round 39 = .ok (.getfield 122, 3) := by decide +kernel
theorem dX6_round_42 : decode cX6_round 42 = .ok (.iload_n 1, 1) := by decide +kernel
theorem dX6_round_43 : decode cX6_round 43 = .ok (.aaload, 1) := by decide +kernel
theorem dX6_round_44 : decode cX6_round 44 = .ok (.invokevirtual 184, 3) := by decide +kernel
theorem dX6_round_47 : decode cX6_round 47 = .ok (.iconst 0, 1) := by decide +kernel
theorem dX6_round_48 : decode cX6_round 48 = .ok (.istore_n 3, 1) := by decide +kernel
theorem dX6_round_49 : decode cX6_round 49 = .ok (.iload_n 3, 1) := by decide +kernel
theorem dX6_round_50 : decode cX6_round 50 = .ok (.iload_n 2, 1) := by decide +kernel
theorem dX6_round_51 : decode cX6_round 51 = .ok (.if_icmp .ge 37, 3) := by decide +kernel
theorem dX6_round_54 : decode cX6_round 54 = .ok (.aload_n 0, 1) := by decide +kernel
theorem dX6_round_55 : decode cX6_round 55 = .ok (.getfield 62, 3) := by decide +kernel
theorem dX6_round_58 : decode cX6_round 58 = .ok (.aload_n 0, 1) := by decide +kernel
theorem dX6_round_59 : decode cX6_round 59 = .ok (.getfield 19, 3) := by decide +kernel
theorem dX6_round_62 : decode cX6_round 62 = .ok (.aload_n 0, 1) := by decide +kernel
theorem dX6_round_63 : decode cX6_round 63 = .ok (.getfield 19, 3) := by decide +kernel
theorem dX6_round_66 : decode cX6_round 66 = .ok (.aload_n 0, 1) := by decide +kernel
theorem dX6_round_67 : decode cX6_round 67 = .ok (.getfield 29, 3) := by decide +kernel
theorem dX6_round_70 : decode cX6_round 70 = .ok (.getfield 138, 3) := by decide +kernel
theorem dX6_round_73 : decode cX6_round 73 = .ok (.iload_n 3, 1) := by decide +kernel
theorem dX6_round_74 : decode cX6_round 74 = .ok (.iadd, 1) := by decide +kernel
theorem dX6_round_75 : decode cX6_round 75 = .ok (.invokevirtual 141, 3) := by decide +kernel
theorem dX6_round_78 : decode cX6_round 78 = .ok (.invokevirtual 188, 3) := by decide +kernel
theorem dX6_round_81 : decode cX6_round 81 = .ok (.pop, 1) := by decide +kernel
theorem dX6_round_82 : decode cX6_round 82 = .ok (.iinc 3 1, 3) := by decide +kernel
theorem dX6_round_85 : decode cX6_round 85 = .ok (.goto (-36), 3) := by decide +kernel
theorem dX6_round_88 : decode cX6_round 88 = .ok (.aload_n 0, 1) := by decide +kernel
theorem dX6_round_89 : decode cX6_round 89 = .ok (.getfield 66, 3) := by decide +kernel
theorem dX6_round_92 : decode cX6_round 92 = .ok (.aload_n 0, 1) := by decide +kernel
theorem dX6_round_93 : decode cX6_round 93 = .ok (.getfield 62, 3) := by decide +kernel
theorem dX6_round_96 : decode cX6_round 96 = .ok (.invokevirtual 184, 3) := by decide +kernel
theorem dX6_round_99 : decode cX6_round 99 = .ok (.iconst 1, 1) := by decide +kernel
theorem dX6_round_100 : decode cX6_round 100 = .ok (.istore_n 3, 1) := by decide +kernel
theorem dX6_round_101 : decode cX6_round 101 = .ok (.iload_n 3, 1) := by decide +kernel
theorem dX6_round_102 : decode cX6_round 102 = .ok (.iload_n 2, 1) := by decide +kernel
theorem dX6_round_103 : decode cX6_round 103 = .ok (.if_icmp .gt 68, 3) := by decide +kernel
theorem dX6_round_106 : decode cX6_round 106 = .ok (.aload_n 0, 1) := by decide +kernel
theorem dX6_round_107 : decode cX6_round 107 = .ok (.getfield 62, 3) := by decide +kernel
theorem dX6_round_110 : decode cX6_round 110 = .ok (.aload_n 0, 1) := by decide +kernel
theorem dX6_round_111 : decode cX6_round 111 = .ok (.getfield 19, 3) := by decide +kernel
theorem dX6_round_114 : decode cX6_round 114 = .ok (.aload_n 0, 1) := by decide +kernel
theorem dX6_round_115 : decode cX6_round 115 = .ok (.getfield 19, 3) := by decide +kernel
theorem dX6_round_118 : decode cX6_round 118 = .ok (.aload_n 0, 1) := by decide +kernel
theorem dX6_round_119 : decode cX6_round 119 = .ok (.getfield 29, 3) := by decide +kernel
theorem dX6_round_122 : decode cX6_round 122 = .ok (.getfield 138, 3) := by decide +kernel
theorem dX6_round_125 : decode cX6_round 125 = .ok (.iload_n 2, 1) := by decide +kernel
theorem dX6_round_126 : decode cX6_round 126 = .ok (.iadd, 1) := by decide +kernel
theorem dX6_round_127 : decode cX6_round 127 = .ok (.iload_n 3, 1) := by decide +kernel
theorem dX6_round_128 : decode cX6_round 128 = .ok (.iadd, 1) := by decide +kernel
theorem dX6_round_129 : decode cX6_round 129 = .ok (.iconst 1, 1) := by decide +kernel
theorem dX6_round_130 : decode cX6_round 130 = .ok (.isub, 1) := by decide +kernel
theorem dX6_round_131 : decode cX6_round 131 = .ok (.invokevirtual 141, 3) := by decide +kernel
theorem dX6_round_134 : decode cX6_round 134 = .ok (.invokevirtual 188, 3) := by decide +kernel
theorem dX6_round_137 : decode cX6_round 137 = .ok (.pop, 1) := by decide +kernel
theorem dX6_round_138 : decode cX6_round 138 = .ok (.aload_n 0, 1) := by decide +kernel
theorem dX6_round_139 : decode cX6_round 139 = .ok (.getfield 62, 3) := by decide +kernel
theorem dX6_round_142 : decode cX6_round 142 = .ok (.aload_n 0, 1) := by decide +kernel
theorem dX6_round_143 : decode cX6_round 143 = .ok (.getfield 66, 3) := by decide +kernel
theorem dX6_round_146 : decode cX6_round 146 = .ok (.invokevirtual 205, 3) := by decide +kernel
theorem dX6_round_149 : decode cX6_round 149 = .ok (.ifCond .eq 16, 3) := by decide +kernel
theorem dX6_round_152 : decode cX6_round 152 = .ok (.aload_n 0, 1) := by decide +kernel
theorem dX6_round_153 : decode cX6_round 153 = .ok (.getfield 19, 3) := by decide +kernel
theorem dX6_round_156 : decode cX6_round 156 = .ok (.iload_n 3, 1) := by decide +kernel
theorem dX6_round_157 : decode cX6_round 157 = .ok (.invokevirtual 209, 3) := by decide +kernel
theorem dX6_round_160 : decode cX6_round 160 = .ok (.ifCond .ne 5, 3) := by decide +kernel
theorem dX6_round_163 : decode cX6_round 163 = .ok (.iload_n 3, 1) := by decide +kernel
theorem dX6_round_164 : decode cX6_round 164 = .ok (.ireturn, 1) := by decide +kernel
theorem dX6_round_165 : decode cX6_round 165 = .ok (.iinc 3 1, 3) := by decide +kernel
theorem dX6_round_168 : decode cX6_round 168 = .ok (.goto (-67), 3) := by decide +kernel
theorem dX6_round_171 : decode cX6_round 171 = .ok (.bipush (-9), 2) := by decide +kernel
theorem dX6_round_173 : decode cX6_round 173 = .ok (.ireturn, 1) := by decide +kernel
def T_X6_round : tk_Tb := [(0, tk_al 0 1), (1, tk_gR 6 1 4), (4, tk_il 1 5), (5, tk_cv 5 M_X5_isThing 1 8), (8, tk_br (fun x => x = 0) 11 13), (11, tk_ic (-1) 12), (12, tk_rI), (13, tk_al 0 14), (14, tk_gR 6 1 17), (17, tk_gI 5 3 20), (20, tk_ic (4) 21), (21, tk_bi (fun x y => x * y) 22), (22, tk_al 0 23), (23, tk_gR 6 1 26), (26, tk_gI 5 0 29), (29, tk_bi (fun x y => x * y) 30), (30, tk_sI 2 31), (31, tk_al 0 32), (32, tk_gR 6 9 35), (35, tk_al 0 36), (36, tk_gR 6 3 39), (39, tk_gR 1 2 42), (42, tk_il 1 43), (43, tk_aa 11 44), (44, tk_cv 4 M_X4_becomes 1 47), (47, tk_ic (0) 48), (48, tk_sI 3 49), (49, tk_il 3 50), (50, tk_il 2 51), (51, tk_cm (fun x y => y ≤ x) 88 54), (54, tk_al 0 55), (55, tk_gR 6 9 58), (58, tk_al 0 59), (59, tk_gR 6 1 62), (62, tk_al 0 63), (63, tk_gR 6 1 66), (66, tk_al 0 67), (67, tk_gR 6 3 70), (70, tk_gI 1 0 73), (73, tk_il 3 74), (74, tk_bi (fun x y => x + y) 75), (75, tk_cv 5 M_X5_levelOf 1 78), (78, tk_cv 4 M_X4_pass 2 81), (81, tk_pp 82), (82, tk_inc 3 (1) 85), (85, tk_jmp 49), (88, tk_al 0 89), (89, tk_gR 6 10 92), (92, tk_al 0 93), (93, tk_gR 6 9 96), (96, tk_cv 4 M_X4_becomes 1 99), (99, tk_ic (1) 100), (100, tk_sI 3 101), (101, tk_il 3 102), (102, tk_il 2 103), (103, tk_cm (fun x y => y < x) 171 106), (106, tk_al 0 107), (107, tk_gR 6 9 110), (110, tk_al 0 111), (111, tk_gR 6 1 114), (114, tk_al 0 115), (115, tk_gR 6 1 118), (118, tk_al 0 119), (119, tk_gR 6 3 122), (122, tk_gI 1 0 125), (125, tk_il 2 126), (126, tk_bi (fun x y => x + y) 127), (127, tk_il 3 128), (128, tk_bi (fun x y => x + y) 129), (129, tk_ic (1) 130), (130, tk_bi (fun x y => x - y) 131), (131, tk_cv 5 M_X5_levelOf 1 134), (134, tk_cv 4 M_X4_pass 2 137), (137, tk_pp 138), (138, tk_al 0 139), (139, tk_gR 6 9 142), (142, tk_al 0 143), (143, tk_gR 6 10 146), (146, tk_cv 4 M_X4_isAs 1 149), (149, tk_br (fun x => x = 0) 165 152), (152, tk_al 0 153), (153, tk_gR 6 1 156), (156, tk_il 3 157), (157, tk_cv 5 M_X5_leftOver 1 160), (160, tk_br (fun x => x = 0) 163 165), (163, tk_il 3 164), (164, tk_rI), (165, tk_inc 3 (1) 168), (168, tk_jmp 101), (171, tk_ic (-9) 173), (173, tk_rI)]
set_option maxRecDepth 100000 in
theorem hT_X6_round (sc : Option (Nat × (Nat → Int32))) : ∀ x ∈ T_X6_round, tk_So sc M_X6_round x.1 x.2 := by
  unfold T_X6_round
  refine List.forall_mem_cons.mpr ⟨so_aload_n dX6_round_0 rfl rfl, ?_⟩
  refine List.forall_mem_cons.mpr ⟨so_gR (C := RX6) (T := TX6) (N := 12) dX6_round_1 (by decide) rfl rfl (by decide) rfl in_X6 wf_X6_19 rfl, ?_⟩
  refine List.forall_mem_cons.mpr ⟨so_iload_n dX6_round_4 rfl rfl, ?_⟩
  refine List.forall_mem_cons.mpr ⟨so_cv (T := TX5) (N := 10) dX6_round_5 mv_X5_isThing wm_X6_119 (by decide) rfl ⟨rfl, rfl⟩ (by decide) rfl, ?_⟩
  refine List.forall_mem_cons.mpr ⟨so_if_ne dX6_round_8 (by decide) rfl, ?_⟩
  refine List.forall_mem_cons.mpr ⟨so_iconst dX6_round_11 (by decide) rfl, ?_⟩
  refine List.forall_mem_cons.mpr ⟨so_rI dX6_round_12 rfl, ?_⟩
  refine List.forall_mem_cons.mpr ⟨so_aload_n dX6_round_13 rfl rfl, ?_⟩
  refine List.forall_mem_cons.mpr ⟨so_gR (C := RX6) (T := TX6) (N := 12) dX6_round_14 (by decide) rfl rfl (by decide) rfl in_X6 wf_X6_19 rfl, ?_⟩
  refine List.forall_mem_cons.mpr ⟨so_gI (C := RX5) (T := TX5) (N := 10) dX6_round_17 (by decide) rfl rfl (by decide) rfl in_X5 wf_X6_195 rfl, ?_⟩
  refine List.forall_mem_cons.mpr ⟨so_iconst dX6_round_20 (by decide) rfl, ?_⟩
  refine List.forall_mem_cons.mpr ⟨so_imul dX6_round_21 rfl, ?_⟩
  refine List.forall_mem_cons.mpr ⟨so_aload_n dX6_round_22 rfl rfl, ?_⟩
  refine List.forall_mem_cons.mpr ⟨so_gR (C := RX6) (T := TX6) (N := 12) dX6_round_23 (by decide) rfl rfl (by decide) rfl in_X6 wf_X6_19 rfl, ?_⟩
  refine List.forall_mem_cons.mpr ⟨so_gI (C := RX5) (T := TX5) (N := 10) dX6_round_26 (by decide) rfl rfl (by decide) rfl in_X5 wf_X6_181 rfl, ?_⟩
  refine List.forall_mem_cons.mpr ⟨so_imul dX6_round_29 rfl, ?_⟩
  refine List.forall_mem_cons.mpr ⟨so_istore_n dX6_round_30 rfl rfl, ?_⟩
  refine List.forall_mem_cons.mpr ⟨so_aload_n dX6_round_31 rfl rfl, ?_⟩
  refine List.forall_mem_cons.mpr ⟨so_gR (C := RX6) (T := TX6) (N := 12) dX6_round_32 (by decide) rfl rfl (by decide) rfl in_X6 wf_X6_62 rfl, ?_⟩
  refine List.forall_mem_cons.mpr ⟨so_aload_n dX6_round_35 rfl rfl, ?_⟩
  refine List.forall_mem_cons.mpr ⟨so_gR (C := RX6) (T := TX6) (N := 12) dX6_round_36 (by decide) rfl rfl (by decide) rfl in_X6 wf_X6_29 rfl, ?_⟩
  refine List.forall_mem_cons.mpr ⟨so_gR (C := RX1) (T := TX1) (N := 3) dX6_round_39 (by decide) rfl rfl (by decide) rfl in_X1 wf_X6_122 rfl, ?_⟩
  refine List.forall_mem_cons.mpr ⟨so_iload_n dX6_round_42 rfl rfl, ?_⟩
  refine List.forall_mem_cons.mpr ⟨so_aaT dX6_round_43 rfl, ?_⟩
  refine List.forall_mem_cons.mpr ⟨so_cv (T := TX4) (N := 3) dX6_round_44 mv_X4_becomes wm_X6_184 (by decide) rfl ⟨rfl, rfl⟩ (by decide) rfl, ?_⟩
  refine List.forall_mem_cons.mpr ⟨so_iconst dX6_round_47 (by decide) rfl, ?_⟩
  refine List.forall_mem_cons.mpr ⟨so_istore_n dX6_round_48 rfl rfl, ?_⟩
  refine List.forall_mem_cons.mpr ⟨so_iload_n dX6_round_49 rfl rfl, ?_⟩
  refine List.forall_mem_cons.mpr ⟨so_iload_n dX6_round_50 rfl rfl, ?_⟩
  refine List.forall_mem_cons.mpr ⟨so_icmp_ge dX6_round_51 (by decide) rfl, ?_⟩
  refine List.forall_mem_cons.mpr ⟨so_aload_n dX6_round_54 rfl rfl, ?_⟩
  refine List.forall_mem_cons.mpr ⟨so_gR (C := RX6) (T := TX6) (N := 12) dX6_round_55 (by decide) rfl rfl (by decide) rfl in_X6 wf_X6_62 rfl, ?_⟩
  refine List.forall_mem_cons.mpr ⟨so_aload_n dX6_round_58 rfl rfl, ?_⟩
  refine List.forall_mem_cons.mpr ⟨so_gR (C := RX6) (T := TX6) (N := 12) dX6_round_59 (by decide) rfl rfl (by decide) rfl in_X6 wf_X6_19 rfl, ?_⟩
  refine List.forall_mem_cons.mpr ⟨so_aload_n dX6_round_62 rfl rfl, ?_⟩
  refine List.forall_mem_cons.mpr ⟨so_gR (C := RX6) (T := TX6) (N := 12) dX6_round_63 (by decide) rfl rfl (by decide) rfl in_X6 wf_X6_19 rfl, ?_⟩
  refine List.forall_mem_cons.mpr ⟨so_aload_n dX6_round_66 rfl rfl, ?_⟩
  refine List.forall_mem_cons.mpr ⟨so_gR (C := RX6) (T := TX6) (N := 12) dX6_round_67 (by decide) rfl rfl (by decide) rfl in_X6 wf_X6_29 rfl, ?_⟩
  refine List.forall_mem_cons.mpr ⟨so_gI (C := RX1) (T := TX1) (N := 3) dX6_round_70 (by decide) rfl rfl (by decide) rfl in_X1 wf_X6_138 rfl, ?_⟩
  refine List.forall_mem_cons.mpr ⟨so_iload_n dX6_round_73 rfl rfl, ?_⟩
  refine List.forall_mem_cons.mpr ⟨so_iadd dX6_round_74 rfl, ?_⟩
  refine List.forall_mem_cons.mpr ⟨so_cv (T := TX5) (N := 10) dX6_round_75 mv_X5_levelOf wm_X6_141 (by decide) rfl ⟨rfl, rfl⟩ (by decide) rfl, ?_⟩
  refine List.forall_mem_cons.mpr ⟨so_cv (T := TX4) (N := 3) dX6_round_78 mv_X4_pass wm_X6_188 (by decide) rfl ⟨rfl, rfl⟩ (by decide) rfl, ?_⟩
  refine List.forall_mem_cons.mpr ⟨so_pop dX6_round_81 rfl, ?_⟩
  refine List.forall_mem_cons.mpr ⟨so_iinc dX6_round_82 (by decide) rfl, ?_⟩
  refine List.forall_mem_cons.mpr ⟨so_goto dX6_round_85 (by decide), ?_⟩
  refine List.forall_mem_cons.mpr ⟨so_aload_n dX6_round_88 rfl rfl, ?_⟩
  refine List.forall_mem_cons.mpr ⟨so_gR (C := RX6) (T := TX6) (N := 12) dX6_round_89 (by decide) rfl rfl (by decide) rfl in_X6 wf_X6_66 rfl, ?_⟩
  refine List.forall_mem_cons.mpr ⟨so_aload_n dX6_round_92 rfl rfl, ?_⟩
  refine List.forall_mem_cons.mpr ⟨so_gR (C := RX6) (T := TX6) (N := 12) dX6_round_93 (by decide) rfl rfl (by decide) rfl in_X6 wf_X6_62 rfl, ?_⟩
  refine List.forall_mem_cons.mpr ⟨so_cv (T := TX4) (N := 3) dX6_round_96 mv_X4_becomes wm_X6_184 (by decide) rfl ⟨rfl, rfl⟩ (by decide) rfl, ?_⟩
  refine List.forall_mem_cons.mpr ⟨so_iconst dX6_round_99 (by decide) rfl, ?_⟩
  refine List.forall_mem_cons.mpr ⟨so_istore_n dX6_round_100 rfl rfl, ?_⟩
  refine List.forall_mem_cons.mpr ⟨so_iload_n dX6_round_101 rfl rfl, ?_⟩
  refine List.forall_mem_cons.mpr ⟨so_iload_n dX6_round_102 rfl rfl, ?_⟩
  refine List.forall_mem_cons.mpr ⟨so_icmp_gt dX6_round_103 (by decide) rfl, ?_⟩
  refine List.forall_mem_cons.mpr ⟨so_aload_n dX6_round_106 rfl rfl, ?_⟩
  refine List.forall_mem_cons.mpr ⟨so_gR (C := RX6) (T := TX6) (N := 12) dX6_round_107 (by decide) rfl rfl (by decide) rfl in_X6 wf_X6_62 rfl, ?_⟩
  refine List.forall_mem_cons.mpr ⟨so_aload_n dX6_round_110 rfl rfl, ?_⟩
  refine List.forall_mem_cons.mpr ⟨so_gR (C := RX6) (T := TX6) (N := 12) dX6_round_111 (by decide) rfl rfl (by decide) rfl in_X6 wf_X6_19 rfl, ?_⟩
  refine List.forall_mem_cons.mpr ⟨so_aload_n dX6_round_114 rfl rfl, ?_⟩
  refine List.forall_mem_cons.mpr ⟨so_gR (C := RX6) (T := TX6) (N := 12) dX6_round_115 (by decide) rfl rfl (by decide) rfl in_X6 wf_X6_19 rfl, ?_⟩
  refine List.forall_mem_cons.mpr ⟨so_aload_n dX6_round_118 rfl rfl, ?_⟩
  refine List.forall_mem_cons.mpr ⟨so_gR (C := RX6) (T := TX6) (N := 12) dX6_round_119 (by decide) rfl rfl (by decide) rfl in_X6 wf_X6_29 rfl, ?_⟩
  refine List.forall_mem_cons.mpr ⟨so_gI (C := RX1) (T := TX1) (N := 3) dX6_round_122 (by decide) rfl rfl (by decide) rfl in_X1 wf_X6_138 rfl, ?_⟩
  refine List.forall_mem_cons.mpr ⟨so_iload_n dX6_round_125 rfl rfl, ?_⟩
  refine List.forall_mem_cons.mpr ⟨so_iadd dX6_round_126 rfl, ?_⟩
  refine List.forall_mem_cons.mpr ⟨so_iload_n dX6_round_127 rfl rfl, ?_⟩
  refine List.forall_mem_cons.mpr ⟨so_iadd dX6_round_128 rfl, ?_⟩
  refine List.forall_mem_cons.mpr ⟨so_iconst dX6_round_129 (by decide) rfl, ?_⟩
  refine List.forall_mem_cons.mpr ⟨so_isub dX6_round_130 rfl, ?_⟩
  refine List.forall_mem_cons.mpr ⟨so_cv (T := TX5) (N := 10) dX6_round_131 mv_X5_levelOf wm_X6_141 (by decide) rfl ⟨rfl, rfl⟩ (by decide) rfl, ?_⟩
  refine List.forall_mem_cons.mpr ⟨so_cv (T := TX4) (N := 3) dX6_round_134 mv_X4_pass wm_X6_188 (by decide) rfl ⟨rfl, rfl⟩ (by decide) rfl, ?_⟩
  refine List.forall_mem_cons.mpr ⟨so_pop dX6_round_137 rfl, ?_⟩
  refine List.forall_mem_cons.mpr ⟨so_aload_n dX6_round_138 rfl rfl, ?_⟩
  refine List.forall_mem_cons.mpr ⟨so_gR (C := RX6) (T := TX6) (N := 12) dX6_round_139 (by decide) rfl rfl (by decide) rfl in_X6 wf_X6_62 rfl, ?_⟩
  refine List.forall_mem_cons.mpr ⟨so_aload_n dX6_round_142 rfl rfl, ?_⟩
  refine List.forall_mem_cons.mpr ⟨so_gR (C := RX6) (T := TX6) (N := 12) dX6_round_143 (by decide) rfl rfl (by decide) rfl in_X6 wf_X6_66 rfl, ?_⟩
  refine List.forall_mem_cons.mpr ⟨so_cv (T := TX4) (N := 3) dX6_round_146 mv_X4_isAs wm_X6_205 (by decide) rfl ⟨rfl, rfl⟩ (by decide) rfl, ?_⟩
  refine List.forall_mem_cons.mpr ⟨so_if_eq dX6_round_149 (by decide) rfl, ?_⟩
  refine List.forall_mem_cons.mpr ⟨so_aload_n dX6_round_152 rfl rfl, ?_⟩
  refine List.forall_mem_cons.mpr ⟨so_gR (C := RX6) (T := TX6) (N := 12) dX6_round_153 (by decide) rfl rfl (by decide) rfl in_X6 wf_X6_19 rfl, ?_⟩
  refine List.forall_mem_cons.mpr ⟨so_iload_n dX6_round_156 rfl rfl, ?_⟩
  refine List.forall_mem_cons.mpr ⟨so_cv (T := TX5) (N := 10) dX6_round_157 mv_X5_leftOver wm_X6_209 (by decide) rfl ⟨rfl, rfl⟩ (by decide) rfl, ?_⟩
  refine List.forall_mem_cons.mpr ⟨so_if_ne dX6_round_160 (by decide) rfl, ?_⟩
  refine List.forall_mem_cons.mpr ⟨so_iload_n dX6_round_163 rfl rfl, ?_⟩
  refine List.forall_mem_cons.mpr ⟨so_rI dX6_round_164 rfl, ?_⟩
  refine List.forall_mem_cons.mpr ⟨so_iinc dX6_round_165 (by decide) rfl, ?_⟩
  refine List.forall_mem_cons.mpr ⟨so_goto dX6_round_168 (by decide), ?_⟩
  refine List.forall_mem_cons.mpr ⟨so_bipush dX6_round_171 (by decide) rfl, ?_⟩
  refine List.forall_mem_cons.mpr ⟨so_rI dX6_round_173 rfl, ?_⟩
  exact fun _ h => absurd h List.not_mem_nil
theorem dX6_commonDivisor_0 : decode cX6_commonDivisor 0 = .ok (.iload_n 0, 1) := by decide +kernel
theorem dX6_commonDivisor_1 : decode cX6_commonDivisor 1 = .ok (.istore_n 2, 1) := by decide +kernel
theorem dX6_commonDivisor_2 : decode cX6_commonDivisor 2 = .ok (.iload_n 1, 1) := by decide +kernel
theorem dX6_commonDivisor_3 : decode cX6_commonDivisor 3 = .ok (.istore_n 3, 1) := by decide +kernel
theorem dX6_commonDivisor_4 : decode cX6_commonDivisor 4 = .ok (.iconst 0, 1) := by decide +kernel
theorem dX6_commonDivisor_5 : decode cX6_commonDivisor 5 = .ok (.istore 4, 2) := by decide +kernel
theorem dX6_commonDivisor_7 : decode cX6_commonDivisor 7 = .ok (.iload 4, 2) := by decide +kernel
theorem dX6_commonDivisor_9 : decode cX6_commonDivisor 9 = .ok (.bipush 64, 2) := by decide +kernel
theorem dX6_commonDivisor_11 : decode cX6_commonDivisor 11 = .ok (.if_icmp .ge 23, 3) := by decide +kernel
theorem dX6_commonDivisor_14 : decode cX6_commonDivisor 14 = .ok (.iload_n 3, 1) := by decide +kernel
theorem dX6_commonDivisor_15 : decode cX6_commonDivisor 15 = .ok (.ifCond .eq 19, 3) := by decide +kernel
theorem dX6_commonDivisor_18 : decode cX6_commonDivisor 18 = .ok (.iload_n 2, 1) := by decide +kernel
theorem dX6_commonDivisor_19 : decode cX6_commonDivisor 19 = .ok (.iload_n 3, 1) := by decide +kernel
theorem dX6_commonDivisor_20 : decode cX6_commonDivisor 20 = .ok (.irem, 1) := by decide +kernel
theorem dX6_commonDivisor_21 : decode cX6_commonDivisor 21 = .ok (.istore 5, 2) := by decide +kernel
theorem dX6_commonDivisor_23 : decode cX6_commonDivisor 23 = .ok (.iload_n 3, 1) := by decide +kernel
theorem dX6_commonDivisor_24 : decode cX6_commonDivisor 24 = .ok (.istore_n 2, 1) := by decide +kernel
theorem dX6_commonDivisor_25 : decode cX6_commonDivisor 25 = .ok (.iload 5, 2) := by decide +kernel
theorem dX6_commonDivisor_27 : decode cX6_commonDivisor 27 = .ok (.istore_n 3, 1) := by decide +kernel
theorem dX6_commonDivisor_28 : decode cX6_commonDivisor 28 = .ok (.iinc 4 1, 3) := by decide +kernel
theorem dX6_commonDivisor_31 : decode cX6_commonDivisor 31 = .ok (.goto (-24), 3) := by decide +kernel
theorem dX6_commonDivisor_34 : decode cX6_commonDivisor 34 = .ok (.iload_n 2, 1) := by decide +kernel
theorem dX6_commonDivisor_35 : decode cX6_commonDivisor 35 = .ok (.iconst 1, 1) := by decide +kernel
theorem dX6_commonDivisor_36 : decode cX6_commonDivisor 36 = .ok (.invokestatic 270, 3) := by decide +kernel
theorem dX6_commonDivisor_39 : decode cX6_commonDivisor 39 = .ok (.ireturn, 1) := by decide +kernel
def T_X6_commonDivisor : tk_Tb := [(0, tk_il 0 1), (1, tk_sI 2 2), (2, tk_il 1 3), (3, tk_sI 3 4), (4, tk_ic (0) 5), (5, tk_sI 4 7), (7, tk_il 4 9), (9, tk_ic (64) 11), (11, tk_cm (fun x y => y ≤ x) 34 14), (14, tk_il 3 15), (15, tk_br (fun x => x = 0) 34 18), (18, tk_il 2 19), (19, tk_il 3 20), (20, tk_dv (fun x y => x - x / y * y) 21), (21, tk_sI 5 23), (23, tk_il 3 24), (24, tk_sI 2 25), (25, tk_il 5 27), (27, tk_sI 3 28), (28, tk_inc 4 (1) 31), (31, tk_jmp 7), (34, tk_il 2 35), (35, tk_ic (1) 36), (36, tk_cs M_J9_max_7cf53 2 39), (39, tk_rI)]
set_option maxRecDepth 100000 in
theorem hT_X6_commonDivisor (sc : Option (Nat × (Nat → Int32))) : ∀ x ∈ T_X6_commonDivisor, tk_So sc M_X6_commonDivisor x.1 x.2 := by
  unfold T_X6_commonDivisor
  refine List.forall_mem_cons.mpr ⟨so_iload_n dX6_commonDivisor_0 rfl rfl, ?_⟩
  refine List.forall_mem_cons.mpr ⟨so_istore_n dX6_commonDivisor_1 rfl rfl, ?_⟩
  refine List.forall_mem_cons.mpr ⟨so_iload_n dX6_commonDivisor_2 rfl rfl, ?_⟩
  refine List.forall_mem_cons.mpr ⟨so_istore_n dX6_commonDivisor_3 rfl rfl, ?_⟩
  refine List.forall_mem_cons.mpr ⟨so_iconst dX6_commonDivisor_4 (by decide) rfl, ?_⟩
  refine List.forall_mem_cons.mpr ⟨so_istore dX6_commonDivisor_5 rfl, ?_⟩
  refine List.forall_mem_cons.mpr ⟨so_iload dX6_commonDivisor_7 rfl, ?_⟩
  refine List.forall_mem_cons.mpr ⟨so_bipush dX6_commonDivisor_9 (by decide) rfl, ?_⟩
  refine List.forall_mem_cons.mpr ⟨so_icmp_ge dX6_commonDivisor_11 (by decide) rfl, ?_⟩
  refine List.forall_mem_cons.mpr ⟨so_iload_n dX6_commonDivisor_14 rfl rfl, ?_⟩
  refine List.forall_mem_cons.mpr ⟨so_if_eq dX6_commonDivisor_15 (by decide) rfl, ?_⟩
  refine List.forall_mem_cons.mpr ⟨so_iload_n dX6_commonDivisor_18 rfl rfl, ?_⟩
  refine List.forall_mem_cons.mpr ⟨so_iload_n dX6_commonDivisor_19 rfl rfl, ?_⟩
  refine List.forall_mem_cons.mpr ⟨so_irem dX6_commonDivisor_20 rfl, ?_⟩
  refine List.forall_mem_cons.mpr ⟨so_istore dX6_commonDivisor_21 rfl, ?_⟩
  refine List.forall_mem_cons.mpr ⟨so_iload_n dX6_commonDivisor_23 rfl rfl, ?_⟩
  refine List.forall_mem_cons.mpr ⟨so_istore_n dX6_commonDivisor_24 rfl rfl, ?_⟩
  refine List.forall_mem_cons.mpr ⟨so_iload dX6_commonDivisor_25 rfl, ?_⟩
  refine List.forall_mem_cons.mpr ⟨so_istore_n dX6_commonDivisor_27 rfl rfl, ?_⟩
  refine List.forall_mem_cons.mpr ⟨so_iinc dX6_commonDivisor_28 (by decide) rfl, ?_⟩
  refine List.forall_mem_cons.mpr ⟨so_goto dX6_commonDivisor_31 (by decide), ?_⟩
  refine List.forall_mem_cons.mpr ⟨so_iload_n dX6_commonDivisor_34 rfl rfl, ?_⟩
  refine List.forall_mem_cons.mpr ⟨so_iconst dX6_commonDivisor_35 (by decide) rfl, ?_⟩
  refine List.forall_mem_cons.mpr ⟨so_cs dX6_commonDivisor_36 mv_J9_max_7cf53 wm_X6_270 ⟨rfl, rfl⟩ (by decide) rfl, ?_⟩
  refine List.forall_mem_cons.mpr ⟨so_rI dX6_commonDivisor_39 rfl, ?_⟩
  exact fun _ h => absurd h List.not_mem_nil
theorem dX6_passSomeWeak_0 : decode cX6_passSomeWeak 0 = .ok (.iconst 0, 1) := by decide +kernel
theorem dX6_passSomeWeak_1 : decode cX6_passSomeWeak 1 = .ok (.istore 4, 2) := by decide +kernel
theorem dX6_passSomeWeak_3 : decode cX6_passSomeWeak 3 = .ok (.iload 4, 2) := by decide +kernel
theorem dX6_passSomeWeak_5 : decode cX6_passSomeWeak 5 = .ok (.iload_n 2, 1) := by decide +kernel
theorem dX6_passSomeWeak_6 : decode cX6_passSomeWeak 6 = .ok (.if_icmp .ge 55, 3) := by decide +kernel
theorem dX6_passSomeWeak_9 : decode cX6_passSomeWeak 9 = .ok (.iload_n 3, 1) := by decide +kernel
theorem dX6_passSomeWeak_10 : decode cX6_passSomeWeak 10 = .ok (.iload 4, 2) := by decide +kernel
theorem dX6_passSomeWeak_12 : decode cX6_passSomeWeak 12 = .ok (.ishr, 1) := by decide +kernel
theorem dX6_passSomeWeak_13 : decode cX6_passSomeWeak 13 = .ok (.iconst 1, 1) := by decide +kernel
theorem dX6_passSomeWeak_14 : decode cX6_passSomeWeak 14 = .ok (.iand, 1) := by decide +kernel
theorem dX6_passSomeWeak_15 : decode cX6_passSomeWeak 15 = .ok (.iconst 1, 1) := by decide +kernel
theorem dX6_passSomeWeak_16 : decode cX6_passSomeWeak 16 = .ok (.if_icmp .ne 7, 3) := by decide +kernel
theorem dX6_passSomeWeak_19 : decode cX6_passSomeWeak 19 = .ok (.iconst 3, 1) := by decide +kernel
theorem dX6_passSomeWeak_20 : decode cX6_passSomeWeak 20 = .ok (.goto 4, 3) := by decide +kernel
theorem dX6_passSomeWeak_23 : decode cX6_passSomeWeak 23 = .ok (.iconst 0, 1) := by decide +kernel
theorem dX6_passSomeWeak_24 : decode cX6_passSomeWeak 24 = .ok (.istore 5, 2) := by decide +kernel
theorem dX6_passSomeWeak_26 : decode cX6_passSomeWeak 26 = .ok (.aload_n 1, 1) := by decide +kernel
theorem dX6_passSomeWeak_27 : decode cX6_passSomeWeak 27 = .ok (.aload_n 0, 1) := by decide +kernel
theorem dX6_passSomeWeak_28 : decode cX6_passSomeWeak 28 = .ok (.getfield 19, 3) := by decide +kernel
theorem dX6_passSomeWeak_31 : decode cX6_passSomeWeak 31 = .ok (.aload_n 0, 1) := by decide +kernel
theorem dX6_passSomeWeak_32 : decode cX6_passSomeWeak 32 = .ok (.getfield 19, 3) := by decide +kernel
theorem dX6_passSomeWeak_35 : decode cX6_passSomeWeak 35 = .ok (.aload_n 0, 1) := by decide +kernel
theorem dX6_passSomeWeak_36 : decode cX6_passSomeWeak 36 = .ok (.getfield 29, 3) := by decide +kernel
theorem dX6_passSomeWeak_39 : decode cX6_passSomeWeak 39 = .ok (.getfield 138, 3) := by decide +kernel
theorem dX6_passSomeWeak_42 : decode cX6_passSomeWeak 42 = .ok (.iload 4, 2) := by decide +kernel
theorem dX6_passSomeWeak_44 : decode cX6_passSomeWeak 44 = .ok (.iadd, 1) := by decide +kernel
theorem dX6_passSomeWeak_45 : decode cX6_passSomeWeak 45 = .ok (.invokevirtual 141, 3) := by decide +kernel
theorem dX6_passSomeWeak_48 : decode cX6_passSomeWeak 48 = .ok (.iload 5, 2) := by decide +kernel
theorem dX6_passSomeWeak_50 : decode cX6_passSomeWeak 50 = .ok (.isub, 1) := by decide +kernel
theorem dX6_passSomeWeak_51 : decode cX6_passSomeWeak 51 = .ok (.invokevirtual 188, 3) := by decide +kernel
theorem dX6_passSomeWeak_54 : decode cX6_passSomeWeak 54 = .ok (.pop, 1) := by decide +kernel
theorem dX6_passSomeWeak_55 : decode cX6_passSomeWeak 55 = .ok (.iinc 4 1, 3) := by decide +kernel
theorem dX6_passSomeWeak_58 : decode cX6_passSomeWeak 58 = .ok (.goto (-55), 3) := by decide +kernel
theorem dX6_passSomeWeak_61 : decode cX6_passSomeWeak 61 = .ok (.return_, 1) := by decide +kernel
def T_X6_passSomeWeak : tk_Tb := [(0, tk_ic (0) 1), (1, tk_sI 4 3), (3, tk_il 4 5), (5, tk_il 2 6), (6, tk_cm (fun x y => y ≤ x) 61 9), (9, tk_il 3 10), (10, tk_il 4 12), (12, tk_bi (fun x y => x >>> (y &&& 31)) 13), (13, tk_ic (1) 14), (14, tk_bi (fun x y => x &&& y) 15), (15, tk_ic (1) 16), (16, tk_cm (fun x y => x = y) 19 23), (19, tk_ic (3) 20), (20, tk_jmp 24), (23, tk_ic (0) 24), (24, tk_sI 5 26), (26, tk_al 1 27), (27, tk_al 0 28), (28, tk_gR 6 1 31), (31, tk_al 0 32), (32, tk_gR 6 1 35), (35, tk_al 0 36), (36, tk_gR 6 3 39), (39, tk_gI 1 0 42), (42, tk_il 4 44), (44, tk_bi (fun x y => x + y) 45), (45, tk_cv 5 M_X5_levelOf 1 48), (48, tk_il 5 50), (50, tk_bi (fun x y => x - y) 51), (51, tk_cv 4 M_X4_pass 2 54), (54, tk_pp 55), (55, tk_inc 4 (1) 58), (58, tk_jmp 3), (61, tk_rV)]
set_option maxRecDepth 100000 in
theorem hT_X6_passSomeWeak (sc : Option (Nat × (Nat → Int32))) : ∀ x ∈ T_X6_passSomeWeak, tk_So sc M_X6_passSomeWeak x.1 x.2 := by
  unfold T_X6_passSomeWeak
  refine List.forall_mem_cons.mpr ⟨so_iconst dX6_passSomeWeak_0 (by decide) rfl, ?_⟩
  refine List.forall_mem_cons.mpr ⟨so_istore dX6_passSomeWeak_1 rfl, ?_⟩
  refine List.forall_mem_cons.mpr ⟨so_iload dX6_passSomeWeak_3 rfl, ?_⟩
  refine List.forall_mem_cons.mpr ⟨so_iload_n dX6_passSomeWeak_5 rfl rfl, ?_⟩
  refine List.forall_mem_cons.mpr ⟨so_icmp_ge dX6_passSomeWeak_6 (by decide) rfl, ?_⟩
  refine List.forall_mem_cons.mpr ⟨so_iload_n dX6_passSomeWeak_9 rfl rfl, ?_⟩
  refine List.forall_mem_cons.mpr ⟨so_iload dX6_passSomeWeak_10 rfl, ?_⟩
  refine List.forall_mem_cons.mpr ⟨so_ishr dX6_passSomeWeak_12 rfl, ?_⟩
  refine List.forall_mem_cons.mpr ⟨so_iconst dX6_passSomeWeak_13 (by decide) rfl, ?_⟩
  refine List.forall_mem_cons.mpr ⟨so_iand dX6_passSomeWeak_14 rfl, ?_⟩
  refine List.forall_mem_cons.mpr ⟨so_iconst dX6_passSomeWeak_15 (by decide) rfl, ?_⟩
  refine List.forall_mem_cons.mpr ⟨so_icmp_ne dX6_passSomeWeak_16 (by decide) rfl, ?_⟩
  refine List.forall_mem_cons.mpr ⟨so_iconst dX6_passSomeWeak_19 (by decide) rfl, ?_⟩
  refine List.forall_mem_cons.mpr ⟨so_goto dX6_passSomeWeak_20 (by decide), ?_⟩
  refine List.forall_mem_cons.mpr ⟨so_iconst dX6_passSomeWeak_23 (by decide) rfl, ?_⟩
  refine List.forall_mem_cons.mpr ⟨so_istore dX6_passSomeWeak_24 rfl, ?_⟩
  refine List.forall_mem_cons.mpr ⟨so_aload_n dX6_passSomeWeak_26 rfl rfl, ?_⟩
  refine List.forall_mem_cons.mpr ⟨so_aload_n dX6_passSomeWeak_27 rfl rfl, ?_⟩
  refine List.forall_mem_cons.mpr ⟨so_gR (C := RX6) (T := TX6) (N := 12) dX6_passSomeWeak_28 (by decide) rfl rfl (by decide) rfl in_X6 wf_X6_19 rfl, ?_⟩
  refine List.forall_mem_cons.mpr ⟨so_aload_n dX6_passSomeWeak_31 rfl rfl, ?_⟩
  refine List.forall_mem_cons.mpr ⟨so_gR (C := RX6) (T := TX6) (N := 12) dX6_passSomeWeak_32 (by decide) rfl rfl (by decide) rfl in_X6 wf_X6_19 rfl, ?_⟩
  refine List.forall_mem_cons.mpr ⟨so_aload_n dX6_passSomeWeak_35 rfl rfl, ?_⟩
  refine List.forall_mem_cons.mpr ⟨so_gR (C := RX6) (T := TX6) (N := 12) dX6_passSomeWeak_36 (by decide) rfl rfl (by decide) rfl in_X6 wf_X6_29 rfl, ?_⟩
  refine List.forall_mem_cons.mpr ⟨so_gI (C := RX1) (T := TX1) (N := 3) dX6_passSomeWeak_39 (by decide) rfl rfl (by decide) rfl in_X1 wf_X6_138 rfl, ?_⟩
  refine List.forall_mem_cons.mpr ⟨so_iload dX6_passSomeWeak_42 rfl, ?_⟩
  refine List.forall_mem_cons.mpr ⟨so_iadd dX6_passSomeWeak_44 rfl, ?_⟩
  refine List.forall_mem_cons.mpr ⟨so_cv (T := TX5) (N := 10) dX6_passSomeWeak_45 mv_X5_levelOf wm_X6_141 (by decide) rfl ⟨rfl, rfl⟩ (by decide) rfl, ?_⟩
  refine List.forall_mem_cons.mpr ⟨so_iload dX6_passSomeWeak_48 rfl, ?_⟩
  refine List.forall_mem_cons.mpr ⟨so_isub dX6_passSomeWeak_50 rfl, ?_⟩
  refine List.forall_mem_cons.mpr ⟨so_cv (T := TX4) (N := 3) dX6_passSomeWeak_51 mv_X4_pass wm_X6_188 (by decide) rfl ⟨rfl, rfl⟩ (by decide) rfl, ?_⟩
  refine List.forall_mem_cons.mpr ⟨so_pop dX6_passSomeWeak_54 rfl, ?_⟩
  refine List.forall_mem_cons.mpr ⟨so_iinc dX6_passSomeWeak_55 (by decide) rfl, ?_⟩
  refine List.forall_mem_cons.mpr ⟨so_goto dX6_passSomeWeak_58 (by decide), ?_⟩
  refine List.forall_mem_cons.mpr ⟨so_rV dX6_passSomeWeak_61 rfl, ?_⟩
  exact fun _ h => absurd h List.not_mem_nil
theorem dX6_power_0 : decode cX6_power 0 = .ok (.iconst 1, 1) := by decide +kernel
theorem dX6_power_1 : decode cX6_power 1 = .ok (.istore_n 2, 1) := by decide +kernel
theorem dX6_power_2 : decode cX6_power 2 = .ok (.iconst 0, 1) := by decide +kernel
theorem dX6_power_3 : decode cX6_power 3 = .ok (.istore_n 3, 1) := by decide +kernel
theorem dX6_power_4 : decode cX6_power 4 = .ok (.iload_n 3, 1) := by decide +kernel
theorem dX6_power_5 : decode cX6_power 5 = .ok (.iload_n 1, 1) := by decide +kernel
theorem dX6_power_6 : decode cX6_power 6 = .ok (.if_icmp .ge 13, 3) := by decide +kernel
theorem dX6_power_9 : decode cX6_power 9 = .ok (.iload_n 2, 1) := by decide +kernel
theorem dX6_power_10 : decode cX6_power 10 = .ok (.iload_n 0, 1) := by decide +kernel
theorem dX6_power_11 : decode cX6_power 11 = .ok (.imul, 1) := by decide +kernel
theorem dX6_power_12 : decode cX6_power 12 = .ok (.istore_n 2, 1) := by decide +kernel
theorem dX6_power_13 : decode cX6_power 13 = .ok (.iinc 3 1, 3) := by decide +kernel
theorem dX6_power_16 : decode cX6_power 16 = .ok (.goto (-12), 3) := by decide +kernel
theorem dX6_power_19 : decode cX6_power 19 = .ok (.iload_n 2, 1) := by decide +kernel
theorem dX6_power_20 : decode cX6_power 20 = .ok (.ireturn, 1) := by decide +kernel
def T_X6_power : tk_Tb := [(0, tk_ic (1) 1), (1, tk_sI 2 2), (2, tk_ic (0) 3), (3, tk_sI 3 4), (4, tk_il 3 5), (5, tk_il 1 6), (6, tk_cm (fun x y => y ≤ x) 19 9), (9, tk_il 2 10), (10, tk_il 0 11), (11, tk_bi (fun x y => x * y) 12), (12, tk_sI 2 13), (13, tk_inc 3 (1) 16), (16, tk_jmp 4), (19, tk_il 2 20), (20, tk_rI)]
set_option maxRecDepth 100000 in
theorem hT_X6_power (sc : Option (Nat × (Nat → Int32))) : ∀ x ∈ T_X6_power, tk_So sc M_X6_power x.1 x.2 := by
  unfold T_X6_power
  refine List.forall_mem_cons.mpr ⟨so_iconst dX6_power_0 (by decide) rfl, ?_⟩
  refine List.forall_mem_cons.mpr ⟨so_istore_n dX6_power_1 rfl rfl, ?_⟩
  refine List.forall_mem_cons.mpr ⟨so_iconst dX6_power_2 (by decide) rfl, ?_⟩
  refine List.forall_mem_cons.mpr ⟨so_istore_n dX6_power_3 rfl rfl, ?_⟩
  refine List.forall_mem_cons.mpr ⟨so_iload_n dX6_power_4 rfl rfl, ?_⟩
  refine List.forall_mem_cons.mpr ⟨so_iload_n dX6_power_5 rfl rfl, ?_⟩
  refine List.forall_mem_cons.mpr ⟨so_icmp_ge dX6_power_6 (by decide) rfl, ?_⟩
  refine List.forall_mem_cons.mpr ⟨so_iload_n dX6_power_9 rfl rfl, ?_⟩
  refine List.forall_mem_cons.mpr ⟨so_iload_n dX6_power_10 rfl rfl, ?_⟩
  refine List.forall_mem_cons.mpr ⟨so_imul dX6_power_11 rfl, ?_⟩
  refine List.forall_mem_cons.mpr ⟨so_istore_n dX6_power_12 rfl rfl, ?_⟩
  refine List.forall_mem_cons.mpr ⟨so_iinc dX6_power_13 (by decide) rfl, ?_⟩
  refine List.forall_mem_cons.mpr ⟨so_goto dX6_power_16 (by decide), ?_⟩
  refine List.forall_mem_cons.mpr ⟨so_iload_n dX6_power_19 rfl rfl, ?_⟩
  refine List.forall_mem_cons.mpr ⟨so_rI dX6_power_20 rfl, ?_⟩
  exact fun _ h => absurd h List.not_mem_nil
theorem dJ6_bitCount_0f7a4_0 : decode cJ6_bitCount_0f7a4 0 = .ok (.iload_n 0, 1) := by decide +kernel
theorem dJ6_bitCount_0f7a4_1 : decode cJ6_bitCount_0f7a4 1 = .ok (.iload_n 0, 1) := by decide +kernel
theorem dJ6_bitCount_0f7a4_2 : decode cJ6_bitCount_0f7a4 2 = .ok (.iconst 1, 1) := by decide +kernel
theorem dJ6_bitCount_0f7a4_3 : decode cJ6_bitCount_0f7a4 3 = .ok (.iushr, 1) := by decide +kernel
theorem dJ6_bitCount_0f7a4_4 : decode cJ6_bitCount_0f7a4 4 = .ok (.ldc_w 265, 3) := by decide +kernel
theorem dJ6_bitCount_0f7a4_7 : decode cJ6_bitCount_0f7a4 7 = .ok (.iand, 1) := by decide +kernel
theorem dJ6_bitCount_0f7a4_8 : decode cJ6_bitCount_0f7a4 8 = .ok (.isub, 1) := by decide +kernel
theorem dJ6_bitCount_0f7a4_9 : decode cJ6_bitCount_0f7a4 9 = .ok (.istore_n 0, 1) := by decide +kernel
theorem dJ6_bitCount_0f7a4_10 : decode cJ6_bitCount_0f7a4 10 = .ok (.iload_n 0, 1) := by decide +kernel
theorem dJ6_bitCount_0f7a4_11 : decode cJ6_bitCount_0f7a4 11 = .ok (.ldc_w 266, 3) := by decide +kernel
theorem dJ6_bitCount_0f7a4_14 : decode cJ6_bitCount_0f7a4 14 = .ok (.iand, 1) := by decide +kernel
theorem dJ6_bitCount_0f7a4_15 : decode cJ6_bitCount_0f7a4 15 = .ok (.iload_n 0, 1) := by decide +kernel
theorem dJ6_bitCount_0f7a4_16 : decode cJ6_bitCount_0f7a4 16 = .ok (.iconst 2, 1) := by decide +kernel
theorem dJ6_bitCount_0f7a4_17 : decode cJ6_bitCount_0f7a4 17 = .ok (.iushr, 1) := by decide +kernel
theorem dJ6_bitCount_0f7a4_18 : decode cJ6_bitCount_0f7a4 18 = .ok (.ldc_w 266, 3) := by decide +kernel
theorem dJ6_bitCount_0f7a4_21 : decode cJ6_bitCount_0f7a4 21 = .ok (.iand, 1) := by decide +kernel
theorem dJ6_bitCount_0f7a4_22 : decode cJ6_bitCount_0f7a4 22 = .ok (.iadd, 1) := by decide +kernel
theorem dJ6_bitCount_0f7a4_23 : decode cJ6_bitCount_0f7a4 23 = .ok (.istore_n 0, 1) := by decide +kernel
theorem dJ6_bitCount_0f7a4_24 : decode cJ6_bitCount_0f7a4 24 = .ok (.iload_n 0, 1) := by decide +kernel
theorem dJ6_bitCount_0f7a4_25 : decode cJ6_bitCount_0f7a4 25 = .ok (.iload_n 0, 1) := by decide +kernel
theorem dJ6_bitCount_0f7a4_26 : decode cJ6_bitCount_0f7a4 26 = .ok (.iconst 4, 1) := by decide +kernel
theorem dJ6_bitCount_0f7a4_27 : decode cJ6_bitCount_0f7a4 27 = .ok (.iushr, 1) := by decide +kernel
theorem dJ6_bitCount_0f7a4_28 : decode cJ6_bitCount_0f7a4 28 = .ok (.iadd, 1) := by decide +kernel
theorem dJ6_bitCount_0f7a4_29 : decode cJ6_bitCount_0f7a4 29 = .ok (.ldc_w 267, 3) := by decide +kernel
theorem dJ6_bitCount_0f7a4_32 : decode cJ6_bitCount_0f7a4 32 = .ok (.iand, 1) := by decide +kernel
theorem dJ6_bitCount_0f7a4_33 : decode cJ6_bitCount_0f7a4 33 = .ok (.istore_n 0, 1) := by decide +kernel
theorem dJ6_bitCount_0f7a4_34 : decode cJ6_bitCount_0f7a4 34 = .ok (.iload_n 0, 1) := by decide +kernel
theorem dJ6_bitCount_0f7a4_35 : decode cJ6_bitCount_0f7a4 35 = .ok (.iload_n 0, 1) := by decide +kernel
theorem dJ6_bitCount_0f7a4_36 : decode cJ6_bitCount_0f7a4 36 = .ok (.bipush 8, 2) := by decide +kernel
theorem dJ6_bitCount_0f7a4_38 : decode cJ6_bitCount_0f7a4 38 = .ok (.iushr, 1) := by decide +kernel
theorem dJ6_bitCount_0f7a4_39 : decode cJ6_bitCount_0f7a4 39 = .ok (.iadd, 1) := by decide +kernel
theorem dJ6_bitCount_0f7a4_40 : decode cJ6_bitCount_0f7a4 40 = .ok (.istore_n 0, 1) := by decide +kernel
theorem dJ6_bitCount_0f7a4_41 : decode cJ6_bitCount_0f7a4 41 = .ok (.iload_n 0, 1) := by decide +kernel
theorem dJ6_bitCount_0f7a4_42 : decode cJ6_bitCount_0f7a4 42 = .ok (.iload_n 0, 1) := by decide +kernel
theorem dJ6_bitCount_0f7a4_43 : decode cJ6_bitCount_0f7a4 43 = .ok (.bipush 16, 2) := by decide +kernel
theorem dJ6_bitCount_0f7a4_45 : decode cJ6_bitCount_0f7a4 45 = .ok (.iushr, 1) := by decide +kernel
theorem dJ6_bitCount_0f7a4_46 : decode cJ6_bitCount_0f7a4 46 = .ok (.iadd, 1) := by decide +kernel
theorem dJ6_bitCount_0f7a4_47 : decode cJ6_bitCount_0f7a4 47 = .ok (.istore_n 0, 1) := by decide +kernel
theorem dJ6_bitCount_0f7a4_48 : decode cJ6_bitCount_0f7a4 48 = .ok (.iload_n 0, 1) := by decide +kernel
theorem dJ6_bitCount_0f7a4_49 : decode cJ6_bitCount_0f7a4 49 = .ok (.bipush 63, 2) := by decide +kernel
theorem dJ6_bitCount_0f7a4_51 : decode cJ6_bitCount_0f7a4 51 = .ok (.iand, 1) := by decide +kernel
theorem dJ6_bitCount_0f7a4_52 : decode cJ6_bitCount_0f7a4 52 = .ok (.ireturn, 1) := by decide +kernel
def T_J6_bitCount_0f7a4 : tk_Tb := [(0, tk_il 0 1), (1, tk_il 0 2), (2, tk_ic (1) 3), (3, tk_bi (fun x y => (x.toUInt32 >>> (y.toUInt32 &&& Int32.toUInt32 31)).toInt32) 4), (4, tk_ic (1431655765) 7), (7, tk_bi (fun x y => x &&& y) 8), (8, tk_bi (fun x y => x - y) 9), (9, tk_sI 0 10), (10, tk_il 0 11), (11, tk_ic (858993459) 14), (14, tk_bi (fun x y => x &&& y) 15), (15, tk_il 0 16), (16, tk_ic (2) 17), (17, tk_bi (fun x y => (x.toUInt32 >>> (y.toUInt32 &&& Int32.toUInt32 31)).toInt32) 18), (18, tk_ic (858993459) 21), (21, tk_bi (fun x y => x &&& y) 22), (22, tk_bi (fun x y => x + y) 23), (23, tk_sI 0 24), (24, tk_il 0 25), (25, tk_il 0 26), (26, tk_ic (4) 27), (27, tk_bi (fun x y => (x.toUInt32 >>> (y.toUInt32 &&& Int32.toUInt32 31)).toInt32) 28), (28, tk_bi (fun x y => x + y) 29), (29, tk_ic (252645135) 32), (32, tk_bi (fun x y => x &&& y) 33), (33, tk_sI 0 34), (34, tk_il 0 35), (35, tk_il 0 36), (36, tk_ic (8) 38), (38, tk_bi (fun x y => (x.toUInt32 >>> (y.toUInt32 &&& Int32.toUInt32 31)).toInt32) 39), (39, tk_bi (fun x y => x + y) 40), (40, tk_sI 0 41), (41, tk_il 0 42), (42, tk_il 0 43), (43, tk_ic (16) 45), (45, tk_bi (fun x y => (x.toUInt32 >>> (y.toUInt32 &&& Int32.toUInt32 31)).toInt32) 46), (46, tk_bi (fun x y => x + y) 47), (47, tk_sI 0 48), (48, tk_il 0 49), (49, tk_ic (63) 51), (51, tk_bi (fun x y => x &&& y) 52), (52, tk_rI)]
set_option maxRecDepth 100000 in
theorem hT_J6_bitCount_0f7a4 (sc : Option (Nat × (Nat → Int32))) : ∀ x ∈ T_J6_bitCount_0f7a4, tk_So sc M_J6_bitCount_0f7a4 x.1 x.2 := by
  unfold T_J6_bitCount_0f7a4
  refine List.forall_mem_cons.mpr ⟨so_iload_n dJ6_bitCount_0f7a4_0 rfl rfl, ?_⟩
  refine List.forall_mem_cons.mpr ⟨so_iload_n dJ6_bitCount_0f7a4_1 rfl rfl, ?_⟩
  refine List.forall_mem_cons.mpr ⟨so_iconst dJ6_bitCount_0f7a4_2 (by decide) rfl, ?_⟩
  refine List.forall_mem_cons.mpr ⟨so_iushr dJ6_bitCount_0f7a4_3 rfl, ?_⟩
  refine List.forall_mem_cons.mpr ⟨so_ldcw dJ6_bitCount_0f7a4_4 wc_J6_265 rfl, ?_⟩
  refine List.forall_mem_cons.mpr ⟨so_iand dJ6_bitCount_0f7a4_7 rfl, ?_⟩
  refine List.forall_mem_cons.mpr ⟨so_isub dJ6_bitCount_0f7a4_8 rfl, ?_⟩
  refine List.forall_mem_cons.mpr ⟨so_istore_n dJ6_bitCount_0f7a4_9 rfl rfl, ?_⟩
  refine List.forall_mem_cons.mpr ⟨so_iload_n dJ6_bitCount_0f7a4_10 rfl rfl, ?_⟩
  refine List.forall_mem_cons.mpr ⟨so_ldcw dJ6_bitCount_0f7a4_11 wc_J6_266 rfl, ?_⟩
  refine List.forall_mem_cons.mpr ⟨so_iand dJ6_bitCount_0f7a4_14 rfl, ?_⟩
  refine List.forall_mem_cons.mpr ⟨so_iload_n dJ6_bitCount_0f7a4_15 rfl rfl, ?_⟩
  refine List.forall_mem_cons.mpr ⟨so_iconst dJ6_bitCount_0f7a4_16 (by decide) rfl, ?_⟩
  refine List.forall_mem_cons.mpr ⟨so_iushr dJ6_bitCount_0f7a4_17 rfl, ?_⟩
  refine List.forall_mem_cons.mpr ⟨so_ldcw dJ6_bitCount_0f7a4_18 wc_J6_266 rfl, ?_⟩
  refine List.forall_mem_cons.mpr ⟨so_iand dJ6_bitCount_0f7a4_21 rfl, ?_⟩
  refine List.forall_mem_cons.mpr ⟨so_iadd dJ6_bitCount_0f7a4_22 rfl, ?_⟩
  refine List.forall_mem_cons.mpr ⟨so_istore_n dJ6_bitCount_0f7a4_23 rfl rfl, ?_⟩
  refine List.forall_mem_cons.mpr ⟨so_iload_n dJ6_bitCount_0f7a4_24 rfl rfl, ?_⟩
  refine List.forall_mem_cons.mpr ⟨so_iload_n dJ6_bitCount_0f7a4_25 rfl rfl, ?_⟩
  refine List.forall_mem_cons.mpr ⟨so_iconst dJ6_bitCount_0f7a4_26 (by decide) rfl, ?_⟩
  refine List.forall_mem_cons.mpr ⟨so_iushr dJ6_bitCount_0f7a4_27 rfl, ?_⟩
  refine List.forall_mem_cons.mpr ⟨so_iadd dJ6_bitCount_0f7a4_28 rfl, ?_⟩
  refine List.forall_mem_cons.mpr ⟨so_ldcw dJ6_bitCount_0f7a4_29 wc_J6_267 rfl, ?_⟩
  refine List.forall_mem_cons.mpr ⟨so_iand dJ6_bitCount_0f7a4_32 rfl, ?_⟩
  refine List.forall_mem_cons.mpr ⟨so_istore_n dJ6_bitCount_0f7a4_33 rfl rfl, ?_⟩
  refine List.forall_mem_cons.mpr ⟨so_iload_n dJ6_bitCount_0f7a4_34 rfl rfl, ?_⟩
  refine List.forall_mem_cons.mpr ⟨so_iload_n dJ6_bitCount_0f7a4_35 rfl rfl, ?_⟩
  refine List.forall_mem_cons.mpr ⟨so_bipush dJ6_bitCount_0f7a4_36 (by decide) rfl, ?_⟩
  refine List.forall_mem_cons.mpr ⟨so_iushr dJ6_bitCount_0f7a4_38 rfl, ?_⟩
  refine List.forall_mem_cons.mpr ⟨so_iadd dJ6_bitCount_0f7a4_39 rfl, ?_⟩
  refine List.forall_mem_cons.mpr ⟨so_istore_n dJ6_bitCount_0f7a4_40 rfl rfl, ?_⟩
  refine List.forall_mem_cons.mpr ⟨so_iload_n dJ6_bitCount_0f7a4_41 rfl rfl, ?_⟩
  refine List.forall_mem_cons.mpr ⟨so_iload_n dJ6_bitCount_0f7a4_42 rfl rfl, ?_⟩
  refine List.forall_mem_cons.mpr ⟨so_bipush dJ6_bitCount_0f7a4_43 (by decide) rfl, ?_⟩
  refine List.forall_mem_cons.mpr ⟨so_iushr dJ6_bitCount_0f7a4_45 rfl, ?_⟩
  refine List.forall_mem_cons.mpr ⟨so_iadd dJ6_bitCount_0f7a4_46 rfl, ?_⟩
  refine List.forall_mem_cons.mpr ⟨so_istore_n dJ6_bitCount_0f7a4_47 rfl rfl, ?_⟩
  refine List.forall_mem_cons.mpr ⟨so_iload_n dJ6_bitCount_0f7a4_48 rfl rfl, ?_⟩
  refine List.forall_mem_cons.mpr ⟨so_bipush dJ6_bitCount_0f7a4_49 (by decide) rfl, ?_⟩
  refine List.forall_mem_cons.mpr ⟨so_iand dJ6_bitCount_0f7a4_51 rfl, ?_⟩
  refine List.forall_mem_cons.mpr ⟨so_rI dJ6_bitCount_0f7a4_52 rfl, ?_⟩
  exact fun _ h => absurd h List.not_mem_nil
theorem dX6_odds_0 : decode cX6_odds 0 = .ok (.aload_n 0, 1) := by decide +kernel
theorem dX6_odds_1 : decode cX6_odds 1 = .ok (.getfield 19, 3) := by decide +kernel
theorem dX6_odds_4 : decode cX6_odds 4 = .ok (.iload_n 1, 1) := by decide +kernel
theorem dX6_odds_5 : decode cX6_odds 5 = .ok (.invokevirtual 119, 3) := by decide +kernel
theorem dX6_odds_8 : decode cX6_odds 8 = .ok (.ifCond .eq 44, 3) := by decide +kernel
theorem dX6_odds_11 : decode cX6_odds 11 = .ok (.aload_n 0, 1) := by decide +kernel
theorem dX6_odds_12 : decode cX6_odds 12 = .ok (.getfield 19, 3) := by decide +kernel
theorem dX6_odds_15 : decode cX6_odds 15 = .ok (.iload_n 2, 1) := by decide +kernel
theorem dX6_odds_16 : decode cX6_odds 16 = .ok (.invokevirtual 94, 3) := by decide +kernel
theorem dX6_odds_19 : decode cX6_odds 19 = .ok (.ifCond .eq 33, 3) := by decide +kernel
theorem dX6_odds_22 : decode cX6_odds 22 = .ok (.iload_n 3, 1) := by decide +kernel
theorem dX6_odds_23 : decode cX6_odds 23 = .ok (.iconst 0, 1) := by decide +kernel
theorem dX6_odds_24 : decode cX6_odds 24 = .ok (.iconst 4, 1) := by decide +kernel
theorem dX6_odds_25 : decode cX6_odds 25 = .ok (.invokestatic 69, 3) := by decide +kernel
theorem dX6_odds_28 : decode cX6_odds 28 = .ok (.ifCond .eq 24, 3) := by decide +kernel
theorem dX6_odds_31 : decode cX6_odds 31 = .ok (.iload 4, 2) := by decide +kernel
theorem dX6_odds_33 : decode cX6_odds 33 = .ok (.iconst 0, 1) := by decide +kernel
theorem dX6_odds_34 : decode cX6_odds 34 = .ok (.bipush 10, 2) := by decide +kernel
theorem dX6_odds_36 : decode cX6_odds 36 = .ok (.invokestatic 69, 3) := by decide +kernel
theorem dX6_odds_39 : decode cX6_odds 39 = .ok (.ifCond .eq 13, 3) := by decide +kernel
theorem dX6_odds_42 : decode cX6_odds 42 = .ok (.iload 5, 2) := by decide +kernel
theorem dX6_odds_44 : decode cX6_odds 44 = .ok (.iconst 0, 1) := by decide +kernel
theorem dX6_odds_45 : decode cX6_odds 45 = .ok (.iconst 1, 1) := by decide +kernel
theorem dX6_odds_46 : decode cX6_odds 46 = .ok (.invokestatic 69, 3) := by decide +kernel
theorem dX6_odds_49 : decode cX6_odds 49 = .ok (.ifCond .ne 5, 3) := by decide +kernel
theorem dX6_odds_52 : decode cX6_odds 52 = .ok (.iconst (-1), 1) := by decide +kernel
theorem dX6_odds_53 : decode cX6_odds 53 = .ok (.ireturn, 1) := by decide +kernel
theorem dX6_odds_54 : decode cX6_odds 54 = .ok (.iconst 0, 1) := by decide +kernel
theorem dX6_odds_55 : decode cX6_odds 55 = .ok (.istore 6, 2) := by decide +kernel
theorem dX6_odds_57 : decode cX6_odds 57 = .ok (.iconst 0, 1) := by decide +kernel
theorem dX6_odds_58 : decode cX6_odds 58 = .ok (.istore 7, 2) := by decide +kernel
theorem dX6_odds_60 : decode cX6_odds 60 = .ok (.iload 7, 2) := by decide +kernel
theorem dX6_odds_62 : decode cX6_odds 62 = .ok (.iconst 1, 1) := by decide +kernel
theorem dX6_odds_63 : decode cX6_odds 63 = .ok (.iload_n 3, 1) := by decide +kernel
theorem dX6_odds_64 : decode cX6_odds 64 = .ok (.ishl, 1) := by decide +kernel
theorem dX6_odds_65 : decode cX6_odds 65 = .ok (.if_icmp .ge 79, 3) := by decide +kernel
theorem dX6_odds_68 : decode cX6_odds 68 = .ok (.aload_n 0, 1) := by decide +kernel
theorem dX6_odds_69 : decode cX6_odds 69 = .ok (.getfield 62, 3) := by decide +kernel
theorem dX6_odds_72 : decode cX6_odds 72 = .ok (.aload_n 0, 1) := by decide +kernel
theorem dX6_odds_73 : decode cX6_odds 73 = .ok (.getfield 29, 3) := by decide +kernel
theorem dX6_odds_76 : decode cX6_odds 76 = .ok (.getfield 122, 3) := by decide +kernel
theorem dX6_odds_79 : decode cX6_odds 79 = .ok (.iload_n 1, 1) := by decide +kernel
theorem dX6_odds_80 : decode cX6_odds 80 = .ok (.aaload, 1) := by decide +kernel
theorem dX6_odds_81 : decode cX6_odds 81 = .ok (.invokevirtual 184, 3) := by decide +kernel
theorem dX6_odds_84 : decode cX6_odds 84 = .ok (.aload_n 0, 1) := by decide +kernel
theorem dX6_odds_85 : decode cX6_odds 85 = .ok (.aload_n 0, 1) := by decide +kernel
theorem dX6_odds_86 : decode cX6_odds 86 = .ok (.getfield 62, 3) := by decide +kernel
theorem dX6_odds_89 : decode cX6_odds 89 = .ok (.iload_n 3, 1) := by decide +kernel
theorem dX6_odds_90 : decode cX6_odds 90 = .ok (.iload 7, 2) := by decide +kernel
theorem dX6_odds_92 : decode cX6_odds 92 = .ok (.invokevirtual 212, 3) := by decide +kernel
theorem dX6_odds_95 : decode cX6_odds 95 = .ok (.aload_n 0, 1) := by decide +kernel
theorem dX6_odds_96 : decode cX6_odds 96 = .ok (.getfield 62, 3) := by decide +kernel
theorem dX6_odds_99 : decode cX6_odds 99 = .ok (.iload_n 2, 1) := by decide +kernel
theorem dX6_odds_100 : decode cX6_odds 100 = .ok (.invokevirtual 202, 3) := by decide +kernel
theorem dX6_odds_103 : decode cX6_odds 103 = .ok (.ifCond .eq 35, 3) := by decide +kernel
theorem dX6_odds_106 : decode cX6_odds 106 = .ok (.iload 7, 2) := by decide +kernel
theorem dX6_odds_108 : decode cX6_odds 108 = .ok (.invokestatic 216, 3) := by decide +kernel
theorem dX6_odds_111 : decode cX6_odds 111 = .ok (.istore 8, 2) := by decide +kernel
theorem dX6_odds_113 : decode cX6_odds 113 = .ok (.iload 6, 2) := by decide +kernel
theorem dX6_odds_115 : decode cX6_odds 115 = .ok (.iload 4, 2) := by decide +kernel
theorem dX6_odds_117 : decode cX6_odds 117 = .ok (.iload 8, 2) := by decide +kernel
theorem dX6_odds_119 : decode cX6_odds 119 = .ok (.invokestatic 221, 3) := by decide +kernel
theorem dX6_odds_122 : decode cX6_odds 122 = .ok (.bipush 10, 2) := by decide +kernel
theorem dX6_odds_124 : decode cX6_odds 124 = .ok (.iload 4, 2) := by decide +kernel
theorem dX6_odds_126 : decode cX6_odds 126 = .ok (.isub, 1) := by decide +kernel
theorem dX6_odds_127 : decode cX6_odds 127 = .ok (.iload_n 3, 1) := by decide +kernel
theorem dX6_odds_128 : decode cX6_odds 128 = .ok (.iload 8, 2) := by decide +kernel
theorem dX6_odds_130 : decode cX6_odds 130 = .ok (.isub, 1) := by decide +kernel
theorem dX6_odds_131 : decode cX6_odds 131 = .ok (.invokestatic 221, 3) := by decide +kernel
theorem dX6_odds_134 : decode cX6_odds 134 = .ok (.imul, 1) := by decide +kernel
theorem dX6_odds_135 : decode cX6_odds 135 = .ok (.iadd, 1) := by decide +kernel
theorem dX6_odds_136 : decode cX6_odds 136 = .ok (.istore 6, 2) := by decide +kernel
theorem dX6_odds_138 : decode cX6_odds 138 = .ok (.iinc 7 1, 3) := by decide +kernel
theorem dX6_odds_141 : decode cX6_odds 141 = .ok (.goto (-81), 3) := by decide +kernel
theorem dX6_odds_144 : decode cX6_odds 144 = .ok (.bipush 10, 2) := by decide +kernel
theorem dX6_odds_146 : decode cX6_odds 146 = .ok (.iload_n 3, 1) := by decide +kernel
theorem dX6_odds_147 : decode cX6_odds 147 = .ok (.invokestatic 221, 3) := by decide +kernel
theorem dX6_odds_150 : decode cX6_odds 150 = .ok (.istore 7, 2) := by decide +kernel
theorem dX6_odds_152 : decode cX6_odds 152 = .ok (.iload 5, 2) := by decide +kernel
theorem dX6_odds_154 : decode cX6_odds 154 = .ok (.ifCond .ne 8, 3) := by decide +kernel
theorem dX6_odds_157 : decode cX6_odds 157 = .ok (.iload 6, 2) := by decide +kernel
theorem dX6_odds_159 : decode cX6_odds 159 = .ok (.goto 5, 3) := by decide +kernel
theorem dX6_odds_162 : decode cX6_odds 162 = .ok (.iload 7, 2) := by decide +kernel
theorem dX6_odds_164 : decode cX6_odds 164 = .ok (.iload 6, 2) := by decide +kernel
theorem dX6_odds_166 : decode cX6_odds 166 = .ok (.iload 7, 2) := by decide +kernel
theorem dX6_odds_168 : decode cX6_odds 168 = .ok (.invokestatic 224, 3) := by decide +kernel
theorem dX6_odds_171 : decode cX6_odds 171 = .ok (.idiv, 1) := by decide +kernel
theorem dX6_odds_172 : decode cX6_odds 172 = .ok (.ireturn, 1) := by decide +kernel
def T_X6_odds : tk_Tb := [(0, tk_al 0 1), (1, tk_gR 6 1 4), (4, tk_il 1 5), (5, tk_cv 5 M_X5_isThing 1 8), (8, tk_br (fun x => x = 0) 52 11), (11, tk_al 0 12), (12, tk_gR 6 1 15), (15, tk_il 2 16), (16, tk_cv 5 M_X5_isKerb 1 19), (19, tk_br (fun x => x = 0) 52 22), (22, tk_il 3 23), (23, tk_ic (0) 24), (24, tk_ic (4) 25), (25, tk_cs M_X6_isWithin 3 28), (28, tk_br (fun x => x = 0) 52 31), (31, tk_il 4 33), (33, tk_ic (0) 34), (34, tk_ic (10) 36), (36, tk_cs M_X6_isWithin 3 39), (39, tk_br (fun x => x = 0) 52 42), (42, tk_il 5 44), (44, tk_ic (0) 45), (45, tk_ic (1) 46), (46, tk_cs M_X6_isWithin 3 49), (49, tk_br (fun x => x = 0) 52 54), (52, tk_ic (-1) 53), (53, tk_rI), (54, tk_ic (0) 55), (55, tk_sI 6 57), (57, tk_ic (0) 58), (58, tk_sI 7 60), (60, tk_il 7 62), (62, tk_ic (1) 63), (63, tk_il 3 64), (64, tk_bi (fun x y => x <<< (y &&& 31)) 65), (65, tk_cm (fun x y => y ≤ x) 144 68), (68, tk_al 0 69), (69, tk_gR 6 9 72), (72, tk_al 0 73), (73, tk_gR 6 3 76), (76, tk_gR 1 2 79), (79, tk_il 1 80), (80, tk_aa 11 81), (81, tk_cv 4 M_X4_becomes 1 84), (84, tk_al 0 85), (85, tk_al 0 86), (86, tk_gR 6 9 89), (89, tk_il 3 90), (90, tk_il 7 92), (92, tk_cv 6 M_X6_passSomeWeak 3 95), (95, tk_al 0 96), (96, tk_gR 6 9 99), (99, tk_il 2 100), (100, tk_cv 4 M_X4_liesOn 1 103), (103, tk_br (fun x => x = 0) 138 106), (106, tk_il 7 108), (108, tk_cs M_J6_bitCount_0f7a4 1 111), (111, tk_sI 8 113), (113, tk_il 6 115), (115, tk_il 4 117), (117, tk_il 8 119), (119, tk_cs M_X6_power 2 122), (122, tk_ic (10) 124), (124, tk_il 4 126), (126, tk_bi (fun x y => x - y) 127), (127, tk_il 3 128), (128, tk_il 8 130), (130, tk_bi (fun x y => x - y) 131), (131, tk_cs M_X6_power 2 134), (134, tk_bi (fun x y => x * y) 135), (135, tk_bi (fun x y => x + y) 136), (136, tk_sI 6 138), (138, tk_inc 7 (1) 141), (141, tk_jmp 60), (144, tk_ic (10) 146), (146, tk_il 3 147), (147, tk_cs M_X6_power 2 150), (150, tk_sI 7 152), (152, tk_il 5 154), (154, tk_br (fun x => x = 0) 157 162), (157, tk_il 6 159), (159, tk_jmp 164), (162, tk_il 7 164), (164, tk_il 6 166), (166, tk_il 7 168), (168, tk_cs M_X6_commonDivisor 2 171), (171, tk_dv (fun x y => x / y) 172), (172, tk_rI)]
set_option maxRecDepth 100000 in
theorem hT_X6_odds (sc : Option (Nat × (Nat → Int32))) : ∀ x ∈ T_X6_odds, tk_So sc M_X6_odds x.1 x.2 := by
  unfold T_X6_odds
  refine List.forall_mem_cons.mpr ⟨so_aload_n dX6_odds_0 rfl rfl, ?_⟩
  refine List.forall_mem_cons.mpr ⟨so_gR (C := RX6) (T := TX6) (N := 12) dX6_odds_1 (by decide) rfl rfl (by decide) rfl in_X6 wf_X6_19 rfl, ?_⟩
  refine List.forall_mem_cons.mpr ⟨so_iload_n dX6_odds_4 rfl rfl, ?_⟩
  refine List.forall_mem_cons.mpr ⟨so_cv (T := TX5) (N := 10) dX6_odds_5 mv_X5_isThing wm_X6_119 (by decide) rfl ⟨rfl, rfl⟩ (by decide) rfl, ?_⟩
  refine List.forall_mem_cons.mpr ⟨so_if_eq dX6_odds_8 (by decide) rfl, ?_⟩
  refine List.forall_mem_cons.mpr ⟨so_aload_n dX6_odds_11 rfl rfl, ?_⟩
  refine List.forall_mem_cons.mpr ⟨so_gR (C := RX6) (T := TX6) (N := 12) dX6_odds_12 (by decide) rfl rfl (by decide) rfl in_X6 wf_X6_19 rfl, ?_⟩
  refine List.forall_mem_cons.mpr ⟨so_iload_n dX6_odds_15 rfl rfl, ?_⟩
  refine List.forall_mem_cons.mpr ⟨so_cv (T := TX5) (N := 10) dX6_odds_16 mv_X5_isKerb wm_X6_94 (by decide) rfl ⟨rfl, rfl⟩ (by decide) rfl, ?_⟩
  refine List.forall_mem_cons.mpr ⟨so_if_eq dX6_odds_19 (by decide) rfl, ?_⟩
  refine List.forall_mem_cons.mpr ⟨so_iload_n dX6_odds_22 rfl rfl, ?_⟩
  refine List.forall_mem_cons.mpr ⟨so_iconst dX6_odds_23 (by decide) rfl, ?_⟩
  refine List.forall_mem_cons.mpr ⟨so_iconst dX6_odds_24 (by decide) rfl, ?_⟩
  refine List.forall_mem_cons.mpr ⟨so_cs dX6_odds_25 mv_X6_isWithin wm_X6_69 ⟨rfl, rfl⟩ (by decide) rfl, ?_⟩
  refine List.forall_mem_cons.mpr ⟨so_if_eq dX6_odds_28 (by decide) rfl, ?_⟩
  refine List.forall_mem_cons.mpr ⟨so_iload dX6_odds_31 rfl, ?_⟩
  refine List.forall_mem_cons.mpr ⟨so_iconst dX6_odds_33 (by decide) rfl, ?_⟩
  refine List.forall_mem_cons.mpr ⟨so_bipush dX6_odds_34 (by decide) rfl, ?_⟩
  refine List.forall_mem_cons.mpr ⟨so_cs dX6_odds_36 mv_X6_isWithin wm_X6_69 ⟨rfl, rfl⟩ (by decide) rfl, ?_⟩
  refine List.forall_mem_cons.mpr ⟨so_if_eq dX6_odds_39 (by decide) rfl, ?_⟩
  refine List.forall_mem_cons.mpr ⟨so_iload dX6_odds_42 rfl, ?_⟩
  refine List.forall_mem_cons.mpr ⟨so_iconst dX6_odds_44 (by decide) rfl, ?_⟩
  refine List.forall_mem_cons.mpr ⟨so_iconst dX6_odds_45 (by decide) rfl, ?_⟩
  refine List.forall_mem_cons.mpr ⟨so_cs dX6_odds_46 mv_X6_isWithin wm_X6_69 ⟨rfl, rfl⟩ (by decide) rfl, ?_⟩
  refine List.forall_mem_cons.mpr ⟨so_if_ne dX6_odds_49 (by decide) rfl, ?_⟩
  refine List.forall_mem_cons.mpr ⟨so_iconst dX6_odds_52 (by decide) rfl, ?_⟩
  refine List.forall_mem_cons.mpr ⟨so_rI dX6_odds_53 rfl, ?_⟩
  refine List.forall_mem_cons.mpr ⟨so_iconst dX6_odds_54 (by decide) rfl, ?_⟩
  refine List.forall_mem_cons.mpr ⟨so_istore dX6_odds_55 rfl, ?_⟩
  refine List.forall_mem_cons.mpr ⟨so_iconst dX6_odds_57 (by decide) rfl, ?_⟩
  refine List.forall_mem_cons.mpr ⟨so_istore dX6_odds_58 rfl, ?_⟩
  refine List.forall_mem_cons.mpr ⟨so_iload dX6_odds_60 rfl, ?_⟩
  refine List.forall_mem_cons.mpr ⟨so_iconst dX6_odds_62 (by decide) rfl, ?_⟩
  refine List.forall_mem_cons.mpr ⟨so_iload_n dX6_odds_63 rfl rfl, ?_⟩
  refine List.forall_mem_cons.mpr ⟨so_ishl dX6_odds_64 rfl, ?_⟩
  refine List.forall_mem_cons.mpr ⟨so_icmp_ge dX6_odds_65 (by decide) rfl, ?_⟩
  refine List.forall_mem_cons.mpr ⟨so_aload_n dX6_odds_68 rfl rfl, ?_⟩
  refine List.forall_mem_cons.mpr ⟨so_gR (C := RX6) (T := TX6) (N := 12) dX6_odds_69 (by decide) rfl rfl (by decide) rfl in_X6 wf_X6_62 rfl, ?_⟩
  refine List.forall_mem_cons.mpr ⟨so_aload_n dX6_odds_72 rfl rfl, ?_⟩
  refine List.forall_mem_cons.mpr ⟨so_gR (C := RX6) (T := TX6) (N := 12) dX6_odds_73 (by decide) rfl rfl (by decide) rfl in_X6 wf_X6_29 rfl, ?_⟩
  refine List.forall_mem_cons.mpr ⟨so_gR (C := RX1) (T := TX1) (N := 3) dX6_odds_76 (by decide) rfl rfl (by decide) rfl in_X1 wf_X6_122 rfl, ?_⟩
  refine List.forall_mem_cons.mpr ⟨so_iload_n dX6_odds_79 rfl rfl, ?_⟩
  refine List.forall_mem_cons.mpr ⟨so_aaT dX6_odds_80 rfl, ?_⟩
  refine List.forall_mem_cons.mpr ⟨so_cv (T := TX4) (N := 3) dX6_odds_81 mv_X4_becomes wm_X6_184 (by decide) rfl ⟨rfl, rfl⟩ (by decide) rfl, ?_⟩
  refine List.forall_mem_cons.mpr ⟨so_aload_n dX6_odds_84 rfl rfl, ?_⟩
  refine List.forall_mem_cons.mpr ⟨so_aload_n dX6_odds_85 rfl rfl, ?_⟩
  refine List.forall_mem_cons.mpr ⟨so_gR (C := RX6) (T := TX6) (N := 12) dX6_odds_86 (by decide) rfl rfl (by decide) rfl in_X6 wf_X6_62 rfl, ?_⟩
  refine List.forall_mem_cons.mpr ⟨so_iload_n dX6_odds_89 rfl rfl, ?_⟩
  refine List.forall_mem_cons.mpr ⟨so_iload dX6_odds_90 rfl, ?_⟩
  refine List.forall_mem_cons.mpr ⟨so_cv (T := TX6) (N := 12) dX6_odds_92 mv_X6_passSomeWeak wm_X6_212 (by decide) rfl ⟨rfl, rfl⟩ (by decide) rfl, ?_⟩
  refine List.forall_mem_cons.mpr ⟨so_aload_n dX6_odds_95 rfl rfl, ?_⟩
  refine List.forall_mem_cons.mpr ⟨so_gR (C := RX6) (T := TX6) (N := 12) dX6_odds_96 (by decide) rfl rfl (by decide) rfl in_X6 wf_X6_62 rfl, ?_⟩
  refine List.forall_mem_cons.mpr ⟨so_iload_n dX6_odds_99 rfl rfl, ?_⟩
  refine List.forall_mem_cons.mpr ⟨so_cv (T := TX4) (N := 3) dX6_odds_100 mv_X4_liesOn wm_X6_202 (by decide) rfl ⟨rfl, rfl⟩ (by decide) rfl, ?_⟩
  refine List.forall_mem_cons.mpr ⟨so_if_eq dX6_odds_103 (by decide) rfl, ?_⟩
  refine List.forall_mem_cons.mpr ⟨so_iload dX6_odds_106 rfl, ?_⟩
  refine List.forall_mem_cons.mpr ⟨so_cs dX6_odds_108 mv_J6_bitCount_0f7a4 wm_X6_216 ⟨rfl, rfl⟩ (by decide) rfl, ?_⟩
  refine List.forall_mem_cons.mpr ⟨so_istore dX6_odds_111 rfl, ?_⟩
  refine List.forall_mem_cons.mpr ⟨so_iload dX6_odds_113 rfl, ?_⟩
  refine List.forall_mem_cons.mpr ⟨so_iload dX6_odds_115 rfl, ?_⟩
  refine List.forall_mem_cons.mpr ⟨so_iload dX6_odds_117 rfl, ?_⟩
  refine List.forall_mem_cons.mpr ⟨so_cs dX6_odds_119 mv_X6_power wm_X6_221 ⟨rfl, rfl⟩ (by decide) rfl, ?_⟩
  refine List.forall_mem_cons.mpr ⟨so_bipush dX6_odds_122 (by decide) rfl, ?_⟩
  refine List.forall_mem_cons.mpr ⟨so_iload dX6_odds_124 rfl, ?_⟩
  refine List.forall_mem_cons.mpr ⟨so_isub dX6_odds_126 rfl, ?_⟩
  refine List.forall_mem_cons.mpr ⟨so_iload_n dX6_odds_127 rfl rfl, ?_⟩
  refine List.forall_mem_cons.mpr ⟨so_iload dX6_odds_128 rfl, ?_⟩
  refine List.forall_mem_cons.mpr ⟨so_isub dX6_odds_130 rfl, ?_⟩
  refine List.forall_mem_cons.mpr ⟨so_cs dX6_odds_131 mv_X6_power wm_X6_221 ⟨rfl, rfl⟩ (by decide) rfl, ?_⟩
  refine List.forall_mem_cons.mpr ⟨so_imul dX6_odds_134 rfl, ?_⟩
  refine List.forall_mem_cons.mpr ⟨so_iadd dX6_odds_135 rfl, ?_⟩
  refine List.forall_mem_cons.mpr ⟨so_istore dX6_odds_136 rfl, ?_⟩
  refine List.forall_mem_cons.mpr ⟨so_iinc dX6_odds_138 (by decide) rfl, ?_⟩
  refine List.forall_mem_cons.mpr ⟨so_goto dX6_odds_141 (by decide), ?_⟩
  refine List.forall_mem_cons.mpr ⟨so_bipush dX6_odds_144 (by decide) rfl, ?_⟩
  refine List.forall_mem_cons.mpr ⟨so_iload_n dX6_odds_146 rfl rfl, ?_⟩
  refine List.forall_mem_cons.mpr ⟨so_cs dX6_odds_147 mv_X6_power wm_X6_221 ⟨rfl, rfl⟩ (by decide) rfl, ?_⟩
  refine List.forall_mem_cons.mpr ⟨so_istore dX6_odds_150 rfl, ?_⟩
  refine List.forall_mem_cons.mpr ⟨so_iload dX6_odds_152 rfl, ?_⟩
  refine List.forall_mem_cons.mpr ⟨so_if_ne dX6_odds_154 (by decide) rfl, ?_⟩
  refine List.forall_mem_cons.mpr ⟨so_iload dX6_odds_157 rfl, ?_⟩
  refine List.forall_mem_cons.mpr ⟨so_goto dX6_odds_159 (by decide), ?_⟩
  refine List.forall_mem_cons.mpr ⟨so_iload dX6_odds_162 rfl, ?_⟩
  refine List.forall_mem_cons.mpr ⟨so_iload dX6_odds_164 rfl, ?_⟩
  refine List.forall_mem_cons.mpr ⟨so_iload dX6_odds_166 rfl, ?_⟩
  refine List.forall_mem_cons.mpr ⟨so_cs dX6_odds_168 mv_X6_commonDivisor wm_X6_224 ⟨rfl, rfl⟩ (by decide) rfl, ?_⟩
  refine List.forall_mem_cons.mpr ⟨so_idiv dX6_odds_171 rfl, ?_⟩
  refine List.forall_mem_cons.mpr ⟨so_rI dX6_odds_172 rfl, ?_⟩
  exact fun _ h => absurd h List.not_mem_nil
theorem dX6_found_0 : decode cX6_found 0 = .ok (.aload_n 0, 1) := by decide +kernel
theorem dX6_found_1 : decode cX6_found 1 = .ok (.getfield 19, 3) := by decide +kernel
theorem dX6_found_4 : decode cX6_found 4 = .ok (.iload_n 1, 1) := by decide +kernel
theorem dX6_found_5 : decode cX6_found 5 = .ok (.invokevirtual 94, 3) := by decide +kernel
theorem dX6_found_8 : decode cX6_found 8 = .ok (.ifCond .eq 13, 3) := by decide +kernel
theorem dX6_found_11 : decode cX6_found 11 = .ok (.iload_n 2, 1) := by decide +kernel
theorem dX6_found_12 : decode cX6_found 12 = .ok (.iconst 0, 1) := by decide +kernel
theorem dX6_found_13 : decode cX6_found 13 = .ok (.bipush 99, 2) := by decide +kernel
theorem dX6_found_15 : decode cX6_found 15 = .ok (.invokestatic 69, 3) := by decide +kernel
theorem dX6_found_18 : decode cX6_found 18 = .ok (.ifCond .ne 5, 3) := by decide +kernel
theorem dX6_found_21 : decode cX6_found 21 = .ok (.iconst (-1), 1) := by decide +kernel
theorem dX6_found_22 : decode cX6_found 22 = .ok (.ireturn, 1) := by decide +kernel
theorem dX6_found_23 : decode cX6_found 23 = .ok (.aload_n 0, 1) := by decide +kernel
theorem dX6_found_24 : decode cX6_found 24 = .ok (.getfield 52, 3) := by decide +kernel
theorem dX6_found_27 : decode cX6_found 27 = .ok (.iload_n 1, 1) := by decide +kernel
theorem dX6_found_28 : decode cX6_found 28 = .ok (.iload_n 2, 1) := by decide +kernel
theorem dX6_found_29 : decode cX6_found 29 = .ok (.invokevirtual 227, 3) := by decide +kernel
theorem dX6_found_32 : decode cX6_found 32 = .ok (.ireturn, 1) := by decide +kernel
def T_X6_found : tk_Tb := [(0, tk_al 0 1), (1, tk_gR 6 1 4), (4, tk_il 1 5), (5, tk_cv 5 M_X5_isKerb 1 8), (8, tk_br (fun x => x = 0) 21 11), (11, tk_il 2 12), (12, tk_ic (0) 13), (13, tk_ic (99) 15), (15, tk_cs M_X6_isWithin 3 18), (18, tk_br (fun x => x = 0) 21 23), (21, tk_ic (-1) 22), (22, tk_rI), (23, tk_al 0 24), (24, tk_gR 6 7 27), (27, tk_il 1 28), (28, tk_il 2 29), (29, tk_cv 0 M_X0_add 2 32), (32, tk_rI)]
set_option maxRecDepth 100000 in
theorem hT_X6_found (sc : Option (Nat × (Nat → Int32))) : ∀ x ∈ T_X6_found, tk_So sc M_X6_found x.1 x.2 := by
  unfold T_X6_found
  refine List.forall_mem_cons.mpr ⟨so_aload_n dX6_found_0 rfl rfl, ?_⟩
  refine List.forall_mem_cons.mpr ⟨so_gR (C := RX6) (T := TX6) (N := 12) dX6_found_1 (by decide) rfl rfl (by decide) rfl in_X6 wf_X6_19 rfl, ?_⟩
  refine List.forall_mem_cons.mpr ⟨so_iload_n dX6_found_4 rfl rfl, ?_⟩
  refine List.forall_mem_cons.mpr ⟨so_cv (T := TX5) (N := 10) dX6_found_5 mv_X5_isKerb wm_X6_94 (by decide) rfl ⟨rfl, rfl⟩ (by decide) rfl, ?_⟩
  refine List.forall_mem_cons.mpr ⟨so_if_eq dX6_found_8 (by decide) rfl, ?_⟩
  refine List.forall_mem_cons.mpr ⟨so_iload_n dX6_found_11 rfl rfl, ?_⟩
  refine List.forall_mem_cons.mpr ⟨so_iconst dX6_found_12 (by decide) rfl, ?_⟩
  refine List.forall_mem_cons.mpr ⟨so_bipush dX6_found_13 (by decide) rfl, ?_⟩
  refine List.forall_mem_cons.mpr ⟨so_cs dX6_found_15 mv_X6_isWithin wm_X6_69 ⟨rfl, rfl⟩ (by decide) rfl, ?_⟩
  refine List.forall_mem_cons.mpr ⟨so_if_ne dX6_found_18 (by decide) rfl, ?_⟩
  refine List.forall_mem_cons.mpr ⟨so_iconst dX6_found_21 (by decide) rfl, ?_⟩
  refine List.forall_mem_cons.mpr ⟨so_rI dX6_found_22 rfl, ?_⟩
  refine List.forall_mem_cons.mpr ⟨so_aload_n dX6_found_23 rfl rfl, ?_⟩
  refine List.forall_mem_cons.mpr ⟨so_gR (C := RX6) (T := TX6) (N := 12) dX6_found_24 (by decide) rfl rfl (by decide) rfl in_X6 wf_X6_52 rfl, ?_⟩
  refine List.forall_mem_cons.mpr ⟨so_iload_n dX6_found_27 rfl rfl, ?_⟩
  refine List.forall_mem_cons.mpr ⟨so_iload_n dX6_found_28 rfl rfl, ?_⟩
  refine List.forall_mem_cons.mpr ⟨so_cv (T := TX0) (N := 3) dX6_found_29 mv_X0_add wm_X6_227 (by decide) rfl ⟨rfl, rfl⟩ (by decide) rfl, ?_⟩
  refine List.forall_mem_cons.mpr ⟨so_rI dX6_found_32 rfl, ?_⟩
  exact fun _ h => absurd h List.not_mem_nil
theorem dX6_canHaveBegunOn_0 : decode cX6_canHaveBegunOn 0 = .ok (.aload_n 0, 1) := by decide +kernel
theorem dX6_canHaveBegunOn_1 : decode cX6_canHaveBegunOn 1 = .ok (.getfield 62, 3) := by decide +kernel
theorem dX6_canHaveBegunOn_4 : decode cX6_canHaveBegunOn 4 = .ok (.iload_n 1, 1) := by decide +kernel
theorem dX6_canHaveBegunOn_5 : decode cX6_canHaveBegunOn 5 = .ok (.invokevirtual 198, 3) := by decide +kernel
theorem dX6_canHaveBegunOn_8 : decode cX6_canHaveBegunOn 8 = .ok (.iconst 0, 1) := by decide +kernel
theorem dX6_canHaveBegunOn_9 : decode cX6_canHaveBegunOn 9 = .ok (.istore_n 2, 1) := by decide +kernel
theorem dX6_canHaveBegunOn_10 : decode cX6_canHaveBegunOn 10 = .ok (.iload_n 2, 1) := by decide +kernel
theorem dX6_canHaveBegunOn_11 : decode cX6_canHaveBegunOn 11 = .ok (.bipush 99, 2) := by decide +kernel
theorem dX6_canHaveBegunOn_13 : decode cX6_canHaveBegunOn 13 = .ok (.if_icmp .gt 82, 3) := by decide +kernel
theorem dX6_canHaveBegunOn_16 : decode cX6_canHaveBegunOn 16 = .ok (.iconst 0, 1) := by decide +kernel
theorem dX6_canHaveBegunOn_17 : decode cX6_canHaveBegunOn 17 = .ok (.istore_n 3, 1) := by decide +kernel
theorem dX6_canHaveBegunOn_18 : decode cX6_canHaveBegunOn 18 = .ok (.iload_n 3, 1) := by decide +kernel
theorem dX6_canHaveBegunOn_19 : decode cX6_canHaveBegunOn 19 = .ok (.aload_n 0, 1) := by decide +kernel
theorem dX6_canHaveBegunOn_20 : decode cX6_canHaveBegunOn 20 = .ok (.getfield 52, 3) := by decide +kernel
theorem dX6_canHaveBegunOn_23 : decode cX6_canHaveBegunOn 23 = .ok (.getfield 260, 3) := by decide +kernel
theorem dX6_canHaveBegunOn_26 : decode cX6_canHaveBegunOn 26 = .ok (.if_icmp .ge 43, 3) := by decide +kernel
theorem dX6_canHaveBegunOn_29 : decode cX6_canHaveBegunOn 29 = .ok (.aload_n 0, 1) := by decide +kernel
theorem dX6_canHaveBegunOn_30 : decode cX6_canHaveBegunOn 30 = .ok (.getfield 52, 3) := by decide +kernel
theorem dX6_canHaveBegunOn_33 : decode cX6_canHaveBegunOn 33 = .ok (.getfield 275, 3) := by decide +kernel
theorem dX6_canHaveBegunOn_36 : decode cX6_canHaveBegunOn 36 = .ok (.iload_n 3, 1) := by decide +kernel
theorem dX6_canHaveBegunOn_37 : decode cX6_canHaveBegunOn 37 = .ok (.iaload, 1) := by decide +kernel
theorem dX6_canHaveBegunOn_38 : decode cX6_canHaveBegunOn 38 = .ok (.iload_n 2, 1) := by decide +kernel
theorem dX6_canHaveBegunOn_39 : decode cX6_canHaveBegunOn 39 = .ok (.if_icmp .ne 24, 3) := by decide +kernel
theorem dX6_canHaveBegunOn_42 : decode cX6_canHaveBegunOn 42 = .ok (.aload_n 0, 1) := by decide +kernel
theorem dX6_canHaveBegunOn_43 : decode cX6_canHaveBegunOn 43 = .ok (.getfield 62, 3) := by decide +kernel
theorem dX6_canHaveBegunOn_46 : decode cX6_canHaveBegunOn 46 = .ok (.aload_n 0, 1) := by decide +kernel
theorem dX6_canHaveBegunOn_47 : decode cX6_canHaveBegunOn 47 = .ok (.getfield 52, 3) := by decide +kernel
theorem dX6_canHaveBegunOn_50 : decode cX6_canHaveBegunOn 50 = .ok (.getfield 278, 3) := by decide +kernel
theorem dX6_canHaveBegunOn_53 : decode cX6_canHaveBegunOn 53 = .ok (.iload_n 3, 1) := by decide +kernel
theorem dX6_canHaveBegunOn_54 : decode cX6_canHaveBegunOn 54 = .ok (.iaload, 1) := by decide +kernel
theorem dX6_canHaveBegunOn_55 : decode cX6_canHaveBegunOn 55 = .ok (.invokevirtual 202, 3) := by decide +kernel
theorem dX6_canHaveBegunOn_58 : decode cX6_canHaveBegunOn 58 = .ok (.ifCond .ne 5, 3) := by decide +kernel
theorem dX6_canHaveBegunOn_61 : decode cX6_canHaveBegunOn 61 = .ok (.iconst 0, 1) := by decide +kernel
theorem dX6_canHaveBegunOn_62 : decode cX6_canHaveBegunOn 62 = .ok (.ireturn, 1) := by decide +kernel
theorem dX6_canHaveBegunOn_63 : decode cX6_canHaveBegunOn 63 = .ok (.iinc 3 1, 3) := by decide +kernel
theorem dX6_canHaveBegunOn_66 : decode cX6_canHaveBegunOn 66 = .ok (.goto (-48), 3) := by decide +kernel
theorem dX6_canHaveBegunOn_69 : decode cX6_canHaveBegunOn 69 = .ok (.aload_n 0, 1) := by decide +kernel
theorem dX6_canHaveBegunOn_70 : decode cX6_canHaveBegunOn 70 = .ok (.getfield 62, 3) := by decide +kernel
theorem dX6_canHaveBegunOn_73 : decode cX6_canHaveBegunOn 73 = .ok (.aload_n 0, 1) := by decide +kernel
theorem dX6_canHaveBegunOn_74 : decode cX6_canHaveBegunOn 74 = .ok (.getfield 19, 3) := by decide +kernel
theorem dX6_canHaveBegunOn_77 : decode cX6_canHaveBegunOn 77 = .ok (.aload_n 0, 1) := by decide +kernel
theorem dX6_canHaveBegunOn_78 : decode cX6_canHaveBegunOn 78 = .ok (.getfield 19, 3) := by decide +kernel
theorem dX6_canHaveBegunOn_81 : decode cX6_canHaveBegunOn 81 = .ok (.iload_n 2, 1) := by decide +kernel
theorem dX6_canHaveBegunOn_82 : decode cX6_canHaveBegunOn 82 = .ok (.invokevirtual 141, 3) := by decide +kernel
theorem dX6_canHaveBegunOn_85 : decode cX6_canHaveBegunOn 85 = .ok (.invokevirtual 188, 3) := by decide +kernel
theorem dX6_canHaveBegunOn_88 : decode cX6_canHaveBegunOn 88 = .ok (.pop, 1) := by decide +kernel
theorem dX6_canHaveBegunOn_89 : decode cX6_canHaveBegunOn 89 = .ok (.iinc 2 1, 3) := by decide +kernel
theorem dX6_canHaveBegunOn_92 : decode cX6_canHaveBegunOn 92 = .ok (.goto (-82), 3) := by decide +kernel
theorem dX6_canHaveBegunOn_95 : decode cX6_canHaveBegunOn 95 = .ok (.iconst 1, 1) := by decide +kernel
theorem dX6_canHaveBegunOn_96 : decode cX6_canHaveBegunOn 96 = .ok (.ireturn, 1) := by decide +kernel
def T_X6_canHaveBegunOn : tk_Tb := [(0, tk_al 0 1), (1, tk_gR 6 9 4), (4, tk_il 1 5), (5, tk_cv 4 M_X4_lieOn 1 8), (8, tk_ic (0) 9), (9, tk_sI 2 10), (10, tk_il 2 11), (11, tk_ic (99) 13), (13, tk_cm (fun x y => y < x) 95 16), (16, tk_ic (0) 17), (17, tk_sI 3 18), (18, tk_il 3 19), (19, tk_al 0 20), (20, tk_gR 6 7 23), (23, tk_gI 0 2 26), (26, tk_cm (fun x y => y ≤ x) 69 29), (29, tk_al 0 30), (30, tk_gR 6 7 33), (33, tk_gR 0 1 36), (36, tk_il 3 37), (37, tk_ai 9 38), (38, tk_il 2 39), (39, tk_cm (fun x y => x = y) 42 63), (42, tk_al 0 43), (43, tk_gR 6 9 46), (46, tk_al 0 47), (47, tk_gR 6 7 50), (50, tk_gR 0 0 53), (53, tk_il 3 54), (54, tk_ai 9 55), (55, tk_cv 4 M_X4_liesOn 1 58), (58, tk_br (fun x => x = 0) 61 63), (61, tk_ic (0) 62), (62, tk_rZ), (63, tk_inc 3 (1) 66), (66, tk_jmp 18), (69, tk_al 0 70), (70, tk_gR 6 9 73), (73, tk_al 0 74), (74, tk_gR 6 1 77), (77, tk_al 0 78), (78, tk_gR 6 1 81), (81, tk_il 2 82), (82, tk_cv 5 M_X5_levelOf 1 85), (85, tk_cv 4 M_X4_pass 2 88), (88, tk_pp 89), (89, tk_inc 2 (1) 92), (92, tk_jmp 10), (95, tk_ic (1) 96), (96, tk_rZ)]
set_option maxRecDepth 100000 in
theorem hT_X6_canHaveBegunOn (sc : Option (Nat × (Nat → Int32))) : ∀ x ∈ T_X6_canHaveBegunOn, tk_So sc M_X6_canHaveBegunOn x.1 x.2 := by
  unfold T_X6_canHaveBegunOn
  refine List.forall_mem_cons.mpr ⟨so_aload_n dX6_canHaveBegunOn_0 rfl rfl, ?_⟩
  refine List.forall_mem_cons.mpr ⟨so_gR (C := RX6) (T := TX6) (N := 12) dX6_canHaveBegunOn_1 (by decide) rfl rfl (by decide) rfl in_X6 wf_X6_62 rfl, ?_⟩
  refine List.forall_mem_cons.mpr ⟨so_iload_n dX6_canHaveBegunOn_4 rfl rfl, ?_⟩
  refine List.forall_mem_cons.mpr ⟨so_cv (T := TX4) (N := 3) dX6_canHaveBegunOn_5 mv_X4_lieOn wm_X6_198 (by decide) rfl ⟨rfl, rfl⟩ (by decide) rfl, ?_⟩
  refine List.forall_mem_cons.mpr ⟨so_iconst dX6_canHaveBegunOn_8 (by decide) rfl, ?_⟩
  refine List.forall_mem_cons.mpr ⟨so_istore_n dX6_canHaveBegunOn_9 rfl rfl, ?_⟩
  refine List.forall_mem_cons.mpr ⟨so_iload_n dX6_canHaveBegunOn_10 rfl rfl, ?_⟩
  refine List.forall_mem_cons.mpr ⟨so_bipush dX6_canHaveBegunOn_11 (by decide) rfl, ?_⟩
  refine List.forall_mem_cons.mpr ⟨so_icmp_gt dX6_canHaveBegunOn_13 (by decide) rfl, ?_⟩
  refine List.forall_mem_cons.mpr ⟨so_iconst dX6_canHaveBegunOn_16 (by decide) rfl, ?_⟩
  refine List.forall_mem_cons.mpr ⟨so_istore_n dX6_canHaveBegunOn_17 rfl rfl, ?_⟩
  refine List.forall_mem_cons.mpr ⟨so_iload_n dX6_canHaveBegunOn_18 rfl rfl, ?_⟩
  refine List.forall_mem_cons.mpr ⟨so_aload_n dX6_canHaveBegunOn_19 rfl rfl, ?_⟩
  refine List.forall_mem_cons.mpr ⟨so_gR (C := RX6) (T := TX6) (N := 12) dX6_canHaveBegunOn_20 (by decide) rfl rfl (by decide) rfl in_X6 wf_X6_52 rfl, ?_⟩
  refine List.forall_mem_cons.mpr ⟨so_gI (C := RX0) (T := TX0) (N := 3) dX6_canHaveBegunOn_23 (by decide) rfl rfl (by decide) rfl in_X0 wf_X6_260 rfl, ?_⟩
  refine List.forall_mem_cons.mpr ⟨so_icmp_ge dX6_canHaveBegunOn_26 (by decide) rfl, ?_⟩
  refine List.forall_mem_cons.mpr ⟨so_aload_n dX6_canHaveBegunOn_29 rfl rfl, ?_⟩
  refine List.forall_mem_cons.mpr ⟨so_gR (C := RX6) (T := TX6) (N := 12) dX6_canHaveBegunOn_30 (by decide) rfl rfl (by decide) rfl in_X6 wf_X6_52 rfl, ?_⟩
  refine List.forall_mem_cons.mpr ⟨so_gR (C := RX0) (T := TX0) (N := 3) dX6_canHaveBegunOn_33 (by decide) rfl rfl (by decide) rfl in_X0 wf_X6_275 rfl, ?_⟩
  refine List.forall_mem_cons.mpr ⟨so_iload_n dX6_canHaveBegunOn_36 rfl rfl, ?_⟩
  refine List.forall_mem_cons.mpr ⟨so_iaload dX6_canHaveBegunOn_37 rfl, ?_⟩
  refine List.forall_mem_cons.mpr ⟨so_iload_n dX6_canHaveBegunOn_38 rfl rfl, ?_⟩
  refine List.forall_mem_cons.mpr ⟨so_icmp_ne dX6_canHaveBegunOn_39 (by decide) rfl, ?_⟩
  refine List.forall_mem_cons.mpr ⟨so_aload_n dX6_canHaveBegunOn_42 rfl rfl, ?_⟩
  refine List.forall_mem_cons.mpr ⟨so_gR (C := RX6) (T := TX6) (N := 12) dX6_canHaveBegunOn_43 (by decide) rfl rfl (by decide) rfl in_X6 wf_X6_62 rfl, ?_⟩
  refine List.forall_mem_cons.mpr ⟨so_aload_n dX6_canHaveBegunOn_46 rfl rfl, ?_⟩
  refine List.forall_mem_cons.mpr ⟨so_gR (C := RX6) (T := TX6) (N := 12) dX6_canHaveBegunOn_47 (by decide) rfl rfl (by decide) rfl in_X6 wf_X6_52 rfl, ?_⟩
  refine List.forall_mem_cons.mpr ⟨so_gR (C := RX0) (T := TX0) (N := 3) dX6_canHaveBegunOn_50 (by decide) rfl rfl (by decide) rfl in_X0 wf_X6_278 rfl, ?_⟩
  refine List.forall_mem_cons.mpr ⟨so_iload_n dX6_canHaveBegunOn_53 rfl rfl, ?_⟩
  refine List.forall_mem_cons.mpr ⟨so_iaload dX6_canHaveBegunOn_54 rfl, ?_⟩
  refine List.forall_mem_cons.mpr ⟨so_cv (T := TX4) (N := 3) dX6_canHaveBegunOn_55 mv_X4_liesOn wm_X6_202 (by decide) rfl ⟨rfl, rfl⟩ (by decide) rfl, ?_⟩
  refine List.forall_mem_cons.mpr ⟨so_if_ne dX6_canHaveBegunOn_58 (by decide) rfl, ?_⟩
  refine List.forall_mem_cons.mpr ⟨so_iconst dX6_canHaveBegunOn_61 (by decide) rfl, ?_⟩
  refine List.forall_mem_cons.mpr ⟨so_rZ dX6_canHaveBegunOn_62 rfl, ?_⟩
  refine List.forall_mem_cons.mpr ⟨so_iinc dX6_canHaveBegunOn_63 (by decide) rfl, ?_⟩
  refine List.forall_mem_cons.mpr ⟨so_goto dX6_canHaveBegunOn_66 (by decide), ?_⟩
  refine List.forall_mem_cons.mpr ⟨so_aload_n dX6_canHaveBegunOn_69 rfl rfl, ?_⟩
  refine List.forall_mem_cons.mpr ⟨so_gR (C := RX6) (T := TX6) (N := 12) dX6_canHaveBegunOn_70 (by decide) rfl rfl (by decide) rfl in_X6 wf_X6_62 rfl, ?_⟩
  refine List.forall_mem_cons.mpr ⟨so_aload_n dX6_canHaveBegunOn_73 rfl rfl, ?_⟩
  refine List.forall_mem_cons.mpr ⟨so_gR (C := RX6) (T := TX6) (N := 12) dX6_canHaveBegunOn_74 (by decide) rfl rfl (by decide) rfl in_X6 wf_X6_19 rfl, ?_⟩
  refine List.forall_mem_cons.mpr ⟨so_aload_n dX6_canHaveBegunOn_77 rfl rfl, ?_⟩
  refine List.forall_mem_cons.mpr ⟨so_gR (C := RX6) (T := TX6) (N := 12) dX6_canHaveBegunOn_78 (by decide) rfl rfl (by decide) rfl in_X6 wf_X6_19 rfl, ?_⟩
  refine List.forall_mem_cons.mpr ⟨so_iload_n dX6_canHaveBegunOn_81 rfl rfl, ?_⟩
  refine List.forall_mem_cons.mpr ⟨so_cv (T := TX5) (N := 10) dX6_canHaveBegunOn_82 mv_X5_levelOf wm_X6_141 (by decide) rfl ⟨rfl, rfl⟩ (by decide) rfl, ?_⟩
  refine List.forall_mem_cons.mpr ⟨so_cv (T := TX4) (N := 3) dX6_canHaveBegunOn_85 mv_X4_pass wm_X6_188 (by decide) rfl ⟨rfl, rfl⟩ (by decide) rfl, ?_⟩
  refine List.forall_mem_cons.mpr ⟨so_pop dX6_canHaveBegunOn_88 rfl, ?_⟩
  refine List.forall_mem_cons.mpr ⟨so_iinc dX6_canHaveBegunOn_89 (by decide) rfl, ?_⟩
  refine List.forall_mem_cons.mpr ⟨so_goto dX6_canHaveBegunOn_92 (by decide), ?_⟩
  refine List.forall_mem_cons.mpr ⟨so_iconst dX6_canHaveBegunOn_95 (by decide) rfl, ?_⟩
  refine List.forall_mem_cons.mpr ⟨so_rZ dX6_canHaveBegunOn_96 rfl, ?_⟩
  exact fun _ h => absurd h List.not_mem_nil
