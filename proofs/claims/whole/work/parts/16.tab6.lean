theorem dX7_level_0 : decode cX7_level 0 = .ok (.aload_n 0, 1) := by decide +kernel
theorem dX7_level_1 : decode cX7_level 1 = .ok (.iconst 0, 1) := by decide +kernel
theorem dX7_level_2 : decode cX7_level 2 = .ok (.putfield 62, 3) := by decide +kernel
theorem dX7_level_5 : decode cX7_level 5 = .ok (.iload_n 1, 1) := by decide +kernel
theorem dX7_level_6 : decode cX7_level 6 = .ok (.iconst 0, 1) := by decide +kernel
theorem dX7_level_7 : decode cX7_level 7 = .ok (.sipush 9999, 3) := by decide +kernel
theorem dX7_level_10 : decode cX7_level 10 = .ok (.invokestatic 66, 3) := by decide +kernel
theorem dX7_level_13 : decode cX7_level 13 = .ok (.ifCond .eq 11, 3) := by decide +kernel
theorem dX7_level_16 : decode cX7_level 16 = .ok (.aload_n 0, 1) := by decide +kernel
theorem dX7_level_17 : decode cX7_level 17 = .ok (.iload_n 1, 1) := by decide +kernel
theorem dX7_level_18 : decode cX7_level 18 = .ok (.invokevirtual 127, 3) := by decide +kernel
theorem dX7_level_21 : decode cX7_level 21 = .ok (.goto 4, 3) := by decide +kernel
theorem dX7_level_24 : decode cX7_level 24 = .ok (.iconst (-1), 1) := by decide +kernel
theorem dX7_level_25 : decode cX7_level 25 = .ok (.ireturn, 1) := by decide +kernel
def T_X7_level : tk_Tb := [(0, tk_al 0 1), (1, tk_ic (0) 2), (2, tk_pI 7 0 5), (5, tk_il 1 6), (6, tk_ic (0) 7), (7, tk_ic (9999) 10), (10, tk_cs M_X7_in 3 13), (13, tk_br (fun x => x = 0) 24 16), (16, tk_al 0 17), (17, tk_il 1 18), (18, tk_cv 7 M_X7_levelOf 1 21), (21, tk_jmp 25), (24, tk_ic (-1) 25), (25, tk_rI)]
set_option maxRecDepth 100000 in
theorem hT_X7_level (sc : Option (Nat × (Nat → Int32))) : ∀ x ∈ T_X7_level, tk_So sc M_X7_level x.1 x.2 := by
  unfold T_X7_level
  refine List.forall_mem_cons.mpr ⟨so_aload_n dX7_level_0 rfl rfl, ?_⟩
  refine List.forall_mem_cons.mpr ⟨so_iconst dX7_level_1 (by decide) rfl, ?_⟩
  refine List.forall_mem_cons.mpr ⟨so_pI (C := RX7) (T := TX7) (N := 29) dX7_level_2 (by decide) rfl rfl (by decide) rfl in_X7 wf_X7_62 tyX7 tyX7_ok nmX7 rfl (by decide +kernel) rfl, ?_⟩
  refine List.forall_mem_cons.mpr ⟨so_iload_n dX7_level_5 rfl rfl, ?_⟩
  refine List.forall_mem_cons.mpr ⟨so_iconst dX7_level_6 (by decide) rfl, ?_⟩
  refine List.forall_mem_cons.mpr ⟨so_sipush dX7_level_7 (by decide) rfl, ?_⟩
  refine List.forall_mem_cons.mpr ⟨so_cs dX7_level_10 mv_X7_in wm_X7_66 ⟨rfl, rfl⟩ (by decide) rfl, ?_⟩
  refine List.forall_mem_cons.mpr ⟨so_if_eq dX7_level_13 (by decide) rfl, ?_⟩
  refine List.forall_mem_cons.mpr ⟨so_aload_n dX7_level_16 rfl rfl, ?_⟩
  refine List.forall_mem_cons.mpr ⟨so_iload_n dX7_level_17 rfl rfl, ?_⟩
  refine List.forall_mem_cons.mpr ⟨so_cv (T := TX7) (N := 29) dX7_level_18 mv_X7_levelOf wm_X7_127 (by decide) rfl ⟨rfl, rfl⟩ (by decide) rfl, ?_⟩
  refine List.forall_mem_cons.mpr ⟨so_goto dX7_level_21 (by decide), ?_⟩
  refine List.forall_mem_cons.mpr ⟨so_iconst dX7_level_24 (by decide) rfl, ?_⟩
  refine List.forall_mem_cons.mpr ⟨so_rI dX7_level_25 rfl, ?_⟩
  exact fun _ h => absurd h List.not_mem_nil
theorem dX7_high_0 : decode cX7_high 0 = .ok (.aload_n 0, 1) := by decide +kernel
theorem dX7_high_1 : decode cX7_high 1 = .ok (.iconst 0, 1) := by decide +kernel
theorem dX7_high_2 : decode cX7_high 2 = .ok (.putfield 62, 3) := by decide +kernel
theorem dX7_high_5 : decode cX7_high 5 = .ok (.iload_n 1, 1) := by decide +kernel
theorem dX7_high_6 : decode cX7_high 6 = .ok (.iconst 0, 1) := by decide +kernel
theorem dX7_high_7 : decode cX7_high 7 = .ok (.bipush 19, 2) := by decide +kernel
theorem dX7_high_9 : decode cX7_high 9 = .ok (.invokestatic 66, 3) := by decide +kernel
theorem dX7_high_12 : decode cX7_high 12 = .ok (.ifCond .ne 5, 3) := by decide +kernel
theorem dX7_high_15 : decode cX7_high 15 = .ok (.iconst (-1), 1) := by decide +kernel
theorem dX7_high_16 : decode cX7_high 16 = .ok (.ireturn, 1) := by decide +kernel
theorem dX7_high_17 : decode cX7_high 17 = .ok (.iconst 0, 1) := by decide +kernel
theorem dX7_high_18 : decode cX7_high 18 = .ok (.istore_n 2, 1) := by decide +kernel
theorem dX7_high_19 : decode cX7_high 19 = .ok (.iload_n 2, 1) := by decide +kernel
theorem dX7_high_20 : decode cX7_high 20 = .ok (.aload_n 0, 1) := by decide +kernel
theorem dX7_high_21 : decode cX7_high 21 = .ok (.getfield 13, 3) := by decide +kernel
theorem dX7_high_24 : decode cX7_high 24 = .ok (.iconst 2, 1) := by decide +kernel
theorem dX7_high_25 : decode cX7_high 25 = .ok (.iaload, 1) := by decide +kernel
theorem dX7_high_26 : decode cX7_high 26 = .ok (.if_icmp .ge 34, 3) := by decide +kernel
theorem dX7_high_29 : decode cX7_high 29 = .ok (.aload_n 0, 1) := by decide +kernel
theorem dX7_high_30 : decode cX7_high 30 = .ok (.aload_n 0, 1) := by decide +kernel
theorem dX7_high_31 : decode cX7_high 31 = .ok (.getfield 31, 3) := by decide +kernel
theorem dX7_high_34 : decode cX7_high 34 = .ok (.iconst 0, 1) := by decide +kernel
theorem dX7_high_35 : decode cX7_high 35 = .ok (.iaload, 1) := by decide +kernel
theorem dX7_high_36 : decode cX7_high 36 = .ok (.iload_n 2, 1) := by decide +kernel
theorem dX7_high_37 : decode cX7_high 37 = .ok (.iadd, 1) := by decide +kernel
theorem dX7_high_38 : decode cX7_high 38 = .ok (.invokevirtual 127, 3) := by decide +kernel
theorem dX7_high_41 : decode cX7_high 41 = .ok (.iload_n 1, 1) := by decide +kernel
theorem dX7_high_42 : decode cX7_high 42 = .ok (.if_icmp .lt 12, 3) := by decide +kernel
theorem dX7_high_45 : decode cX7_high 45 = .ok (.aload_n 0, 1) := by decide +kernel
theorem dX7_high_46 : decode cX7_high 46 = .ok (.getfield 31, 3) := by decide +kernel
theorem dX7_high_49 : decode cX7_high 49 = .ok (.iconst 0, 1) := by decide +kernel
theorem dX7_high_50 : decode cX7_high 50 = .ok (.iaload, 1) := by decide +kernel
theorem dX7_high_51 : decode cX7_high 51 = .ok (.iload_n 2, 1) := by decide +kernel
theorem dX7_high_52 : decode cX7_high 52 = .ok (.iadd, 1) := by decide +kernel
theorem dX7_high_53 : decode cX7_high 53 = .ok (.ireturn, 1) := by decide +kernel
theorem dX7_high_54 : decode cX7_high 54 = .ok (.iinc 2 1, 3) := by decide +kernel
theorem dX7_high_57 : decode cX7_high 57 = .ok (.goto (-38), 3) := by decide +kernel
theorem dX7_high_60 : decode cX7_high 60 = .ok (.bipush (-9), 2) := by decide +kernel
theorem dX7_high_62 : decode cX7_high 62 = .ok (.ireturn, 1) := by decide +kernel
def T_X7_high : tk_Tb := [(0, tk_al 0 1), (1, tk_ic (0) 2), (2, tk_pI 7 0 5), (5, tk_il 1 6), (6, tk_ic (0) 7), (7, tk_ic (19) 9), (9, tk_cs M_X7_in 3 12), (12, tk_br (fun x => x = 0) 15 17), (15, tk_ic (-1) 16), (16, tk_rI), (17, tk_ic (0) 18), (18, tk_sI 2 19), (19, tk_il 2 20), (20, tk_al 0 21), (21, tk_gR 7 9 24), (24, tk_ic (2) 25), (25, tk_ai 9 26), (26, tk_cm (fun x y => y ≤ x) 60 29), (29, tk_al 0 30), (30, tk_al 0 31), (31, tk_gR 7 16 34), (34, tk_ic (0) 35), (35, tk_ai 9 36), (36, tk_il 2 37), (37, tk_bi (fun x y => x + y) 38), (38, tk_cv 7 M_X7_levelOf 1 41), (41, tk_il 1 42), (42, tk_cm (fun x y => x < y) 54 45), (45, tk_al 0 46), (46, tk_gR 7 16 49), (49, tk_ic (0) 50), (50, tk_ai 9 51), (51, tk_il 2 52), (52, tk_bi (fun x y => x + y) 53), (53, tk_rI), (54, tk_inc 2 (1) 57), (57, tk_jmp 19), (60, tk_ic (-9) 62), (62, tk_rI)]
set_option maxRecDepth 100000 in
theorem hT_X7_high (sc : Option (Nat × (Nat → Int32))) : ∀ x ∈ T_X7_high, tk_So sc M_X7_high x.1 x.2 := by
  unfold T_X7_high
  refine List.forall_mem_cons.mpr ⟨so_aload_n dX7_high_0 rfl rfl, ?_⟩
  refine List.forall_mem_cons.mpr ⟨so_iconst dX7_high_1 (by decide) rfl, ?_⟩
  refine List.forall_mem_cons.mpr ⟨so_pI (C := RX7) (T := TX7) (N := 29) dX7_high_2 (by decide) rfl rfl (by decide) rfl in_X7 wf_X7_62 tyX7 tyX7_ok nmX7 rfl (by decide +kernel) rfl, ?_⟩
  refine List.forall_mem_cons.mpr ⟨so_iload_n dX7_high_5 rfl rfl, ?_⟩
  refine List.forall_mem_cons.mpr ⟨so_iconst dX7_high_6 (by decide) rfl, ?_⟩
  refine List.forall_mem_cons.mpr ⟨so_bipush dX7_high_7 (by decide) rfl, ?_⟩
  refine List.forall_mem_cons.mpr ⟨so_cs dX7_high_9 mv_X7_in wm_X7_66 ⟨rfl, rfl⟩ (by decide) rfl, ?_⟩
  refine List.forall_mem_cons.mpr ⟨so_if_ne dX7_high_12 (by decide) rfl, ?_⟩
  refine List.forall_mem_cons.mpr ⟨so_iconst dX7_high_15 (by decide) rfl, ?_⟩
  refine List.forall_mem_cons.mpr ⟨so_rI dX7_high_16 rfl, ?_⟩
  refine List.forall_mem_cons.mpr ⟨so_iconst dX7_high_17 (by decide) rfl, ?_⟩
  refine List.forall_mem_cons.mpr ⟨so_istore_n dX7_high_18 rfl rfl, ?_⟩
  refine List.forall_mem_cons.mpr ⟨so_iload_n dX7_high_19 rfl rfl, ?_⟩
  refine List.forall_mem_cons.mpr ⟨so_aload_n dX7_high_20 rfl rfl, ?_⟩
  refine List.forall_mem_cons.mpr ⟨so_gR (C := RX7) (T := TX7) (N := 29) dX7_high_21 (by decide) rfl rfl (by decide) rfl in_X7 wf_X7_13 rfl, ?_⟩
  refine List.forall_mem_cons.mpr ⟨so_iconst dX7_high_24 (by decide) rfl, ?_⟩
  refine List.forall_mem_cons.mpr ⟨so_iaload dX7_high_25 rfl, ?_⟩
  refine List.forall_mem_cons.mpr ⟨so_icmp_ge dX7_high_26 (by decide) rfl, ?_⟩
  refine List.forall_mem_cons.mpr ⟨so_aload_n dX7_high_29 rfl rfl, ?_⟩
  refine List.forall_mem_cons.mpr ⟨so_aload_n dX7_high_30 rfl rfl, ?_⟩
  refine List.forall_mem_cons.mpr ⟨so_gR (C := RX7) (T := TX7) (N := 29) dX7_high_31 (by decide) rfl rfl (by decide) rfl in_X7 wf_X7_31 rfl, ?_⟩
  refine List.forall_mem_cons.mpr ⟨so_iconst dX7_high_34 (by decide) rfl, ?_⟩
  refine List.forall_mem_cons.mpr ⟨so_iaload dX7_high_35 rfl, ?_⟩
  refine List.forall_mem_cons.mpr ⟨so_iload_n dX7_high_36 rfl rfl, ?_⟩
  refine List.forall_mem_cons.mpr ⟨so_iadd dX7_high_37 rfl, ?_⟩
  refine List.forall_mem_cons.mpr ⟨so_cv (T := TX7) (N := 29) dX7_high_38 mv_X7_levelOf wm_X7_127 (by decide) rfl ⟨rfl, rfl⟩ (by decide) rfl, ?_⟩
  refine List.forall_mem_cons.mpr ⟨so_iload_n dX7_high_41 rfl rfl, ?_⟩
  refine List.forall_mem_cons.mpr ⟨so_icmp_lt dX7_high_42 (by decide) rfl, ?_⟩
  refine List.forall_mem_cons.mpr ⟨so_aload_n dX7_high_45 rfl rfl, ?_⟩
  refine List.forall_mem_cons.mpr ⟨so_gR (C := RX7) (T := TX7) (N := 29) dX7_high_46 (by decide) rfl rfl (by decide) rfl in_X7 wf_X7_31 rfl, ?_⟩
  refine List.forall_mem_cons.mpr ⟨so_iconst dX7_high_49 (by decide) rfl, ?_⟩
  refine List.forall_mem_cons.mpr ⟨so_iaload dX7_high_50 rfl, ?_⟩
  refine List.forall_mem_cons.mpr ⟨so_iload_n dX7_high_51 rfl rfl, ?_⟩
  refine List.forall_mem_cons.mpr ⟨so_iadd dX7_high_52 rfl, ?_⟩
  refine List.forall_mem_cons.mpr ⟨so_rI dX7_high_53 rfl, ?_⟩
  refine List.forall_mem_cons.mpr ⟨so_iinc dX7_high_54 (by decide) rfl, ?_⟩
  refine List.forall_mem_cons.mpr ⟨so_goto dX7_high_57 (by decide), ?_⟩
  refine List.forall_mem_cons.mpr ⟨so_bipush dX7_high_60 (by decide) rfl, ?_⟩
  refine List.forall_mem_cons.mpr ⟨so_rI dX7_high_62 rfl, ?_⟩
  exact fun _ h => absurd h List.not_mem_nil
theorem dX7_flood_0 : decode cX7_flood 0 = .ok (.aload_n 0, 1) := by decide +kernel
theorem dX7_flood_1 : decode cX7_flood 1 = .ok (.iconst 0, 1) := by decide +kernel
theorem dX7_flood_2 : decode cX7_flood 2 = .ok (.putfield 62, 3) := by decide +kernel
theorem dX7_flood_5 : decode cX7_flood 5 = .ok (.iload_n 1, 1) := by decide +kernel
theorem dX7_flood_6 : decode cX7_flood 6 = .ok (.iconst 0, 1) := by decide +kernel
theorem dX7_flood_7 : decode cX7_flood 7 = .ok (.sipush 9999, 3) := by decide +kernel
theorem dX7_flood_10 : decode cX7_flood 10 = .ok (.invokestatic 66, 3) := by decide +kernel
theorem dX7_flood_13 : decode cX7_flood 13 = .ok (.ifCond .eq 11, 3) := by decide +kernel
theorem dX7_flood_16 : decode cX7_flood 16 = .ok (.aload_n 0, 1) := by decide +kernel
theorem dX7_flood_17 : decode cX7_flood 17 = .ok (.iload_n 1, 1) := by decide +kernel
theorem dX7_flood_18 : decode cX7_flood 18 = .ok (.invokevirtual 140, 3) := by decide +kernel
theorem dX7_flood_21 : decode cX7_flood 21 = .ok (.goto 4, 3) := by decide +kernel
theorem dX7_flood_24 : decode cX7_flood 24 = .ok (.iconst (-1), 1) := by decide +kernel
theorem dX7_flood_25 : decode cX7_flood 25 = .ok (.ireturn, 1) := by decide +kernel
def T_X7_flood : tk_Tb := [(0, tk_al 0 1), (1, tk_ic (0) 2), (2, tk_pI 7 0 5), (5, tk_il 1 6), (6, tk_ic (0) 7), (7, tk_ic (9999) 10), (10, tk_cs M_X7_in 3 13), (13, tk_br (fun x => x = 0) 24 16), (16, tk_al 0 17), (17, tk_il 1 18), (18, tk_cv 7 M_X7_floodIn 1 21), (21, tk_jmp 25), (24, tk_ic (-1) 25), (25, tk_rI)]
set_option maxRecDepth 100000 in
theorem hT_X7_flood (sc : Option (Nat × (Nat → Int32))) : ∀ x ∈ T_X7_flood, tk_So sc M_X7_flood x.1 x.2 := by
  unfold T_X7_flood
  refine List.forall_mem_cons.mpr ⟨so_aload_n dX7_flood_0 rfl rfl, ?_⟩
  refine List.forall_mem_cons.mpr ⟨so_iconst dX7_flood_1 (by decide) rfl, ?_⟩
  refine List.forall_mem_cons.mpr ⟨so_pI (C := RX7) (T := TX7) (N := 29) dX7_flood_2 (by decide) rfl rfl (by decide) rfl in_X7 wf_X7_62 tyX7 tyX7_ok nmX7 rfl (by decide +kernel) rfl, ?_⟩
  refine List.forall_mem_cons.mpr ⟨so_iload_n dX7_flood_5 rfl rfl, ?_⟩
  refine List.forall_mem_cons.mpr ⟨so_iconst dX7_flood_6 (by decide) rfl, ?_⟩
  refine List.forall_mem_cons.mpr ⟨so_sipush dX7_flood_7 (by decide) rfl, ?_⟩
  refine List.forall_mem_cons.mpr ⟨so_cs dX7_flood_10 mv_X7_in wm_X7_66 ⟨rfl, rfl⟩ (by decide) rfl, ?_⟩
  refine List.forall_mem_cons.mpr ⟨so_if_eq dX7_flood_13 (by decide) rfl, ?_⟩
  refine List.forall_mem_cons.mpr ⟨so_aload_n dX7_flood_16 rfl rfl, ?_⟩
  refine List.forall_mem_cons.mpr ⟨so_iload_n dX7_flood_17 rfl rfl, ?_⟩
  refine List.forall_mem_cons.mpr ⟨so_cv (T := TX7) (N := 29) dX7_flood_18 mv_X7_floodIn wm_X7_140 (by decide) rfl ⟨rfl, rfl⟩ (by decide) rfl, ?_⟩
  refine List.forall_mem_cons.mpr ⟨so_goto dX7_flood_21 (by decide), ?_⟩
  refine List.forall_mem_cons.mpr ⟨so_iconst dX7_flood_24 (by decide) rfl, ?_⟩
  refine List.forall_mem_cons.mpr ⟨so_rI dX7_flood_25 rfl, ?_⟩
  exact fun _ h => absurd h List.not_mem_nil
theorem dX7_where_0 : decode cX7_where 0 = .ok (.aload_n 0, 1) := by decide +kernel
theorem dX7_where_1 : decode cX7_where 1 = .ok (.iconst 0, 1) := by decide +kernel
theorem dX7_where_2 : decode cX7_where 2 = .ok (.putfield 62, 3) := by decide +kernel
theorem dX7_where_5 : decode cX7_where 5 = .ok (.aload_n 0, 1) := by decide +kernel
theorem dX7_where_6 : decode cX7_where 6 = .ok (.iload_n 1, 1) := by decide +kernel
theorem dX7_where_7 : decode cX7_where 7 = .ok (.invokevirtual 137, 3) := by decide +kernel
theorem dX7_where_10 : decode cX7_where 10 = .ok (.ifCond .eq 14, 3) := by decide +kernel
theorem dX7_where_13 : decode cX7_where 13 = .ok (.iload_n 2, 1) := by decide +kernel
theorem dX7_where_14 : decode cX7_where 14 = .ok (.iconst 0, 1) := by decide +kernel
theorem dX7_where_15 : decode cX7_where 15 = .ok (.sipush 400, 3) := by decide +kernel
theorem dX7_where_18 : decode cX7_where 18 = .ok (.invokestatic 66, 3) := by decide +kernel
theorem dX7_where_21 : decode cX7_where 21 = .ok (.ifCond .ne 5, 3) := by decide +kernel
theorem dX7_where_24 : decode cX7_where 24 = .ok (.iconst (-1), 1) := by decide +kernel
theorem dX7_where_25 : decode cX7_where 25 = .ok (.ireturn, 1) := by decide +kernel
theorem dX7_where_26 : decode cX7_where 26 = .ok (.aload_n 0, 1) := by decide +kernel
theorem dX7_where_27 : decode cX7_where 27 = .ok (.iload_n 1, 1) := by decide +kernel
theorem dX7_where_28 : decode cX7_where 28 = .ok (.invokevirtual 152, 3) := by decide +kernel
theorem dX7_where_31 : decode cX7_where 31 = .ok (.iconst 0, 1) := by decide +kernel
theorem dX7_where_32 : decode cX7_where 32 = .ok (.istore_n 3, 1) := by decide +kernel
theorem dX7_where_33 : decode cX7_where 33 = .ok (.iload_n 3, 1) := by decide +kernel
theorem dX7_where_34 : decode cX7_where 34 = .ok (.iload_n 2, 1) := by decide +kernel
theorem dX7_where_35 : decode cX7_where 35 = .ok (.if_icmp .ge 34, 3) := by decide +kernel
theorem dX7_where_38 : decode cX7_where 38 = .ok (.aload_n 0, 1) := by decide +kernel
theorem dX7_where_39 : decode cX7_where 39 = .ok (.iload_n 1, 1) := by decide +kernel
theorem dX7_where_40 : decode cX7_where 40 = .ok (.invokevirtual 155, 3) := by decide +kernel
theorem dX7_where_43 : decode cX7_where 43 = .ok (.ifCond .ne 26, 3) := by decide +kernel
theorem dX7_where_46 : decode cX7_where 46 = .ok (.aload_n 0, 1) := by decide +kernel
theorem dX7_where_47 : decode cX7_where 47 = .ok (.aload_n 0, 1) := by decide +kernel
theorem dX7_where_48 : decode cX7_where 48 = .ok (.aload_n 0, 1) := by decide +kernel
theorem dX7_where_49 : decode cX7_where 49 = .ok (.getfield 31, 3) := by decide +kernel
theorem dX7_where_52 : decode cX7_where 52 = .ok (.iconst 0, 1) := by decide +kernel
theorem dX7_where_53 : decode cX7_where 53 = .ok (.iaload, 1) := by decide +kernel
theorem dX7_where_54 : decode cX7_where 54 = .ok (.iload_n 3, 1) := by decide +kernel
theorem dX7_where_55 : decode cX7_where 55 = .ok (.iadd, 1) := by decide +kernel
theorem dX7_where_56 : decode cX7_where 56 = .ok (.invokevirtual 127, 3) := by decide +kernel
theorem dX7_where_59 : decode cX7_where 59 = .ok (.invokevirtual 158, 3) := by decide +kernel
theorem dX7_where_62 : decode cX7_where 62 = .ok (.pop, 1) := by decide +kernel
theorem dX7_where_63 : decode cX7_where 63 = .ok (.iinc 3 1, 3) := by decide +kernel
theorem dX7_where_66 : decode cX7_where 66 = .ok (.goto (-33), 3) := by decide +kernel
theorem dX7_where_69 : decode cX7_where 69 = .ok (.aload_n 0, 1) := by decide +kernel
theorem dX7_where_70 : decode cX7_where 70 = .ok (.getfield 143, 3) := by decide +kernel
theorem dX7_where_73 : decode cX7_where 73 = .ok (.ifCond .le 8, 3) := by decide +kernel
theorem dX7_where_76 : decode cX7_where 76 = .ok (.bipush (-9), 2) := by decide +kernel
theorem dX7_where_78 : decode cX7_where 78 = .ok (.goto 7, 3) := by decide +kernel
theorem dX7_where_81 : decode cX7_where 81 = .ok (.aload_n 0, 1) := by decide +kernel
theorem dX7_where_82 : decode cX7_where 82 = .ok (.getfield 146, 3) := by decide +kernel
theorem dX7_where_85 : decode cX7_where 85 = .ok (.ireturn, 1) := by decide +kernel
def T_X7_where : tk_Tb := [(0, tk_al 0 1), (1, tk_ic (0) 2), (2, tk_pI 7 0 5), (5, tk_al 0 6), (6, tk_il 1 7), (7, tk_cv 7 M_X7_isThing 1 10), (10, tk_br (fun x => x = 0) 24 13), (13, tk_il 2 14), (14, tk_ic (0) 15), (15, tk_ic (400) 18), (18, tk_cs M_X7_in 3 21), (21, tk_br (fun x => x = 0) 24 26), (24, tk_ic (-1) 25), (25, tk_rI), (26, tk_al 0 27), (27, tk_il 1 28), (28, tk_cv 7 M_X7_takesUp 1 31), (31, tk_ic (0) 32), (32, tk_sI 3 33), (33, tk_il 3 34), (34, tk_il 2 35), (35, tk_cm (fun x y => y ≤ x) 69 38), (38, tk_al 0 39), (39, tk_il 1 40), (40, tk_cv 7 M_X7_isTied 1 43), (43, tk_br (fun x => x = 0) 46 69), (46, tk_al 0 47), (47, tk_al 0 48), (48, tk_al 0 49), (49, tk_gR 7 16 52), (52, tk_ic (0) 53), (53, tk_ai 9 54), (54, tk_il 3 55), (55, tk_bi (fun x y => x + y) 56), (56, tk_cv 7 M_X7_levelOf 1 59), (59, tk_cv 7 M_X7_goes 1 62), (62, tk_pp 63), (63, tk_inc 3 (1) 66), (66, tk_jmp 33), (69, tk_al 0 70), (70, tk_gI 7 28 73), (73, tk_br (fun x => x ≤ 0) 81 76), (76, tk_ic (-9) 78), (78, tk_jmp 85), (81, tk_al 0 82), (82, tk_gI 7 27 85), (85, tk_rI)]
set_option maxRecDepth 100000 in
theorem hT_X7_where (sc : Option (Nat × (Nat → Int32))) : ∀ x ∈ T_X7_where, tk_So sc M_X7_where x.1 x.2 := by
  unfold T_X7_where
  refine List.forall_mem_cons.mpr ⟨so_aload_n dX7_where_0 rfl rfl, ?_⟩
  refine List.forall_mem_cons.mpr ⟨so_iconst dX7_where_1 (by decide) rfl, ?_⟩
  refine List.forall_mem_cons.mpr ⟨so_pI (C := RX7) (T := TX7) (N := 29) dX7_where_2 (by decide) rfl rfl (by decide) rfl in_X7 wf_X7_62 tyX7 tyX7_ok nmX7 rfl (by decide +kernel) rfl, ?_⟩
  refine List.forall_mem_cons.mpr ⟨so_aload_n dX7_where_5 rfl rfl, ?_⟩
  refine List.forall_mem_cons.mpr ⟨so_iload_n dX7_where_6 rfl rfl, ?_⟩
  refine List.forall_mem_cons.mpr ⟨so_cv (T := TX7) (N := 29) dX7_where_7 mv_X7_isThing wm_X7_137 (by decide) rfl ⟨rfl, rfl⟩ (by decide) rfl, ?_⟩
  refine List.forall_mem_cons.mpr ⟨so_if_eq dX7_where_10 (by decide) rfl, ?_⟩
  refine List.forall_mem_cons.mpr ⟨so_iload_n dX7_where_13 rfl rfl, ?_⟩
  refine List.forall_mem_cons.mpr ⟨so_iconst dX7_where_14 (by decide) rfl, ?_⟩
  refine List.forall_mem_cons.mpr ⟨so_sipush dX7_where_15 (by decide) rfl, ?_⟩
  refine List.forall_mem_cons.mpr ⟨so_cs dX7_where_18 mv_X7_in wm_X7_66 ⟨rfl, rfl⟩ (by decide) rfl, ?_⟩
  refine List.forall_mem_cons.mpr ⟨so_if_ne dX7_where_21 (by decide) rfl, ?_⟩
  refine List.forall_mem_cons.mpr ⟨so_iconst dX7_where_24 (by decide) rfl, ?_⟩
  refine List.forall_mem_cons.mpr ⟨so_rI dX7_where_25 rfl, ?_⟩
  refine List.forall_mem_cons.mpr ⟨so_aload_n dX7_where_26 rfl rfl, ?_⟩
  refine List.forall_mem_cons.mpr ⟨so_iload_n dX7_where_27 rfl rfl, ?_⟩
  refine List.forall_mem_cons.mpr ⟨so_cv (T := TX7) (N := 29) dX7_where_28 mv_X7_takesUp wm_X7_152 (by decide) rfl ⟨rfl, rfl⟩ (by decide) rfl, ?_⟩
  refine List.forall_mem_cons.mpr ⟨so_iconst dX7_where_31 (by decide) rfl, ?_⟩
  refine List.forall_mem_cons.mpr ⟨so_istore_n dX7_where_32 rfl rfl, ?_⟩
  refine List.forall_mem_cons.mpr ⟨so_iload_n dX7_where_33 rfl rfl, ?_⟩
  refine List.forall_mem_cons.mpr ⟨so_iload_n dX7_where_34 rfl rfl, ?_⟩
  refine List.forall_mem_cons.mpr ⟨so_icmp_ge dX7_where_35 (by decide) rfl, ?_⟩
  refine List.forall_mem_cons.mpr ⟨so_aload_n dX7_where_38 rfl rfl, ?_⟩
  refine List.forall_mem_cons.mpr ⟨so_iload_n dX7_where_39 rfl rfl, ?_⟩
  refine List.forall_mem_cons.mpr ⟨so_cv (T := TX7) (N := 29) dX7_where_40 mv_X7_isTied wm_X7_155 (by decide) rfl ⟨rfl, rfl⟩ (by decide) rfl, ?_⟩
  refine List.forall_mem_cons.mpr ⟨so_if_ne dX7_where_43 (by decide) rfl, ?_⟩
  refine List.forall_mem_cons.mpr ⟨so_aload_n dX7_where_46 rfl rfl, ?_⟩
  refine List.forall_mem_cons.mpr ⟨so_aload_n dX7_where_47 rfl rfl, ?_⟩
  refine List.forall_mem_cons.mpr ⟨so_aload_n dX7_where_48 rfl rfl, ?_⟩
  refine List.forall_mem_cons.mpr ⟨so_gR (C := RX7) (T := TX7) (N := 29) dX7_where_49 (by decide) rfl rfl (by decide) rfl in_X7 wf_X7_31 rfl, ?_⟩
  refine List.forall_mem_cons.mpr ⟨so_iconst dX7_where_52 (by decide) rfl, ?_⟩
  refine List.forall_mem_cons.mpr ⟨so_iaload dX7_where_53 rfl, ?_⟩
  refine List.forall_mem_cons.mpr ⟨so_iload_n dX7_where_54 rfl rfl, ?_⟩
  refine List.forall_mem_cons.mpr ⟨so_iadd dX7_where_55 rfl, ?_⟩
  refine List.forall_mem_cons.mpr ⟨so_cv (T := TX7) (N := 29) dX7_where_56 mv_X7_levelOf wm_X7_127 (by decide) rfl ⟨rfl, rfl⟩ (by decide) rfl, ?_⟩
  refine List.forall_mem_cons.mpr ⟨so_cv (T := TX7) (N := 29) dX7_where_59 mv_X7_goes wm_X7_158 (by decide) rfl ⟨rfl, rfl⟩ (by decide) rfl, ?_⟩
  refine List.forall_mem_cons.mpr ⟨so_pop dX7_where_62 rfl, ?_⟩
  refine List.forall_mem_cons.mpr ⟨so_iinc dX7_where_63 (by decide) rfl, ?_⟩
  refine List.forall_mem_cons.mpr ⟨so_goto dX7_where_66 (by decide), ?_⟩
  refine List.forall_mem_cons.mpr ⟨so_aload_n dX7_where_69 rfl rfl, ?_⟩
  refine List.forall_mem_cons.mpr ⟨so_gI (C := RX7) (T := TX7) (N := 29) dX7_where_70 (by decide) rfl rfl (by decide) rfl in_X7 wf_X7_143 rfl, ?_⟩
  refine List.forall_mem_cons.mpr ⟨so_if_le dX7_where_73 (by decide) rfl, ?_⟩
  refine List.forall_mem_cons.mpr ⟨so_bipush dX7_where_76 (by decide) rfl, ?_⟩
  refine List.forall_mem_cons.mpr ⟨so_goto dX7_where_78 (by decide), ?_⟩
  refine List.forall_mem_cons.mpr ⟨so_aload_n dX7_where_81 rfl rfl, ?_⟩
  refine List.forall_mem_cons.mpr ⟨so_gI (C := RX7) (T := TX7) (N := 29) dX7_where_82 (by decide) rfl rfl (by decide) rfl in_X7 wf_X7_146 rfl, ?_⟩
  refine List.forall_mem_cons.mpr ⟨so_rI dX7_where_85 rfl, ?_⟩
  exact fun _ h => absurd h List.not_mem_nil
theorem dX7_soon_0 : decode cX7_soon 0 = .ok (.iconst 0, 1) := by decide +kernel
theorem dX7_soon_1 : decode cX7_soon 1 = .ok (.istore_n 3, 1) := by decide +kernel
theorem dX7_soon_2 : decode cX7_soon 2 = .ok (.iload_n 3, 1) := by decide +kernel
theorem dX7_soon_3 : decode cX7_soon 3 = .ok (.sipush 400, 3) := by decide +kernel
theorem dX7_soon_6 : decode cX7_soon 6 = .ok (.if_icmp .gt 47, 3) := by decide +kernel
theorem dX7_soon_9 : decode cX7_soon 9 = .ok (.aload_n 0, 1) := by decide +kernel
theorem dX7_soon_10 : decode cX7_soon 10 = .ok (.getfield 143, 3) := by decide +kernel
theorem dX7_soon_13 : decode cX7_soon 13 = .ok (.ifCond .ne 13, 3) := by decide +kernel
theorem dX7_soon_16 : decode cX7_soon 16 = .ok (.aload_n 0, 1) := by decide +kernel
theorem dX7_soon_17 : decode cX7_soon 17 = .ok (.getfield 146, 3) := by decide +kernel
theorem dX7_soon_20 : decode cX7_soon 20 = .ok (.iload_n 1, 1) := by decide +kernel
theorem dX7_soon_21 : decode cX7_soon 21 = .ok (.if_icmp .ne 5, 3) := by decide +kernel
theorem dX7_soon_24 : decode cX7_soon 24 = .ok (.iload_n 3, 1) := by decide +kernel
theorem dX7_soon_25 : decode cX7_soon 25 = .ok (.ireturn, 1) := by decide +kernel
theorem dX7_soon_26 : decode cX7_soon 26 = .ok (.iload_n 2, 1) := by decide +kernel
theorem dX7_soon_27 : decode cX7_soon 27 = .ok (.ifCond .ne 20, 3) := by decide +kernel
theorem dX7_soon_30 : decode cX7_soon 30 = .ok (.aload_n 0, 1) := by decide +kernel
theorem dX7_soon_31 : decode cX7_soon 31 = .ok (.aload_n 0, 1) := by decide +kernel
theorem dX7_soon_32 : decode cX7_soon 32 = .ok (.aload_n 0, 1) := by decide +kernel
theorem dX7_soon_33 : decode cX7_soon 33 = .ok (.getfield 31, 3) := by decide +kernel
theorem dX7_soon_36 : decode cX7_soon 36 = .ok (.iconst 0, 1) := by decide +kernel
theorem dX7_soon_37 : decode cX7_soon 37 = .ok (.iaload, 1) := by decide +kernel
theorem dX7_soon_38 : decode cX7_soon 38 = .ok (.iload_n 3, 1) := by decide +kernel
theorem dX7_soon_39 : decode cX7_soon 39 = .ok (.iadd, 1) := by decide +kernel
theorem dX7_soon_40 : decode cX7_soon 40 = .ok (.invokevirtual 127, 3) := by decide +kernel
theorem dX7_soon_43 : decode cX7_soon 43 = .ok (.invokevirtual 158, 3) := by decide +kernel
theorem dX7_soon_46 : decode cX7_soon 46 = .ok (.pop, 1) := by decide +kernel
theorem dX7_soon_47 : decode cX7_soon 47 = .ok (.iinc 3 1, 3) := by decide +kernel
theorem dX7_soon_50 : decode cX7_soon 50 = .ok (.goto (-48), 3) := by decide +kernel
theorem dX7_soon_53 : decode cX7_soon 53 = .ok (.bipush (-9), 2) := by decide +kernel
theorem dX7_soon_55 : decode cX7_soon 55 = .ok (.ireturn, 1) := by decide +kernel
def T_X7_soon : tk_Tb := [(0, tk_ic (0) 1), (1, tk_sI 3 2), (2, tk_il 3 3), (3, tk_ic (400) 6), (6, tk_cm (fun x y => y < x) 53 9), (9, tk_al 0 10), (10, tk_gI 7 28 13), (13, tk_br (fun x => x = 0) 16 26), (16, tk_al 0 17), (17, tk_gI 7 27 20), (20, tk_il 1 21), (21, tk_cm (fun x y => x = y) 24 26), (24, tk_il 3 25), (25, tk_rI), (26, tk_il 2 27), (27, tk_br (fun x => x = 0) 30 47), (30, tk_al 0 31), (31, tk_al 0 32), (32, tk_al 0 33), (33, tk_gR 7 16 36), (36, tk_ic (0) 37), (37, tk_ai 9 38), (38, tk_il 3 39), (39, tk_bi (fun x y => x + y) 40), (40, tk_cv 7 M_X7_levelOf 1 43), (43, tk_cv 7 M_X7_goes 1 46), (46, tk_pp 47), (47, tk_inc 3 (1) 50), (50, tk_jmp 2), (53, tk_ic (-9) 55), (55, tk_rI)]
set_option maxRecDepth 100000 in
theorem hT_X7_soon (sc : Option (Nat × (Nat → Int32))) : ∀ x ∈ T_X7_soon, tk_So sc M_X7_soon x.1 x.2 := by
  unfold T_X7_soon
  refine List.forall_mem_cons.mpr ⟨so_iconst dX7_soon_0 (by decide) rfl, ?_⟩
  refine List.forall_mem_cons.mpr ⟨so_istore_n dX7_soon_1 rfl rfl, ?_⟩
  refine List.forall_mem_cons.mpr ⟨so_iload_n dX7_soon_2 rfl rfl, ?_⟩
  refine List.forall_mem_cons.mpr ⟨so_sipush dX7_soon_3 (by decide) rfl, ?_⟩
  refine List.forall_mem_cons.mpr ⟨so_icmp_gt dX7_soon_6 (by decide) rfl, ?_⟩
  refine List.forall_mem_cons.mpr ⟨so_aload_n dX7_soon_9 rfl rfl, ?_⟩
  refine List.forall_mem_cons.mpr ⟨so_gI (C := RX7) (T := TX7) (N := 29) dX7_soon_10 (by decide) rfl rfl (by decide) rfl in_X7 wf_X7_143 rfl, ?_⟩
  refine List.forall_mem_cons.mpr ⟨so_if_ne dX7_soon_13 (by decide) rfl, ?_⟩
  refine List.forall_mem_cons.mpr ⟨so_aload_n dX7_soon_16 rfl rfl, ?_⟩
  refine List.forall_mem_cons.mpr ⟨so_gI (C := RX7) (T := TX7) (N := 29) dX7_soon_17 (by decide) rfl rfl (by decide) rfl in_X7 wf_X7_146 rfl, ?_⟩
  refine List.forall_mem_cons.mpr ⟨so_iload_n dX7_soon_20 rfl rfl, ?_⟩
  refine List.forall_mem_cons.mpr ⟨so_icmp_ne dX7_soon_21 (by decide) rfl, ?_⟩
  refine List.forall_mem_cons.mpr ⟨so_iload_n dX7_soon_24 rfl rfl, ?_⟩
  refine List.forall_mem_cons.mpr ⟨so_rI dX7_soon_25 rfl, ?_⟩
  refine List.forall_mem_cons.mpr ⟨so_iload_n dX7_soon_26 rfl rfl, ?_⟩
  refine List.forall_mem_cons.mpr ⟨so_if_ne dX7_soon_27 (by decide) rfl, ?_⟩
  refine List.forall_mem_cons.mpr ⟨so_aload_n dX7_soon_30 rfl rfl, ?_⟩
  refine List.forall_mem_cons.mpr ⟨so_aload_n dX7_soon_31 rfl rfl, ?_⟩
  refine List.forall_mem_cons.mpr ⟨so_aload_n dX7_soon_32 rfl rfl, ?_⟩
  refine List.forall_mem_cons.mpr ⟨so_gR (C := RX7) (T := TX7) (N := 29) dX7_soon_33 (by decide) rfl rfl (by decide) rfl in_X7 wf_X7_31 rfl, ?_⟩
  refine List.forall_mem_cons.mpr ⟨so_iconst dX7_soon_36 (by decide) rfl, ?_⟩
  refine List.forall_mem_cons.mpr ⟨so_iaload dX7_soon_37 rfl, ?_⟩
  refine List.forall_mem_cons.mpr ⟨so_iload_n dX7_soon_38 rfl rfl, ?_⟩
  refine List.forall_mem_cons.mpr ⟨so_iadd dX7_soon_39 rfl, ?_⟩
  refine List.forall_mem_cons.mpr ⟨so_cv (T := TX7) (N := 29) dX7_soon_40 mv_X7_levelOf wm_X7_127 (by decide) rfl ⟨rfl, rfl⟩ (by decide) rfl, ?_⟩
  refine List.forall_mem_cons.mpr ⟨so_cv (T := TX7) (N := 29) dX7_soon_43 mv_X7_goes wm_X7_158 (by decide) rfl ⟨rfl, rfl⟩ (by decide) rfl, ?_⟩
  refine List.forall_mem_cons.mpr ⟨so_pop dX7_soon_46 rfl, ?_⟩
  refine List.forall_mem_cons.mpr ⟨so_iinc dX7_soon_47 (by decide) rfl, ?_⟩
  refine List.forall_mem_cons.mpr ⟨so_goto dX7_soon_50 (by decide), ?_⟩
  refine List.forall_mem_cons.mpr ⟨so_bipush dX7_soon_53 (by decide) rfl, ?_⟩
  refine List.forall_mem_cons.mpr ⟨so_rI dX7_soon_55 rfl, ?_⟩
  exact fun _ h => absurd h List.not_mem_nil
theorem dX7_when_0 : decode cX7_when 0 = .ok (.aload_n 0, 1) := by decide +kernel
theorem dX7_when_1 : decode cX7_when 1 = .ok (.iconst 0, 1) := by decide +kernel
theorem dX7_when_2 : decode cX7_when 2 = .ok (.putfield 62, 3) := by decide +kernel
theorem dX7_when_5 : decode cX7_when 5 = .ok (.aload_n 0, 1) := by decide +kernel
theorem dX7_when_6 : decode cX7_when 6 = .ok (.iload_n 1, 1) := by decide +kernel
theorem dX7_when_7 : decode cX7_when 7 = .ok (.invokevirtual 137, 3) := by decide +kernel
theorem dX7_when_10 : decode cX7_when 10 = .ok (.ifCond .eq 11, 3) := by decide +kernel
theorem dX7_when_13 : decode cX7_when 13 = .ok (.aload_n 0, 1) := by decide +kernel
theorem dX7_when_14 : decode cX7_when 14 = .ok (.iload_n 2, 1) := by decide +kernel
theorem dX7_when_15 : decode cX7_when 15 = .ok (.invokevirtual 130, 3) := by decide +kernel
theorem dX7_when_18 : decode cX7_when 18 = .ok (.ifCond .ne 5, 3) := by decide +kernel
theorem dX7_when_21 : decode cX7_when 21 = .ok (.iconst (-1), 1) := by decide +kernel
theorem dX7_when_22 : decode cX7_when 22 = .ok (.ireturn, 1) := by decide +kernel
theorem dX7_when_23 : decode cX7_when 23 = .ok (.aload_n 0, 1) := by decide +kernel
theorem dX7_when_24 : decode cX7_when 24 = .ok (.iload_n 1, 1) := by decide +kernel
theorem dX7_when_25 : decode cX7_when 25 = .ok (.invokevirtual 152, 3) := by decide +kernel
theorem dX7_when_28 : decode cX7_when 28 = .ok (.aload_n 0, 1) := by decide +kernel
theorem dX7_when_29 : decode cX7_when 29 = .ok (.iload_n 2, 1) := by decide +kernel
theorem dX7_when_30 : decode cX7_when 30 = .ok (.aload_n 0, 1) := by decide +kernel
theorem dX7_when_31 : decode cX7_when 31 = .ok (.iload_n 1, 1) := by decide +kernel
theorem dX7_when_32 : decode cX7_when 32 = .ok (.invokevirtual 155, 3) := by decide +kernel
theorem dX7_when_35 : decode cX7_when 35 = .ok (.invokevirtual 165, 3) := by decide +kernel
theorem dX7_when_38 : decode cX7_when 38 = .ok (.istore_n 3, 1) := by decide +kernel
theorem dX7_when_39 : decode cX7_when 39 = .ok (.iload_n 3, 1) := by decide +kernel
theorem dX7_when_40 : decode cX7_when 40 = .ok (.bipush (-9), 2) := by decide +kernel
theorem dX7_when_42 : decode cX7_when 42 = .ok (.if_icmp .ne 8, 3) := by decide +kernel
theorem dX7_when_45 : decode cX7_when 45 = .ok (.bipush (-9), 2) := by decide +kernel
theorem dX7_when_47 : decode cX7_when 47 = .ok (.goto 11, 3) := by decide +kernel
theorem dX7_when_50 : decode cX7_when 50 = .ok (.aload_n 0, 1) := by decide +kernel
theorem dX7_when_51 : decode cX7_when 51 = .ok (.getfield 31, 3) := by decide +kernel
theorem dX7_when_54 : decode cX7_when 54 = .ok (.iconst 0, 1) := by decide +kernel
theorem dX7_when_55 : decode cX7_when 55 = .ok (.iaload, 1) := by decide +kernel
theorem dX7_when_56 : decode cX7_when 56 = .ok (.iload_n 3, 1) := by decide +kernel
theorem dX7_when_57 : decode cX7_when 57 = .ok (.iadd, 1) := by decide +kernel
theorem dX7_when_58 : decode cX7_when 58 = .ok (.ireturn, 1) := by decide +kernel
def T_X7_when : tk_Tb := [(0, tk_al 0 1), (1, tk_ic (0) 2), (2, tk_pI 7 0 5), (5, tk_al 0 6), (6, tk_il 1 7), (7, tk_cv 7 M_X7_isThing 1 10), (10, tk_br (fun x => x = 0) 21 13), (13, tk_al 0 14), (14, tk_il 2 15), (15, tk_cv 7 M_X7_isKerb 1 18), (18, tk_br (fun x => x = 0) 21 23), (21, tk_ic (-1) 22), (22, tk_rI), (23, tk_al 0 24), (24, tk_il 1 25), (25, tk_cv 7 M_X7_takesUp 1 28), (28, tk_al 0 29), (29, tk_il 2 30), (30, tk_al 0 31), (31, tk_il 1 32), (32, tk_cv 7 M_X7_isTied 1 35), (35, tk_cv 7 M_X7_soon 2 38), (38, tk_sI 3 39), (39, tk_il 3 40), (40, tk_ic (-9) 42), (42, tk_cm (fun x y => x = y) 45 50), (45, tk_ic (-9) 47), (47, tk_jmp 58), (50, tk_al 0 51), (51, tk_gR 7 16 54), (54, tk_ic (0) 55), (55, tk_ai 9 56), (56, tk_il 3 57), (57, tk_bi (fun x y => x + y) 58), (58, tk_rI)]
set_option maxRecDepth 100000 in
theorem hT_X7_when (sc : Option (Nat × (Nat → Int32))) : ∀ x ∈ T_X7_when, tk_So sc M_X7_when x.1 x.2 := by
  unfold T_X7_when
  refine List.forall_mem_cons.mpr ⟨so_aload_n dX7_when_0 rfl rfl, ?_⟩
  refine List.forall_mem_cons.mpr ⟨so_iconst dX7_when_1 (by decide) rfl, ?_⟩
  refine List.forall_mem_cons.mpr ⟨so_pI (C := RX7) (T := TX7) (N := 29) dX7_when_2 (by decide) rfl rfl (by decide) rfl in_X7 wf_X7_62 tyX7 tyX7_ok nmX7 rfl (by decide +kernel) rfl, ?_⟩
  refine List.forall_mem_cons.mpr ⟨so_aload_n dX7_when_5 rfl rfl, ?_⟩
  refine List.forall_mem_cons.mpr ⟨so_iload_n dX7_when_6 rfl rfl, ?_⟩
  refine List.forall_mem_cons.mpr ⟨so_cv (T := TX7) (N := 29) dX7_when_7 mv_X7_isThing wm_X7_137 (by decide) rfl ⟨rfl, rfl⟩ (by decide) rfl, ?_⟩
  refine List.forall_mem_cons.mpr ⟨so_if_eq dX7_when_10 (by decide) rfl, ?_⟩
  refine List.forall_mem_cons.mpr ⟨so_aload_n dX7_when_13 rfl rfl, ?_⟩
  refine List.forall_mem_cons.mpr ⟨so_iload_n dX7_when_14 rfl rfl, ?_⟩
  refine List.forall_mem_cons.mpr ⟨so_cv (T := TX7) (N := 29) dX7_when_15 mv_X7_isKerb wm_X7_130 (by decide) rfl ⟨rfl, rfl⟩ (by decide) rfl, ?_⟩
  refine List.forall_mem_cons.mpr ⟨so_if_ne dX7_when_18 (by decide) rfl, ?_⟩
  refine List.forall_mem_cons.mpr ⟨so_iconst dX7_when_21 (by decide) rfl, ?_⟩
  refine List.forall_mem_cons.mpr ⟨so_rI dX7_when_22 rfl, ?_⟩
  refine List.forall_mem_cons.mpr ⟨so_aload_n dX7_when_23 rfl rfl, ?_⟩
  refine List.forall_mem_cons.mpr ⟨so_iload_n dX7_when_24 rfl rfl, ?_⟩
  refine List.forall_mem_cons.mpr ⟨so_cv (T := TX7) (N := 29) dX7_when_25 mv_X7_takesUp wm_X7_152 (by decide) rfl ⟨rfl, rfl⟩ (by decide) rfl, ?_⟩
  refine List.forall_mem_cons.mpr ⟨so_aload_n dX7_when_28 rfl rfl, ?_⟩
  refine List.forall_mem_cons.mpr ⟨so_iload_n dX7_when_29 rfl rfl, ?_⟩
  refine List.forall_mem_cons.mpr ⟨so_aload_n dX7_when_30 rfl rfl, ?_⟩
  refine List.forall_mem_cons.mpr ⟨so_iload_n dX7_when_31 rfl rfl, ?_⟩
  refine List.forall_mem_cons.mpr ⟨so_cv (T := TX7) (N := 29) dX7_when_32 mv_X7_isTied wm_X7_155 (by decide) rfl ⟨rfl, rfl⟩ (by decide) rfl, ?_⟩
  refine List.forall_mem_cons.mpr ⟨so_cv (T := TX7) (N := 29) dX7_when_35 mv_X7_soon wm_X7_165 (by decide) rfl ⟨rfl, rfl⟩ (by decide) rfl, ?_⟩
  refine List.forall_mem_cons.mpr ⟨so_istore_n dX7_when_38 rfl rfl, ?_⟩
  refine List.forall_mem_cons.mpr ⟨so_iload_n dX7_when_39 rfl rfl, ?_⟩
  refine List.forall_mem_cons.mpr ⟨so_bipush dX7_when_40 (by decide) rfl, ?_⟩
  refine List.forall_mem_cons.mpr ⟨so_icmp_ne dX7_when_42 (by decide) rfl, ?_⟩
  refine List.forall_mem_cons.mpr ⟨so_bipush dX7_when_45 (by decide) rfl, ?_⟩
  refine List.forall_mem_cons.mpr ⟨so_goto dX7_when_47 (by decide), ?_⟩
  refine List.forall_mem_cons.mpr ⟨so_aload_n dX7_when_50 rfl rfl, ?_⟩
  refine List.forall_mem_cons.mpr ⟨so_gR (C := RX7) (T := TX7) (N := 29) dX7_when_51 (by decide) rfl rfl (by decide) rfl in_X7 wf_X7_31 rfl, ?_⟩
  refine List.forall_mem_cons.mpr ⟨so_iconst dX7_when_54 (by decide) rfl, ?_⟩
  refine List.forall_mem_cons.mpr ⟨so_iaload dX7_when_55 rfl, ?_⟩
  refine List.forall_mem_cons.mpr ⟨so_iload_n dX7_when_56 rfl rfl, ?_⟩
  refine List.forall_mem_cons.mpr ⟨so_iadd dX7_when_57 rfl, ?_⟩
  refine List.forall_mem_cons.mpr ⟨so_rI dX7_when_58 rfl, ?_⟩
  exact fun _ h => absurd h List.not_mem_nil
theorem dX7_send_0 : decode cX7_send 0 = .ok (.aload_n 0, 1) := by decide +kernel
theorem dX7_send_1 : decode cX7_send 1 = .ok (.iconst 0, 1) := by decide +kernel
theorem dX7_send_2 : decode cX7_send 2 = .ok (.putfield 62, 3) := by decide +kernel
theorem dX7_send_5 : decode cX7_send 5 = .ok (.aload_n 0, 1) := by decide +kernel
theorem dX7_send_6 : decode cX7_send 6 = .ok (.iload_n 1, 1) := by decide +kernel
theorem dX7_send_7 : decode cX7_send 7 = .ok (.invokevirtual 137, 3) := by decide +kernel
theorem dX7_send_10 : decode cX7_send 10 = .ok (.ifCond .eq 20, 3) := by decide +kernel
theorem dX7_send_13 : decode cX7_send 13 = .ok (.aload_n 0, 1) := by decide +kernel
theorem dX7_send_14 : decode cX7_send 14 = .ok (.iload_n 2, 1) := by decide +kernel
theorem dX7_send_15 : decode cX7_send 15 = .ok (.invokevirtual 130, 3) := by decide +kernel
theorem dX7_send_18 : decode cX7_send 18 = .ok (.ifCond .eq 12, 3) := by decide +kernel
theorem dX7_send_21 : decode cX7_send 21 = .ok (.iload_n 3, 1) := by decide +kernel
theorem dX7_send_22 : decode cX7_send 22 = .ok (.iconst 0, 1) := by decide +kernel
theorem dX7_send_23 : decode cX7_send 23 = .ok (.iconst 1, 1) := by decide +kernel
theorem dX7_send_24 : decode cX7_send 24 = .ok (.invokestatic 66, 3) := by decide +kernel
theorem dX7_send_27 : decode cX7_send 27 = .ok (.ifCond .ne 5, 3) := by decide +kernel
theorem dX7_send_30 : decode cX7_send 30 = .ok (.iconst (-1), 1) := by decide +kernel
theorem dX7_send_31 : decode cX7_send 31 = .ok (.ireturn, 1) := by decide +kernel
theorem dX7_send_32 : decode cX7_send 32 = .ok (.aload_n 0, 1) := by decide +kernel
theorem dX7_send_33 : decode cX7_send 33 = .ok (.getfield 31, 3) := by decide +kernel
theorem dX7_send_36 : decode cX7_send 36 = .ok (.bipush 6, 2) := by decide +kernel
theorem dX7_send_38 : decode cX7_send 38 = .ok (.iload_n 1, 1) := by decide +kernel
theorem dX7_send_39 : decode cX7_send 39 = .ok (.iadd, 1) := by decide +kernel
theorem dX7_send_40 : decode cX7_send 40 = .ok (.iaload, 1) := by decide +kernel
theorem dX7_send_41 : decode cX7_send 41 = .ok (.ifCond .le 6, 3) := by decide +kernel
theorem dX7_send_44 : decode cX7_send 44 = .ok (.bipush (-2), 2) := by decide +kernel
theorem dX7_send_46 : decode cX7_send 46 = .ok (.ireturn, 1) := by decide +kernel
theorem dX7_send_47 : decode cX7_send 47 = .ok (.bipush (-9), 2) := by decide +kernel
theorem dX7_send_49 : decode cX7_send 49 = .ok (.istore 4, 2) := by decide +kernel
theorem dX7_send_51 : decode cX7_send 51 = .ok (.bipush (-9), 2) := by decide +kernel
theorem dX7_send_53 : decode cX7_send 53 = .ok (.istore 5, 2) := by decide +kernel
theorem dX7_send_55 : decode cX7_send 55 = .ok (.iconst 0, 1) := by decide +kernel
theorem dX7_send_56 : decode cX7_send 56 = .ok (.istore 6, 2) := by decide +kernel
theorem dX7_send_58 : decode cX7_send 58 = .ok (.iload 6, 2) := by decide +kernel
theorem dX7_send_60 : decode cX7_send 60 = .ok (.aload_n 0, 1) := by decide +kernel
theorem dX7_send_61 : decode cX7_send 61 = .ok (.getfield 13, 3) := by decide +kernel
theorem dX7_send_64 : decode cX7_send 64 = .ok (.iconst 0, 1) := by decide +kernel
theorem dX7_send_65 : decode cX7_send 65 = .ok (.iaload, 1) := by decide +kernel
theorem dX7_send_66 : decode cX7_send 66 = .ok (.if_icmp .ge 107, 3) := by decide +kernel
theorem dX7_send_69 : decode cX7_send 69 = .ok (.aload_n 0, 1) := by decide +kernel
theorem dX7_send_70 : decode cX7_send 70 = .ok (.getfield 16, 3) := by decide +kernel
theorem dX7_send_73 : decode cX7_send 73 = .ok (.iload 6, 2) := by decide +kernel
theorem dX7_send_75 : decode cX7_send 75 = .ok (.iaload, 1) := by decide +kernel
theorem dX7_send_76 : decode cX7_send 76 = .ok (.aload_n 0, 1) := by decide +kernel
theorem dX7_send_77 : decode cX7_send 77 = .ok (.getfield 16, 3) := by decide +kernel
theorem dX7_send_80 : decode cX7_send 80 = .ok (.aload_n 0, 1) := by decide +kernel
theorem dX7_send_81 : decode cX7_send 81 = .ok (.getfield 31, 3) := by decide +kernel
theorem dX7_send_84 : decode cX7_send 84 = .ok (.iconst 1, 1) := by decide +kernel
theorem dX7_send_85 : decode cX7_send 85 = .ok (.iload_n 1, 1) := by decide +kernel
theorem dX7_send_86 : decode cX7_send 86 = .ok (.iadd, 1) := by decide +kernel
theorem dX7_send_87 : decode cX7_send 87 = .ok (.iaload, 1) := by decide +kernel
theorem dX7_send_88 : decode cX7_send 88 = .ok (.iaload, 1) := by decide +kernel
theorem dX7_send_89 : decode cX7_send 89 = .ok (.if_icmp .ne 78, 3) := by decide +kernel
theorem dX7_send_92 : decode cX7_send 92 = .ok (.aload_n 0, 1) := by decide +kernel
theorem dX7_send_93 : decode cX7_send 93 = .ok (.iload 6, 2) := by decide +kernel
theorem dX7_send_95 : decode cX7_send 95 = .ok (.putfield 146, 3) := by decide +kernel
theorem dX7_send_98 : decode cX7_send 98 = .ok (.aload_n 0, 1) := by decide +kernel
theorem dX7_send_99 : decode cX7_send 99 = .ok (.iconst 0, 1) := by decide +kernel
theorem dX7_send_100 : decode cX7_send 100 = .ok (.putfield 143, 3) := by decide +kernel
theorem dX7_send_103 : decode cX7_send 103 = .ok (.aload_n 0, 1) := by decide +kernel
theorem dX7_send_104 : decode cX7_send 104 = .ok (.iload_n 2, 1) := by decide +kernel
theorem dX7_send_105 : decode cX7_send 105 = .ok (.iconst 0, 1) := by decide +kernel
theorem dX7_send_106 : decode cX7_send 106 = .ok (.invokevirtual 165, 3) := by decide +kernel
theorem dX7_send_109 : decode cX7_send 109 = .ok (.istore 7, 2) := by decide +kernel
theorem dX7_send_111 : decode cX7_send 111 = .ok (.iload 7, 2) := by decide +kernel
theorem dX7_send_113 : decode cX7_send 113 = .ok (.bipush (-9), 2) := by decide +kernel
theorem dX7_send_115 : decode cX7_send 115 = .ok (.if_icmp .eq 21, 3) := by decide +kernel
theorem dX7_send_118 : decode cX7_send 118 = .ok (.iload 5, 2) := by decide +kernel
theorem dX7_send_120 : decode cX7_send 120 = .ok (.bipush (-9), 2) := by decide +kernel
theorem dX7_send_122 : decode cX7_send 122 = .ok (.if_icmp .eq 10, 3) := by decide +kernel
theorem dX7_send_125 : decode cX7_send 125 = .ok (.iload 7, 2) := by decide +kernel
theorem dX7_send_127 : decode cX7_send 127 = .ok (.iload 5, 2) := by decide +kernel
theorem dX7_send_129 : decode cX7_send 129 = .ok (.if_icmp .ge 7, 3) := by decide +kernel
theorem dX7_send_132 : decode cX7_send 132 = .ok (.iconst 1, 1) := by decide +kernel
theorem dX7_send_133 : decode cX7_send 133 = .ok (.goto 4, 3) := by decide +kernel
theorem dX7_send_136 : decode cX7_send 136 = .ok (.iconst 0, 1) := by decide +kernel
theorem dX7_send_137 : decode cX7_send 137 = .ok (.istore 8, 2) := by decide +kernel
theorem dX7_send_139 : decode cX7_send 139 = .ok (.iload 8, 2) := by decide +kernel
theorem dX7_send_141 : decode cX7_send 141 = .ok (.ifCond .eq 8, 3) := by decide +kernel
theorem dX7_send_144 : decode cX7_send 144 = .ok (.iload 6, 2) := by decide +kernel
theorem dX7_send_146 : decode cX7_send 146 = .ok (.goto 5, 3) := by decide +kernel
theorem dX7_send_149 : decode cX7_send 149 = .ok (.iload 4, 2) := by decide +kernel
theorem dX7_send_151 : decode cX7_send 151 = .ok (.istore 4, 2) := by decide +kernel
theorem dX7_send_153 : decode cX7_send 153 = .ok (.iload 8, 2) := by decide +kernel
theorem dX7_send_155 : decode cX7_send 155 = .ok (.ifCond .eq 8, 3) := by decide +kernel
theorem dX7_send_158 : decode cX7_send 158 = .ok (.iload 7, 2) := by decide +kernel
theorem dX7_send_160 : decode cX7_send 160 = .ok (.goto 5, 3) := by decide +kernel
theorem dX7_send_163 : decode cX7_send 163 = .ok (.iload 5, 2) := by decide +kernel
theorem dX7_send_165 : decode cX7_send 165 = .ok (.istore 5, 2) := by decide +kernel
theorem dX7_send_167 : decode cX7_send 167 = .ok (.iinc 6 1, 3) := by decide +kernel
theorem dX7_send_170 : decode cX7_send 170 = .ok (.goto (-112), 3) := by decide +kernel
theorem dX7_send_173 : decode cX7_send 173 = .ok (.iload 4, 2) := by decide +kernel
theorem dX7_send_175 : decode cX7_send 175 = .ok (.bipush (-9), 2) := by decide +kernel
theorem dX7_send_177 : decode cX7_send 177 = .ok (.if_icmp .eq 7, 3) := by decide +kernel
theorem dX7_send_180 : decode cX7_send 180 = .ok (.iload_n 3, 1) := by decide +kernel
theorem dX7_send_181 : decode cX7_send 181 = .ok (.ifCond .ne 8, 3) := by decide +kernel
theorem dX7_send_184 : decode cX7_send 184 = .ok (.iload 4, 2) := by decide +kernel
theorem dX7_send_186 : decode cX7_send 186 = .ok (.goto 12, 3) := by decide +kernel
theorem dX7_send_189 : decode cX7_send 189 = .ok (.aload_n 0, 1) := by decide +kernel
theorem dX7_send_190 : decode cX7_send 190 = .ok (.getfield 31, 3) := by decide +kernel
theorem dX7_send_193 : decode cX7_send 193 = .ok (.iconst 0, 1) := by decide +kernel
theorem dX7_send_194 : decode cX7_send 194 = .ok (.iaload, 1) := by decide +kernel
theorem dX7_send_195 : decode cX7_send 195 = .ok (.iload 5, 2) := by decide +kernel
theorem dX7_send_197 : decode cX7_send 197 = .ok (.iadd, 1) := by decide +kernel
theorem dX7_send_198 : decode cX7_send 198 = .ok (.ireturn, 1) := by decide +kernel
def T_X7_send : tk_Tb := [(0, tk_al 0 1), (1, tk_ic (0) 2), (2, tk_pI 7 0 5), (5, tk_al 0 6), (6, tk_il 1 7), (7, tk_cv 7 M_X7_isThing 1 10), (10, tk_br (fun x => x = 0) 30 13), (13, tk_al 0 14), (14, tk_il 2 15), (15, tk_cv 7 M_X7_isKerb 1 18), (18, tk_br (fun x => x = 0) 30 21), (21, tk_il 3 22), (22, tk_ic (0) 23), (23, tk_ic (1) 24), (24, tk_cs M_X7_in 3 27), (27, tk_br (fun x => x = 0) 30 32), (30, tk_ic (-1) 31), (31, tk_rI), (32, tk_al 0 33), (33, tk_gR 7 16 36), (36, tk_ic (6) 38), (38, tk_il 1 39), (39, tk_bi (fun x y => x + y) 40), (40, tk_ai 9 41), (41, tk_br (fun x => x ≤ 0) 47 44), (44, tk_ic (-2) 46), (46, tk_rI), (47, tk_ic (-9) 49), (49, tk_sI 4 51), (51, tk_ic (-9) 53), (53, tk_sI 5 55), (55, tk_ic (0) 56), (56, tk_sI 6 58), (58, tk_il 6 60), (60, tk_al 0 61), (61, tk_gR 7 9 64), (64, tk_ic (0) 65), (65, tk_ai 9 66), (66, tk_cm (fun x y => y ≤ x) 173 69), (69, tk_al 0 70), (70, tk_gR 7 11 73), (73, tk_il 6 75), (75, tk_ai 9 76), (76, tk_al 0 77), (77, tk_gR 7 11 80), (80, tk_al 0 81), (81, tk_gR 7 16 84), (84, tk_ic (1) 85), (85, tk_il 1 86), (86, tk_bi (fun x y => x + y) 87), (87, tk_ai 9 88), (88, tk_ai 9 89), (89, tk_cm (fun x y => x = y) 92 167), (92, tk_al 0 93), (93, tk_il 6 95), (95, tk_pI 7 27 98), (98, tk_al 0 99), (99, tk_ic (0) 100), (100, tk_pI 7 28 103), (103, tk_al 0 104), (104, tk_il 2 105), (105, tk_ic (0) 106), (106, tk_cv 7 M_X7_soon 2 109), (109, tk_sI 7 111), (111, tk_il 7 113), (113, tk_ic (-9) 115), (115, tk_cm (fun x y => x = y) 136 118), (118, tk_il 5 120), (120, tk_ic (-9) 122), (122, tk_cm (fun x y => x = y) 132 125), (125, tk_il 7 127), (127, tk_il 5 129), (129, tk_cm (fun x y => y ≤ x) 136 132), (132, tk_ic (1) 133), (133, tk_jmp 137), (136, tk_ic (0) 137), (137, tk_sI 8 139), (139, tk_il 8 141), (141, tk_br (fun x => x = 0) 149 144), (144, tk_il 6 146), (146, tk_jmp 151), (149, tk_il 4 151), (151, tk_sI 4 153), (153, tk_il 8 155), (155, tk_br (fun x => x = 0) 163 158), (158, tk_il 7 160), (160, tk_jmp 165), (163, tk_il 5 165), (165, tk_sI 5 167), (167, tk_inc 6 (1) 170), (170, tk_jmp 58), (173, tk_il 4 175), (175, tk_ic (-9) 177), (177, tk_cm (fun x y => x = y) 184 180), (180, tk_il 3 181), (181, tk_br (fun x => x = 0) 184 189), (184, tk_il 4 186), (186, tk_jmp 198), (189, tk_al 0 190), (190, tk_gR 7 16 193), (193, tk_ic (0) 194), (194, tk_ai 9 195), (195, tk_il 5 197), (197, tk_bi (fun x y => x + y) 198), (198, tk_rI)]
set_option maxRecDepth 100000 in
theorem hT_X7_send (sc : Option (Nat × (Nat → Int32))) : ∀ x ∈ T_X7_send, tk_So sc M_X7_send x.1 x.2 := by
  unfold T_X7_send
  refine List.forall_mem_cons.mpr ⟨so_aload_n dX7_send_0 rfl rfl, ?_⟩
  refine List.forall_mem_cons.mpr ⟨so_iconst dX7_send_1 (by decide) rfl, ?_⟩
  refine List.forall_mem_cons.mpr ⟨so_pI (C := RX7) (T := TX7) (N := 29) dX7_send_2 (by decide) rfl rfl (by decide) rfl in_X7 wf_X7_62 tyX7 tyX7_ok nmX7 rfl (by decide +kernel) rfl, ?_⟩
  refine List.forall_mem_cons.mpr ⟨so_aload_n dX7_send_5 rfl rfl, ?_⟩
  refine List.forall_mem_cons.mpr ⟨so_iload_n dX7_send_6 rfl rfl, ?_⟩
  refine List.forall_mem_cons.mpr ⟨so_cv (T := TX7) (N := 29) dX7_send_7 mv_X7_isThing wm_X7_137 (by decide) rfl ⟨rfl, rfl⟩ (by decide) rfl, ?_⟩
  refine List.forall_mem_cons.mpr ⟨so_if_eq dX7_send_10 (by decide) rfl, ?_⟩
  refine List.forall_mem_cons.mpr ⟨so_aload_n dX7_send_13 rfl rfl, ?_⟩
  refine List.forall_mem_cons.mpr ⟨so_iload_n dX7_send_14 rfl rfl, ?_⟩
  refine List.forall_mem_cons.mpr ⟨so_cv (T := TX7) (N := 29) dX7_send_15 mv_X7_isKerb wm_X7_130 (by decide) rfl ⟨rfl, rfl⟩ (by decide) rfl, ?_⟩
  refine List.forall_mem_cons.mpr ⟨so_if_eq dX7_send_18 (by decide) rfl, ?_⟩
  refine List.forall_mem_cons.mpr ⟨so_iload_n dX7_send_21 rfl rfl, ?_⟩
  refine List.forall_mem_cons.mpr ⟨so_iconst dX7_send_22 (by decide) rfl, ?_⟩
  refine List.forall_mem_cons.mpr ⟨so_iconst dX7_send_23 (by decide) rfl, ?_⟩
  refine List.forall_mem_cons.mpr ⟨so_cs dX7_send_24 mv_X7_in wm_X7_66 ⟨rfl, rfl⟩ (by decide) rfl, ?_⟩
  refine List.forall_mem_cons.mpr ⟨so_if_ne dX7_send_27 (by decide) rfl, ?_⟩
  refine List.forall_mem_cons.mpr ⟨so_iconst dX7_send_30 (by decide) rfl, ?_⟩
  refine List.forall_mem_cons.mpr ⟨so_rI dX7_send_31 rfl, ?_⟩
  refine List.forall_mem_cons.mpr ⟨so_aload_n dX7_send_32 rfl rfl, ?_⟩
  refine List.forall_mem_cons.mpr ⟨so_gR (C := RX7) (T := TX7) (N := 29) dX7_send_33 (by decide) rfl rfl (by decide) rfl in_X7 wf_X7_31 rfl, ?_⟩
  refine List.forall_mem_cons.mpr ⟨so_bipush dX7_send_36 (by decide) rfl, ?_⟩
  refine List.forall_mem_cons.mpr ⟨so_iload_n dX7_send_38 rfl rfl, ?_⟩
  refine List.forall_mem_cons.mpr ⟨so_iadd dX7_send_39 rfl, ?_⟩
  refine List.forall_mem_cons.mpr ⟨so_iaload dX7_send_40 rfl, ?_⟩
  refine List.forall_mem_cons.mpr ⟨so_if_le dX7_send_41 (by decide) rfl, ?_⟩
  refine List.forall_mem_cons.mpr ⟨so_bipush dX7_send_44 (by decide) rfl, ?_⟩
  refine List.forall_mem_cons.mpr ⟨so_rI dX7_send_46 rfl, ?_⟩
  refine List.forall_mem_cons.mpr ⟨so_bipush dX7_send_47 (by decide) rfl, ?_⟩
  refine List.forall_mem_cons.mpr ⟨so_istore dX7_send_49 rfl, ?_⟩
  refine List.forall_mem_cons.mpr ⟨so_bipush dX7_send_51 (by decide) rfl, ?_⟩
  refine List.forall_mem_cons.mpr ⟨so_istore dX7_send_53 rfl, ?_⟩
  refine List.forall_mem_cons.mpr ⟨so_iconst dX7_send_55 (by decide) rfl, ?_⟩
  refine List.forall_mem_cons.mpr ⟨so_istore dX7_send_56 rfl, ?_⟩
  refine List.forall_mem_cons.mpr ⟨so_iload dX7_send_58 rfl, ?_⟩
  refine List.forall_mem_cons.mpr ⟨so_aload_n dX7_send_60 rfl rfl, ?_⟩
  refine List.forall_mem_cons.mpr ⟨so_gR (C := RX7) (T := TX7) (N := 29) dX7_send_61 (by decide) rfl rfl (by decide) rfl in_X7 wf_X7_13 rfl, ?_⟩
  refine List.forall_mem_cons.mpr ⟨so_iconst dX7_send_64 (by decide) rfl, ?_⟩
  refine List.forall_mem_cons.mpr ⟨so_iaload dX7_send_65 rfl, ?_⟩
  refine List.forall_mem_cons.mpr ⟨so_icmp_ge dX7_send_66 (by decide) rfl, ?_⟩
  refine List.forall_mem_cons.mpr ⟨so_aload_n dX7_send_69 rfl rfl, ?_⟩
  refine List.forall_mem_cons.mpr ⟨so_gR (C := RX7) (T := TX7) (N := 29) dX7_send_70 (by decide) rfl rfl (by decide) rfl in_X7 wf_X7_16 rfl, ?_⟩
  refine List.forall_mem_cons.mpr ⟨so_iload dX7_send_73 rfl, ?_⟩
  refine List.forall_mem_cons.mpr ⟨so_iaload dX7_send_75 rfl, ?_⟩
  refine List.forall_mem_cons.mpr ⟨so_aload_n dX7_send_76 rfl rfl, ?_⟩
  refine List.forall_mem_cons.mpr ⟨so_gR (C := RX7) (T := TX7) (N := 29) dX7_send_77 (by decide) rfl rfl (by decide) rfl in_X7 wf_X7_16 rfl, ?_⟩
  refine List.forall_mem_cons.mpr ⟨so_aload_n dX7_send_80 rfl rfl, ?_⟩
  refine List.forall_mem_cons.mpr ⟨so_gR (C := RX7) (T := TX7) (N := 29) dX7_send_81 (by decide) rfl rfl (by decide) rfl in_X7 wf_X7_31 rfl, ?_⟩
  refine List.forall_mem_cons.mpr ⟨so_iconst dX7_send_84 (by decide) rfl, ?_⟩
  refine List.forall_mem_cons.mpr ⟨so_iload_n dX7_send_85 rfl rfl, ?_⟩
  refine List.forall_mem_cons.mpr ⟨so_iadd dX7_send_86 rfl, ?_⟩
  refine List.forall_mem_cons.mpr ⟨so_iaload dX7_send_87 rfl, ?_⟩
  refine List.forall_mem_cons.mpr ⟨so_iaload dX7_send_88 rfl, ?_⟩
  refine List.forall_mem_cons.mpr ⟨so_icmp_ne dX7_send_89 (by decide) rfl, ?_⟩
  refine List.forall_mem_cons.mpr ⟨so_aload_n dX7_send_92 rfl rfl, ?_⟩
  refine List.forall_mem_cons.mpr ⟨so_iload dX7_send_93 rfl, ?_⟩
  refine List.forall_mem_cons.mpr ⟨so_pI (C := RX7) (T := TX7) (N := 29) dX7_send_95 (by decide) rfl rfl (by decide) rfl in_X7 wf_X7_146 tyX7 tyX7_ok nmX7 rfl (by decide +kernel) rfl, ?_⟩
  refine List.forall_mem_cons.mpr ⟨so_aload_n dX7_send_98 rfl rfl, ?_⟩
  refine List.forall_mem_cons.mpr ⟨so_iconst dX7_send_99 (by decide) rfl, ?_⟩
  refine List.forall_mem_cons.mpr ⟨so_pI (C := RX7) (T := TX7) (N := 29) dX7_send_100 (by decide) rfl rfl (by decide) rfl in_X7 wf_X7_143 tyX7 tyX7_ok nmX7 rfl (by decide +kernel) rfl, ?_⟩
  refine List.forall_mem_cons.mpr ⟨so_aload_n dX7_send_103 rfl rfl, ?_⟩
  refine List.forall_mem_cons.mpr ⟨so_iload_n dX7_send_104 rfl rfl, ?_⟩
  refine List.forall_mem_cons.mpr ⟨so_iconst dX7_send_105 (by decide) rfl, ?_⟩
  refine List.forall_mem_cons.mpr ⟨so_cv (T := TX7) (N := 29) dX7_send_106 mv_X7_soon wm_X7_165 (by decide) rfl ⟨rfl, rfl⟩ (by decide) rfl, ?_⟩
  refine List.forall_mem_cons.mpr ⟨so_istore dX7_send_109 rfl, ?_⟩
  refine List.forall_mem_cons.mpr ⟨so_iload dX7_send_111 rfl, ?_⟩
  refine List.forall_mem_cons.mpr ⟨so_bipush dX7_send_113 (by decide) rfl, ?_⟩
  refine List.forall_mem_cons.mpr ⟨so_icmp_eq dX7_send_115 (by decide) rfl, ?_⟩
  refine List.forall_mem_cons.mpr ⟨so_iload dX7_send_118 rfl, ?_⟩
  refine List.forall_mem_cons.mpr ⟨so_bipush dX7_send_120 (by decide) rfl, ?_⟩
  refine List.forall_mem_cons.mpr ⟨so_icmp_eq dX7_send_122 (by decide) rfl, ?_⟩
  refine List.forall_mem_cons.mpr ⟨so_iload dX7_send_125 rfl, ?_⟩
  refine List.forall_mem_cons.mpr ⟨so_iload dX7_send_127 rfl, ?_⟩
  refine List.forall_mem_cons.mpr ⟨so_icmp_ge dX7_send_129 (by decide) rfl, ?_⟩
  refine List.forall_mem_cons.mpr ⟨so_iconst dX7_send_132 (by decide) rfl, ?_⟩
  refine List.forall_mem_cons.mpr ⟨so_goto dX7_send_133 (by decide), ?_⟩
  refine List.forall_mem_cons.mpr ⟨so_iconst dX7_send_136 (by decide) rfl, ?_⟩
  refine List.forall_mem_cons.mpr ⟨so_istore dX7_send_137 rfl, ?_⟩
  refine List.forall_mem_cons.mpr ⟨so_iload dX7_send_139 rfl, ?_⟩
  refine List.forall_mem_cons.mpr ⟨so_if_eq dX7_send_141 (by decide) rfl, ?_⟩
  refine List.forall_mem_cons.mpr ⟨so_iload dX7_send_144 rfl, ?_⟩
  refine List.forall_mem_cons.mpr ⟨so_goto dX7_send_146 (by decide), ?_⟩
  refine List.forall_mem_cons.mpr ⟨so_iload dX7_send_149 rfl, ?_⟩
  refine List.forall_mem_cons.mpr ⟨so_istore dX7_send_151 rfl, ?_⟩
  refine List.forall_mem_cons.mpr ⟨so_iload dX7_send_153 rfl, ?_⟩
  refine List.forall_mem_cons.mpr ⟨so_if_eq dX7_send_155 (by decide) rfl, ?_⟩
  refine List.forall_mem_cons.mpr ⟨so_iload dX7_send_158 rfl, ?_⟩
  refine List.forall_mem_cons.mpr ⟨so_goto dX7_send_160 (by decide), ?_⟩
  refine List.forall_mem_cons.mpr ⟨so_iload dX7_send_163 rfl, ?_⟩
  refine List.forall_mem_cons.mpr ⟨so_istore dX7_send_165 rfl, ?_⟩
  refine List.forall_mem_cons.mpr ⟨so_iinc dX7_send_167 (by decide) rfl, ?_⟩
  refine List.forall_mem_cons.mpr ⟨so_goto dX7_send_170 (by decide), ?_⟩
  refine List.forall_mem_cons.mpr ⟨so_iload dX7_send_173 rfl, ?_⟩
  refine List.forall_mem_cons.mpr ⟨so_bipush dX7_send_175 (by decide) rfl, ?_⟩
  refine List.forall_mem_cons.mpr ⟨so_icmp_eq dX7_send_177 (by decide) rfl, ?_⟩
  refine List.forall_mem_cons.mpr ⟨so_iload_n dX7_send_180 rfl rfl, ?_⟩
  refine List.forall_mem_cons.mpr ⟨so_if_ne dX7_send_181 (by decide) rfl, ?_⟩
  refine List.forall_mem_cons.mpr ⟨so_iload dX7_send_184 rfl, ?_⟩
  refine List.forall_mem_cons.mpr ⟨so_goto dX7_send_186 (by decide), ?_⟩
  refine List.forall_mem_cons.mpr ⟨so_aload_n dX7_send_189 rfl rfl, ?_⟩
  refine List.forall_mem_cons.mpr ⟨so_gR (C := RX7) (T := TX7) (N := 29) dX7_send_190 (by decide) rfl rfl (by decide) rfl in_X7 wf_X7_31 rfl, ?_⟩
  refine List.forall_mem_cons.mpr ⟨so_iconst dX7_send_193 (by decide) rfl, ?_⟩
  refine List.forall_mem_cons.mpr ⟨so_iaload dX7_send_194 rfl, ?_⟩
  refine List.forall_mem_cons.mpr ⟨so_iload dX7_send_195 rfl, ?_⟩
  refine List.forall_mem_cons.mpr ⟨so_iadd dX7_send_197 rfl, ?_⟩
  refine List.forall_mem_cons.mpr ⟨so_rI dX7_send_198 rfl, ?_⟩
  exact fun _ h => absurd h List.not_mem_nil
theorem dX7_meet_0 : decode cX7_meet 0 = .ok (.aload_n 0, 1) := by decide +kernel
theorem dX7_meet_1 : decode cX7_meet 1 = .ok (.iconst 0, 1) := by decide +kernel
theorem dX7_meet_2 : decode cX7_meet 2 = .ok (.putfield 62, 3) := by decide +kernel
theorem dX7_meet_5 : decode cX7_meet 5 = .ok (.aload_n 0, 1) := by decide +kernel
theorem dX7_meet_6 : decode cX7_meet 6 = .ok (.iload_n 1, 1) := by decide +kernel
theorem dX7_meet_7 : decode cX7_meet 7 = .ok (.invokevirtual 137, 3) := by decide +kernel
theorem dX7_meet_10 : decode cX7_meet 10 = .ok (.ifCond .eq 16, 3) := by decide +kernel
theorem dX7_meet_13 : decode cX7_meet 13 = .ok (.aload_n 0, 1) := by decide +kernel
theorem dX7_meet_14 : decode cX7_meet 14 = .ok (.iload_n 2, 1) := by decide +kernel
theorem dX7_meet_15 : decode cX7_meet 15 = .ok (.invokevirtual 137, 3) := by decide +kernel
theorem dX7_meet_18 : decode cX7_meet 18 = .ok (.ifCond .eq 8, 3) := by decide +kernel
theorem dX7_meet_21 : decode cX7_meet 21 = .ok (.iload_n 1, 1) := by decide +kernel
theorem dX7_meet_22 : decode cX7_meet 22 = .ok (.iload_n 2, 1) := by decide +kernel
theorem dX7_meet_23 : decode cX7_meet 23 = .ok (.if_icmp .ne 5, 3) := by decide +kernel
theorem dX7_meet_26 : decode cX7_meet 26 = .ok (.iconst (-1), 1) := by decide +kernel
theorem dX7_meet_27 : decode cX7_meet 27 = .ok (.ireturn, 1) := by decide +kernel
theorem dX7_meet_28 : decode cX7_meet 28 = .ok (.aload_n 0, 1) := by decide +kernel
theorem dX7_meet_29 : decode cX7_meet 29 = .ok (.iload_n 2, 1) := by decide +kernel
theorem dX7_meet_30 : decode cX7_meet 30 = .ok (.invokevirtual 152, 3) := by decide +kernel
theorem dX7_meet_33 : decode cX7_meet 33 = .ok (.aload_n 0, 1) := by decide +kernel
theorem dX7_meet_34 : decode cX7_meet 34 = .ok (.getfield 146, 3) := by decide +kernel
theorem dX7_meet_37 : decode cX7_meet 37 = .ok (.istore_n 3, 1) := by decide +kernel
theorem dX7_meet_38 : decode cX7_meet 38 = .ok (.aload_n 0, 1) := by decide +kernel
theorem dX7_meet_39 : decode cX7_meet 39 = .ok (.getfield 143, 3) := by decide +kernel
theorem dX7_meet_42 : decode cX7_meet 42 = .ok (.istore 4, 2) := by decide +kernel
theorem dX7_meet_44 : decode cX7_meet 44 = .ok (.aload_n 0, 1) := by decide +kernel
theorem dX7_meet_45 : decode cX7_meet 45 = .ok (.iload_n 1, 1) := by decide +kernel
theorem dX7_meet_46 : decode cX7_meet 46 = .ok (.invokevirtual 152, 3) := by decide +kernel
theorem dX7_meet_49 : decode cX7_meet 49 = .ok (.iconst 0, 1) := by decide +kernel
theorem dX7_meet_50 : decode cX7_meet 50 = .ok (.istore 5, 2) := by decide +kernel
theorem dX7_meet_52 : decode cX7_meet 52 = .ok (.iload 5, 2) := by decide +kernel
theorem dX7_meet_54 : decode cX7_meet 54 = .ok (.sipush 400, 3) := by decide +kernel
theorem dX7_meet_57 : decode cX7_meet 57 = .ok (.if_icmp .gt 137, 3) := by decide +kernel
theorem dX7_meet_60 : decode cX7_meet 60 = .ok (.aload_n 0, 1) := by decide +kernel
theorem dX7_meet_61 : decode cX7_meet 61 = .ok (.getfield 143, 3) := by decide +kernel
theorem dX7_meet_64 : decode cX7_meet 64 = .ok (.ifCond .ne 26, 3) := by decide +kernel
theorem dX7_meet_67 : decode cX7_meet 67 = .ok (.iload 4, 2) := by decide +kernel
theorem dX7_meet_69 : decode cX7_meet 69 = .ok (.ifCond .ne 21, 3) := by decide +kernel
theorem dX7_meet_72 : decode cX7_meet 72 = .ok (.aload_n 0, 1) := by decide +kernel
theorem dX7_meet_73 : decode cX7_meet 73 = .ok (.getfield 146, 3) := by decide +kernel
theorem dX7_meet_76 : decode cX7_meet 76 = .ok (.iload_n 3, 1) := by decide +kernel
theorem dX7_meet_77 : decode cX7_meet 77 = .ok (.if_icmp .ne 13, 3) := by decide +kernel
theorem dX7_meet_80 : decode cX7_meet 80 = .ok (.aload_n 0, 1) := by decide +kernel
theorem dX7_meet_81 : decode cX7_meet 81 = .ok (.getfield 31, 3) := by decide +kernel
theorem dX7_meet_84 : decode cX7_meet 84 = .ok (.iconst 0, 1) := by decide +kernel
theorem dX7_meet_85 : decode cX7_meet 85 = .ok (.iaload, 1) := by decide +kernel
theorem dX7_meet_86 : decode cX7_meet 86 = .ok (.iload 5, 2) := by decide +kernel
theorem dX7_meet_88 : decode cX7_meet 88 = .ok (.iadd, 1) := by decide +kernel
theorem dX7_meet_89 : decode cX7_meet 89 = .ok (.ireturn, 1) := by decide +kernel
theorem dX7_meet_90 : decode cX7_meet 90 = .ok (.aload_n 0, 1) := by decide +kernel
theorem dX7_meet_91 : decode cX7_meet 91 = .ok (.iload_n 1, 1) := by decide +kernel
theorem dX7_meet_92 : decode cX7_meet 92 = .ok (.invokevirtual 155, 3) := by decide +kernel
theorem dX7_meet_95 : decode cX7_meet 95 = .ok (.ifCond .ne 21, 3) := by decide +kernel
theorem dX7_meet_98 : decode cX7_meet 98 = .ok (.aload_n 0, 1) := by decide +kernel
theorem dX7_meet_99 : decode cX7_meet 99 = .ok (.aload_n 0, 1) := by decide +kernel
theorem dX7_meet_100 : decode cX7_meet 100 = .ok (.aload_n 0, 1) := by decide +kernel
theorem dX7_meet_101 : decode cX7_meet 101 = .ok (.getfield 31, 3) := by decide +kernel
theorem dX7_meet_104 : decode cX7_meet 104 = .ok (.iconst 0, 1) := by decide +kernel
theorem dX7_meet_105 : decode cX7_meet 105 = .ok (.iaload, 1) := by decide +kernel
theorem dX7_meet_106 : decode cX7_meet 106 = .ok (.iload 5, 2) := by decide +kernel
theorem dX7_meet_108 : decode cX7_meet 108 = .ok (.iadd, 1) := by decide +kernel
theorem dX7_meet_109 : decode cX7_meet 109 = .ok (.invokevirtual 127, 3) := by decide +kernel
theorem dX7_meet_112 : decode cX7_meet 112 = .ok (.invokevirtual 158, 3) := by decide +kernel
theorem dX7_meet_115 : decode cX7_meet 115 = .ok (.pop, 1) := by decide +kernel
theorem dX7_meet_116 : decode cX7_meet 116 = .ok (.aload_n 0, 1) := by decide +kernel
theorem dX7_meet_117 : decode cX7_meet 117 = .ok (.getfield 146, 3) := by decide +kernel
theorem dX7_meet_120 : decode cX7_meet 120 = .ok (.istore 6, 2) := by decide +kernel
theorem dX7_meet_122 : decode cX7_meet 122 = .ok (.aload_n 0, 1) := by decide +kernel
theorem dX7_meet_123 : decode cX7_meet 123 = .ok (.getfield 143, 3) := by decide +kernel
theorem dX7_meet_126 : decode cX7_meet 126 = .ok (.istore 7, 2) := by decide +kernel
theorem dX7_meet_128 : decode cX7_meet 128 = .ok (.aload_n 0, 1) := by decide +kernel
theorem dX7_meet_129 : decode cX7_meet 129 = .ok (.iload_n 3, 1) := by decide +kernel
theorem dX7_meet_130 : decode cX7_meet 130 = .ok (.putfield 146, 3) := by decide +kernel
theorem dX7_meet_133 : decode cX7_meet 133 = .ok (.aload_n 0, 1) := by decide +kernel
theorem dX7_meet_134 : decode cX7_meet 134 = .ok (.iload 4, 2) := by decide +kernel
theorem dX7_meet_136 : decode cX7_meet 136 = .ok (.putfield 143, 3) := by decide +kernel
theorem dX7_meet_139 : decode cX7_meet 139 = .ok (.aload_n 0, 1) := by decide +kernel
theorem dX7_meet_140 : decode cX7_meet 140 = .ok (.iload_n 2, 1) := by decide +kernel
theorem dX7_meet_141 : decode cX7_meet 141 = .ok (.invokevirtual 155, 3) := by decide +kernel
theorem dX7_meet_144 : decode cX7_meet 144 = .ok (.ifCond .ne 21, 3) := by decide +kernel
theorem dX7_meet_147 : decode cX7_meet 147 = .ok (.aload_n 0, 1) := by decide +kernel
theorem dX7_meet_148 : decode cX7_meet 148 = .ok (.aload_n 0, 1) := by decide +kernel
theorem dX7_meet_149 : decode cX7_meet 149 = .ok (.aload_n 0, 1) := by decide +kernel
theorem dX7_meet_150 : decode cX7_meet 150 = .ok (.getfield 31, 3) := by decide +kernel
theorem dX7_meet_153 : decode cX7_meet 153 = .ok (.iconst 0, 1) := by decide +kernel
theorem dX7_meet_154 : decode cX7_meet 154 = .ok (.iaload, 1) := by decide +kernel
theorem dX7_meet_155 : decode cX7_meet 155 = .ok (.iload 5, 2) := by decide +kernel
theorem dX7_meet_157 : decode cX7_meet 157 = .ok (.iadd, 1) := by decide +kernel
theorem dX7_meet_158 : decode cX7_meet 158 = .ok (.invokevirtual 127, 3) := by decide +kernel
theorem dX7_meet_161 : decode cX7_meet 161 = .ok (.invokevirtual 158, 3) := by decide +kernel
theorem dX7_meet_164 : decode cX7_meet 164 = .ok (.pop, 1) := by decide +kernel
theorem dX7_meet_165 : decode cX7_meet 165 = .ok (.aload_n 0, 1) := by decide +kernel
theorem dX7_meet_166 : decode cX7_meet 166 = .ok (.getfield 146, 3) := by decide +kernel
theorem dX7_meet_169 : decode cX7_meet 169 = .ok (.istore_n 3, 1) := by decide +kernel
theorem dX7_meet_170 : decode cX7_meet 170 = .ok (.aload_n 0, 1) := by decide +kernel
theorem dX7_meet_171 : decode cX7_meet 171 = .ok (.getfield 143, 3) := by decide +kernel
theorem dX7_meet_174 : decode cX7_meet 174 = .ok (.istore 4, 2) := by decide +kernel
theorem dX7_meet_176 : decode cX7_meet 176 = .ok (.aload_n 0, 1) := by decide +kernel
theorem dX7_meet_177 : decode cX7_meet 177 = .ok (.iload 6, 2) := by decide +kernel
theorem dX7_meet_179 : decode cX7_meet 179 = .ok (.putfield 146, 3) := by decide +kernel
theorem dX7_meet_182 : decode cX7_meet 182 = .ok (.aload_n 0, 1) := by decide +kernel
theorem dX7_meet_183 : decode cX7_meet 183 = .ok (.iload 7, 2) := by decide +kernel
theorem dX7_meet_185 : decode cX7_meet 185 = .ok (.putfield 143, 3) := by decide +kernel
theorem dX7_meet_188 : decode cX7_meet 188 = .ok (.iinc 5 1, 3) := by decide +kernel
theorem dX7_meet_191 : decode cX7_meet 191 = .ok (.goto (-139), 3) := by decide +kernel
theorem dX7_meet_194 : decode cX7_meet 194 = .ok (.bipush (-9), 2) := by decide +kernel
theorem dX7_meet_196 : decode cX7_meet 196 = .ok (.ireturn, 1) := by decide +kernel
def T_X7_meet : tk_Tb := [(0, tk_al 0 1), (1, tk_ic (0) 2), (2, tk_pI 7 0 5), (5, tk_al 0 6), (6, tk_il 1 7), (7, tk_cv 7 M_X7_isThing 1 10), (10, tk_br (fun x => x = 0) 26 13), (13, tk_al 0 14), (14, tk_il 2 15), (15, tk_cv 7 M_X7_isThing 1 18), (18, tk_br (fun x => x = 0) 26 21), (21, tk_il 1 22), (22, tk_il 2 23), (23, tk_cm (fun x y => x = y) 26 28), (26, tk_ic (-1) 27), (27, tk_rI), (28, tk_al 0 29), (29, tk_il 2 30), (30, tk_cv 7 M_X7_takesUp 1 33), (33, tk_al 0 34), (34, tk_gI 7 27 37), (37, tk_sI 3 38), (38, tk_al 0 39), (39, tk_gI 7 28 42), (42, tk_sI 4 44), (44, tk_al 0 45), (45, tk_il 1 46), (46, tk_cv 7 M_X7_takesUp 1 49), (49, tk_ic (0) 50), (50, tk_sI 5 52), (52, tk_il 5 54), (54, tk_ic (400) 57), (57, tk_cm (fun x y => y < x) 194 60), (60, tk_al 0 61), (61, tk_gI 7 28 64), (64, tk_br (fun x => x = 0) 67 90), (67, tk_il 4 69), (69, tk_br (fun x => x = 0) 72 90), (72, tk_al 0 73), (73, tk_gI 7 27 76), (76, tk_il 3 77), (77, tk_cm (fun x y => x = y) 80 90), (80, tk_al 0 81), (81, tk_gR 7 16 84), (84, tk_ic (0) 85), (85, tk_ai 9 86), (86, tk_il 5 88), (88, tk_bi (fun x y => x + y) 89), (89, tk_rI), (90, tk_al 0 91), (91, tk_il 1 92), (92, tk_cv 7 M_X7_isTied 1 95), (95, tk_br (fun x => x = 0) 98 116), (98, tk_al 0 99), (99, tk_al 0 100), (100, tk_al 0 101), (101, tk_gR 7 16 104), (104, tk_ic (0) 105), (105, tk_ai 9 106), (106, tk_il 5 108), (108, tk_bi (fun x y => x + y) 109), (109, tk_cv 7 M_X7_levelOf 1 112), (112, tk_cv 7 M_X7_goes 1 115), (115, tk_pp 116), (116, tk_al 0 117), (117, tk_gI 7 27 120), (120, tk_sI 6 122), (122, tk_al 0 123), (123, tk_gI 7 28 126), (126, tk_sI 7 128), (128, tk_al 0 129), (129, tk_il 3 130), (130, tk_pI 7 27 133), (133, tk_al 0 134), (134, tk_il 4 136), (136, tk_pI 7 28 139), (139, tk_al 0 140), (140, tk_il 2 141), (141, tk_cv 7 M_X7_isTied 1 144), (144, tk_br (fun x => x = 0) 147 165), (147, tk_al 0 148), (148, tk_al 0 149), (149, tk_al 0 150), (150, tk_gR 7 16 153), (153, tk_ic (0) 154), (154, tk_ai 9 155), (155, tk_il 5 157), (157, tk_bi (fun x y => x + y) 158), (158, tk_cv 7 M_X7_levelOf 1 161), (161, tk_cv 7 M_X7_goes 1 164), (164, tk_pp 165), (165, tk_al 0 166), (166, tk_gI 7 27 169), (169, tk_sI 3 170), (170, tk_al 0 171), (171, tk_gI 7 28 174), (174, tk_sI 4 176), (176, tk_al 0 177), (177, tk_il 6 179), (179, tk_pI 7 27 182), (182, tk_al 0 183), (183, tk_il 7 185), (185, tk_pI 7 28 188), (188, tk_inc 5 (1) 191), (191, tk_jmp 52), (194, tk_ic (-9) 196), (196, tk_rI)]
set_option maxRecDepth 100000 in
theorem hT_X7_meet (sc : Option (Nat × (Nat → Int32))) : ∀ x ∈ T_X7_meet, tk_So sc M_X7_meet x.1 x.2 := by
  unfold T_X7_meet
  refine List.forall_mem_cons.mpr ⟨so_aload_n dX7_meet_0 rfl rfl, ?_⟩
  refine List.forall_mem_cons.mpr ⟨so_iconst dX7_meet_1 (by decide) rfl, ?_⟩
  refine List.forall_mem_cons.mpr ⟨so_pI (C := RX7) (T := TX7) (N := 29) dX7_meet_2 (by decide) rfl rfl (by decide) rfl in_X7 wf_X7_62 tyX7 tyX7_ok nmX7 rfl (by decide +kernel) rfl, ?_⟩
  refine List.forall_mem_cons.mpr ⟨so_aload_n dX7_meet_5 rfl rfl, ?_⟩
  refine List.forall_mem_cons.mpr ⟨so_iload_n dX7_meet_6 rfl rfl, ?_⟩
  refine List.forall_mem_cons.mpr ⟨so_cv (T := TX7) (N := 29) dX7_meet_7 mv_X7_isThing wm_X7_137 (by decide) rfl ⟨rfl, rfl⟩ (by decide) rfl, ?_⟩
  refine List.forall_mem_cons.mpr ⟨so_if_eq dX7_meet_10 (by decide) rfl, ?_⟩
  refine List.forall_mem_cons.mpr ⟨so_aload_n dX7_meet_13 rfl rfl, ?_⟩
  refine List.forall_mem_cons.mpr ⟨so_iload_n dX7_meet_14 rfl rfl, ?_⟩
  refine List.forall_mem_cons.mpr ⟨so_cv (T := TX7) (N := 29) dX7_meet_15 mv_X7_isThing wm_X7_137 (by decide) rfl ⟨rfl, rfl⟩ (by decide) rfl, ?_⟩
  refine List.forall_mem_cons.mpr ⟨so_if_eq dX7_meet_18 (by decide) rfl, ?_⟩
  refine List.forall_mem_cons.mpr ⟨so_iload_n dX7_meet_21 rfl rfl, ?_⟩
  refine List.forall_mem_cons.mpr ⟨so_iload_n dX7_meet_22 rfl rfl, ?_⟩
  refine List.forall_mem_cons.mpr ⟨so_icmp_ne dX7_meet_23 (by decide) rfl, ?_⟩
  refine List.forall_mem_cons.mpr ⟨so_iconst dX7_meet_26 (by decide) rfl, ?_⟩
  refine List.forall_mem_cons.mpr ⟨so_rI dX7_meet_27 rfl, ?_⟩
  refine List.forall_mem_cons.mpr ⟨so_aload_n dX7_meet_28 rfl rfl, ?_⟩
  refine List.forall_mem_cons.mpr ⟨so_iload_n dX7_meet_29 rfl rfl, ?_⟩
  refine List.forall_mem_cons.mpr ⟨so_cv (T := TX7) (N := 29) dX7_meet_30 mv_X7_takesUp wm_X7_152 (by decide) rfl ⟨rfl, rfl⟩ (by decide) rfl, ?_⟩
  refine List.forall_mem_cons.mpr ⟨so_aload_n dX7_meet_33 rfl rfl, ?_⟩
  refine List.forall_mem_cons.mpr ⟨so_gI (C := RX7) (T := TX7) (N := 29) dX7_meet_34 (by decide) rfl rfl (by decide) rfl in_X7 wf_X7_146 rfl, ?_⟩
  refine List.forall_mem_cons.mpr ⟨so_istore_n dX7_meet_37 rfl rfl, ?_⟩
  refine List.forall_mem_cons.mpr ⟨so_aload_n dX7_meet_38 rfl rfl, ?_⟩
  refine List.forall_mem_cons.mpr ⟨so_gI (C := RX7) (T := TX7) (N := 29) dX7_meet_39 (by decide) rfl rfl (by decide) rfl in_X7 wf_X7_143 rfl, ?_⟩
  refine List.forall_mem_cons.mpr ⟨so_istore dX7_meet_42 rfl, ?_⟩
  refine List.forall_mem_cons.mpr ⟨so_aload_n dX7_meet_44 rfl rfl, ?_⟩
  refine List.forall_mem_cons.mpr ⟨so_iload_n dX7_meet_45 rfl rfl, ?_⟩
  refine List.forall_mem_cons.mpr ⟨so_cv (T := TX7) (N := 29) dX7_meet_46 mv_X7_takesUp wm_X7_152 (by decide) rfl ⟨rfl, rfl⟩ (by decide) rfl, ?_⟩
  refine List.forall_mem_cons.mpr ⟨so_iconst dX7_meet_49 (by decide) rfl, ?_⟩
  refine List.forall_mem_cons.mpr ⟨so_istore dX7_meet_50 rfl, ?_⟩
  refine List.forall_mem_cons.mpr ⟨so_iload dX7_meet_52 rfl, ?_⟩
  refine List.forall_mem_cons.mpr ⟨so_sipush dX7_meet_54 (by decide) rfl, ?_⟩
  refine List.forall_mem_cons.mpr ⟨so_icmp_gt dX7_meet_57 (by decide) rfl, ?_⟩
  refine List.forall_mem_cons.mpr ⟨so_aload_n dX7_meet_60 rfl rfl, ?_⟩
  refine List.forall_mem_cons.mpr ⟨so_gI (C := RX7) (T := TX7) (N := 29) dX7_meet_61 (by decide) rfl rfl (by decide) rfl in_X7 wf_X7_143 rfl, ?_⟩
  refine List.forall_mem_cons.mpr ⟨so_if_ne dX7_meet_64 (by decide) rfl, ?_⟩
  refine List.forall_mem_cons.mpr ⟨so_iload dX7_meet_67 rfl, ?_⟩
  refine List.forall_mem_cons.mpr ⟨so_if_ne dX7_meet_69 (by decide) rfl, ?_⟩
  refine List.forall_mem_cons.mpr ⟨so_aload_n dX7_meet_72 rfl rfl, ?_⟩
  refine List.forall_mem_cons.mpr ⟨so_gI (C := RX7) (T := TX7) (N := 29) dX7_meet_73 (by decide) rfl rfl (by decide) rfl in_X7 wf_X7_146 rfl, ?_⟩
  refine List.forall_mem_cons.mpr ⟨so_iload_n dX7_meet_76 rfl rfl, ?_⟩
  refine List.forall_mem_cons.mpr ⟨so_icmp_ne dX7_meet_77 (by decide) rfl, ?_⟩
  refine List.forall_mem_cons.mpr ⟨so_aload_n dX7_meet_80 rfl rfl, ?_⟩
  refine List.forall_mem_cons.mpr ⟨so_gR (C := RX7) (T := TX7) (N := 29) dX7_meet_81 (by decide) rfl rfl (by decide) rfl in_X7 wf_X7_31 rfl, ?_⟩
  refine List.forall_mem_cons.mpr ⟨so_iconst dX7_meet_84 (by decide) rfl, ?_⟩
  refine List.forall_mem_cons.mpr ⟨so_iaload dX7_meet_85 rfl, ?_⟩
  refine List.forall_mem_cons.mpr ⟨so_iload dX7_meet_86 rfl, ?_⟩
  refine List.forall_mem_cons.mpr ⟨so_iadd dX7_meet_88 rfl, ?_⟩
  refine List.forall_mem_cons.mpr ⟨so_rI dX7_meet_89 rfl, ?_⟩
  refine List.forall_mem_cons.mpr ⟨so_aload_n dX7_meet_90 rfl rfl, ?_⟩
  refine List.forall_mem_cons.mpr ⟨so_iload_n dX7_meet_91 rfl rfl, ?_⟩
  refine List.forall_mem_cons.mpr ⟨so_cv (T := TX7) (N := 29) dX7_meet_92 mv_X7_isTied wm_X7_155 (by decide) rfl ⟨rfl, rfl⟩ (by decide) rfl, ?_⟩
  refine List.forall_mem_cons.mpr ⟨so_if_ne dX7_meet_95 (by decide) rfl, ?_⟩
  refine List.forall_mem_cons.mpr ⟨so_aload_n dX7_meet_98 rfl rfl, ?_⟩
  refine List.forall_mem_cons.mpr ⟨so_aload_n dX7_meet_99 rfl rfl, ?_⟩
  refine List.forall_mem_cons.mpr ⟨so_aload_n dX7_meet_100 rfl rfl, ?_⟩
  refine List.forall_mem_cons.mpr ⟨so_gR (C := RX7) (T := TX7) (N := 29) dX7_meet_101 (by decide) rfl rfl (by decide) rfl in_X7 wf_X7_31 rfl, ?_⟩
  refine List.forall_mem_cons.mpr ⟨so_iconst dX7_meet_104 (by decide) rfl, ?_⟩
  refine List.forall_mem_cons.mpr ⟨so_iaload dX7_meet_105 rfl, ?_⟩
  refine List.forall_mem_cons.mpr ⟨so_iload dX7_meet_106 rfl, ?_⟩
  refine List.forall_mem_cons.mpr ⟨so_iadd dX7_meet_108 rfl, ?_⟩
  refine List.forall_mem_cons.mpr ⟨so_cv (T := TX7) (N := 29) dX7_meet_109 mv_X7_levelOf wm_X7_127 (by decide) rfl ⟨rfl, rfl⟩ (by decide) rfl, ?_⟩
  refine List.forall_mem_cons.mpr ⟨so_cv (T := TX7) (N := 29) dX7_meet_112 mv_X7_goes wm_X7_158 (by decide) rfl ⟨rfl, rfl⟩ (by decide) rfl, ?_⟩
  refine List.forall_mem_cons.mpr ⟨so_pop dX7_meet_115 rfl, ?_⟩
  refine List.forall_mem_cons.mpr ⟨so_aload_n dX7_meet_116 rfl rfl, ?_⟩
  refine List.forall_mem_cons.mpr ⟨so_gI (C := RX7) (T := TX7) (N := 29) dX7_meet_117 (by decide) rfl rfl (by decide) rfl in_X7 wf_X7_146 rfl, ?_⟩
  refine List.forall_mem_cons.mpr ⟨so_istore dX7_meet_120 rfl, ?_⟩
  refine List.forall_mem_cons.mpr ⟨so_aload_n dX7_meet_122 rfl rfl, ?_⟩
  refine List.forall_mem_cons.mpr ⟨so_gI (C := RX7) (T := TX7) (N := 29) dX7_meet_123 (by decide) rfl rfl (by decide) rfl in_X7 wf_X7_143 rfl, ?_⟩
  refine List.forall_mem_cons.mpr ⟨so_istore dX7_meet_126 rfl, ?_⟩
  refine List.forall_mem_cons.mpr ⟨so_aload_n dX7_meet_128 rfl rfl, ?_⟩
  refine List.forall_mem_cons.mpr ⟨so_iload_n dX7_meet_129 rfl rfl, ?_⟩
  refine List.forall_mem_cons.mpr ⟨so_pI (C := RX7) (T := TX7) (N := 29) dX7_meet_130 (by decide) rfl rfl (by decide) rfl in_X7 wf_X7_146 tyX7 tyX7_ok nmX7 rfl (by decide +kernel) rfl, ?_⟩
  refine List.forall_mem_cons.mpr ⟨so_aload_n dX7_meet_133 rfl rfl, ?_⟩
  refine List.forall_mem_cons.mpr ⟨so_iload dX7_meet_134 rfl, ?_⟩
  refine List.forall_mem_cons.mpr ⟨so_pI (C := RX7) (T := TX7) (N := 29) dX7_meet_136 (by decide) rfl rfl (by decide) rfl in_X7 wf_X7_143 tyX7 tyX7_ok nmX7 rfl (by decide +kernel) rfl, ?_⟩
  refine List.forall_mem_cons.mpr ⟨so_aload_n dX7_meet_139 rfl rfl, ?_⟩
  refine List.forall_mem_cons.mpr ⟨so_iload_n dX7_meet_140 rfl rfl, ?_⟩
  refine List.forall_mem_cons.mpr ⟨so_cv (T := TX7) (N := 29) dX7_meet_141 mv_X7_isTied wm_X7_155 (by decide) rfl ⟨rfl, rfl⟩ (by decide) rfl, ?_⟩
  refine List.forall_mem_cons.mpr ⟨so_if_ne dX7_meet_144 (by decide) rfl, ?_⟩
  refine List.forall_mem_cons.mpr ⟨so_aload_n dX7_meet_147 rfl rfl, ?_⟩
  refine List.forall_mem_cons.mpr ⟨so_aload_n dX7_meet_148 rfl rfl, ?_⟩
  refine List.forall_mem_cons.mpr ⟨so_aload_n dX7_meet_149 rfl rfl, ?_⟩
  refine List.forall_mem_cons.mpr ⟨so_gR (C := RX7) (T := TX7) (N := 29) dX7_meet_150 (by decide) rfl rfl (by decide) rfl in_X7 wf_X7_31 rfl, ?_⟩
  refine List.forall_mem_cons.mpr ⟨so_iconst dX7_meet_153 (by decide) rfl, ?_⟩
  refine List.forall_mem_cons.mpr ⟨so_iaload dX7_meet_154 rfl, ?_⟩
  refine List.forall_mem_cons.mpr ⟨so_iload dX7_meet_155 rfl, ?_⟩
  refine List.forall_mem_cons.mpr ⟨so_iadd dX7_meet_157 rfl, ?_⟩
  refine List.forall_mem_cons.mpr ⟨so_cv (T := TX7) (N := 29) dX7_meet_158 mv_X7_levelOf wm_X7_127 (by decide) rfl ⟨rfl, rfl⟩ (by decide) rfl, ?_⟩
  refine List.forall_mem_cons.mpr ⟨so_cv (T := TX7) (N := 29) dX7_meet_161 mv_X7_goes wm_X7_158 (by decide) rfl ⟨rfl, rfl⟩ (by decide) rfl, ?_⟩
  refine List.forall_mem_cons.mpr ⟨so_pop dX7_meet_164 rfl, ?_⟩
  refine List.forall_mem_cons.mpr ⟨so_aload_n dX7_meet_165 rfl rfl, ?_⟩
  refine List.forall_mem_cons.mpr ⟨so_gI (C := RX7) (T := TX7) (N := 29) dX7_meet_166 (by decide) rfl rfl (by decide) rfl in_X7 wf_X7_146 rfl, ?_⟩
  refine List.forall_mem_cons.mpr ⟨so_istore_n dX7_meet_169 rfl rfl, ?_⟩
  refine List.forall_mem_cons.mpr ⟨so_aload_n dX7_meet_170 rfl rfl, ?_⟩
  refine List.forall_mem_cons.mpr ⟨so_gI (C := RX7) (T := TX7) (N := 29) dX7_meet_171 (by decide) rfl rfl (by decide) rfl in_X7 wf_X7_143 rfl, ?_⟩
  refine List.forall_mem_cons.mpr ⟨so_istore dX7_meet_174 rfl, ?_⟩
  refine List.forall_mem_cons.mpr ⟨so_aload_n dX7_meet_176 rfl rfl, ?_⟩
  refine List.forall_mem_cons.mpr ⟨so_iload dX7_meet_177 rfl, ?_⟩
  refine List.forall_mem_cons.mpr ⟨so_pI (C := RX7) (T := TX7) (N := 29) dX7_meet_179 (by decide) rfl rfl (by decide) rfl in_X7 wf_X7_146 tyX7 tyX7_ok nmX7 rfl (by decide +kernel) rfl, ?_⟩
  refine List.forall_mem_cons.mpr ⟨so_aload_n dX7_meet_182 rfl rfl, ?_⟩
  refine List.forall_mem_cons.mpr ⟨so_iload dX7_meet_183 rfl, ?_⟩
  refine List.forall_mem_cons.mpr ⟨so_pI (C := RX7) (T := TX7) (N := 29) dX7_meet_185 (by decide) rfl rfl (by decide) rfl in_X7 wf_X7_143 tyX7 tyX7_ok nmX7 rfl (by decide +kernel) rfl, ?_⟩
  refine List.forall_mem_cons.mpr ⟨so_iinc dX7_meet_188 (by decide) rfl, ?_⟩
  refine List.forall_mem_cons.mpr ⟨so_goto dX7_meet_191 (by decide), ?_⟩
  refine List.forall_mem_cons.mpr ⟨so_bipush dX7_meet_194 (by decide) rfl, ?_⟩
  refine List.forall_mem_cons.mpr ⟨so_rI dX7_meet_196 rfl, ?_⟩
  exact fun _ h => absurd h List.not_mem_nil
theorem dX7_round_0 : decode cX7_round 0 = .ok (.aload_n 0, 1) := by decide +kernel
theorem dX7_round_1 : decode cX7_round 1 = .ok (.iconst 0, 1) := by decide +kernel
theorem dX7_round_2 : decode cX7_round 2 = .ok (.putfield 62, 3) := by decide +kernel
theorem dX7_round_5 : decode cX7_round 5 = .ok (.aload_n 0, 1) := by decide +kernel
theorem dX7_round_6 : decode cX7_round 6 = .ok (.iload_n 1, 1) := by decide +kernel
theorem dX7_round_7 : decode cX7_round 7 = .ok (.invokevirtual 137, 3) := by decide +kernel
theorem dX7_round_10 : decode cX7_round 10 = .ok (.ifCond .ne 5, 3) := by decide +kernel
theorem dX7_round_13 : decode cX7_round 13 = .ok (.iconst (-1), 1) := by decide +kernel
theorem dX7_round_14 : decode cX7_round 14 = .ok (.ireturn, 1) := by decide +kernel
theorem dX7_round_15 : decode cX7_round 15 = .ok (.aload_n 0, 1) := by decide +kernel
theorem dX7_round_16 : decode cX7_round 16 = .ok (.iload_n 1, 1) := by decide +kernel
theorem dX7_round_17 : decode cX7_round 17 = .ok (.invokevirtual 155, 3) := by decide +kernel
theorem dX7_round_20 : decode cX7_round 20 = .ok (.ifCond .eq 10, 3) := by decide +kernel
theorem dX7_round_23 : decode cX7_round 23 = .ok (.aload_n 0, 1) := by decide +kernel
theorem dX7_round_24 : decode cX7_round 24 = .ok (.getfield 13, 3) := by decide +kernel
theorem dX7_round_27 : decode cX7_round 27 = .ok (.iconst 2, 1) := by decide +kernel
theorem dX7_round_28 : decode cX7_round 28 = .ok (.iaload, 1) := by decide +kernel
theorem dX7_round_29 : decode cX7_round 29 = .ok (.ireturn, 1) := by decide +kernel
theorem dX7_round_30 : decode cX7_round 30 = .ok (.aload_n 0, 1) := by decide +kernel
theorem dX7_round_31 : decode cX7_round 31 = .ok (.iload_n 1, 1) := by decide +kernel
theorem dX7_round_32 : decode cX7_round 32 = .ok (.invokevirtual 152, 3) := by decide +kernel
theorem dX7_round_35 : decode cX7_round 35 = .ok (.aload_n 0, 1) := by decide +kernel
theorem dX7_round_36 : decode cX7_round 36 = .ok (.getfield 31, 3) := by decide +kernel
theorem dX7_round_39 : decode cX7_round 39 = .ok (.iconst 0, 1) := by decide +kernel
theorem dX7_round_40 : decode cX7_round 40 = .ok (.iaload, 1) := by decide +kernel
theorem dX7_round_41 : decode cX7_round 41 = .ok (.istore_n 2, 1) := by decide +kernel
theorem dX7_round_42 : decode cX7_round 42 = .ok (.iconst 0, 1) := by decide +kernel
theorem dX7_round_43 : decode cX7_round 43 = .ok (.istore_n 3, 1) := by decide +kernel
theorem dX7_round_44 : decode cX7_round 44 = .ok (.iload_n 3, 1) := by decide +kernel
theorem dX7_round_45 : decode cX7_round 45 = .ok (.sipush 800, 3) := by decide +kernel
theorem dX7_round_48 : decode cX7_round 48 = .ok (.if_icmp .ge 22, 3) := by decide +kernel
theorem dX7_round_51 : decode cX7_round 51 = .ok (.aload_n 0, 1) := by decide +kernel
theorem dX7_round_52 : decode cX7_round 52 = .ok (.aload_n 0, 1) := by decide +kernel
theorem dX7_round_53 : decode cX7_round 53 = .ok (.iload_n 2, 1) := by decide +kernel
theorem dX7_round_54 : decode cX7_round 54 = .ok (.invokevirtual 127, 3) := by decide +kernel
theorem dX7_round_57 : decode cX7_round 57 = .ok (.invokevirtual 158, 3) := by decide +kernel
theorem dX7_round_60 : decode cX7_round 60 = .ok (.pop, 1) := by decide +kernel
theorem dX7_round_61 : decode cX7_round 61 = .ok (.iinc 2 1, 3) := by decide +kernel
theorem dX7_round_64 : decode cX7_round 64 = .ok (.iinc 3 1, 3) := by decide +kernel
theorem dX7_round_67 : decode cX7_round 67 = .ok (.goto (-23), 3) := by decide +kernel
theorem dX7_round_70 : decode cX7_round 70 = .ok (.aload_n 0, 1) := by decide +kernel
theorem dX7_round_71 : decode cX7_round 71 = .ok (.getfield 146, 3) := by decide +kernel
theorem dX7_round_74 : decode cX7_round 74 = .ok (.istore_n 3, 1) := by decide +kernel
theorem dX7_round_75 : decode cX7_round 75 = .ok (.aload_n 0, 1) := by decide +kernel
theorem dX7_round_76 : decode cX7_round 76 = .ok (.getfield 143, 3) := by decide +kernel
theorem dX7_round_79 : decode cX7_round 79 = .ok (.istore 4, 2) := by decide +kernel
theorem dX7_round_81 : decode cX7_round 81 = .ok (.iconst 0, 1) := by decide +kernel
theorem dX7_round_82 : decode cX7_round 82 = .ok (.istore 5, 2) := by decide +kernel
theorem dX7_round_84 : decode cX7_round 84 = .ok (.aload_n 0, 1) := by decide +kernel
theorem dX7_round_85 : decode cX7_round 85 = .ok (.aload_n 0, 1) := by decide +kernel
theorem dX7_round_86 : decode cX7_round 86 = .ok (.iload_n 2, 1) := by decide +kernel
theorem dX7_round_87 : decode cX7_round 87 = .ok (.invokevirtual 127, 3) := by decide +kernel
theorem dX7_round_90 : decode cX7_round 90 = .ok (.invokevirtual 158, 3) := by decide +kernel
theorem dX7_round_93 : decode cX7_round 93 = .ok (.pop, 1) := by decide +kernel
theorem dX7_round_94 : decode cX7_round 94 = .ok (.iinc 2 1, 3) := by decide +kernel
theorem dX7_round_97 : decode cX7_round 97 = .ok (.iinc 5 1, 3) := by decide +kernel
theorem dX7_round_100 : decode cX7_round 100 = .ok (.aload_n 0, 1) := by decide +kernel
theorem dX7_round_101 : decode cX7_round 101 = .ok (.getfield 146, 3) := by decide +kernel
theorem dX7_round_104 : decode cX7_round 104 = .ok (.iload_n 3, 1) := by decide +kernel
theorem dX7_round_105 : decode cX7_round 105 = .ok (.if_icmp .ne (-21), 3) := by decide +kernel
theorem dX7_round_108 : decode cX7_round 108 = .ok (.aload_n 0, 1) := by decide +kernel
theorem dX7_round_109 : decode cX7_round 109 = .ok (.getfield 143, 3) := by decide +kernel
theorem dX7_round_112 : decode cX7_round 112 = .ok (.iload 4, 2) := by decide +kernel
theorem dX7_round_114 : decode cX7_round 114 = .ok (.if_icmp .ne (-30), 3) := by decide +kernel
theorem dX7_round_117 : decode cX7_round 117 = .ok (.iload 5, 2) := by decide +kernel
theorem dX7_round_119 : decode cX7_round 119 = .ok (.aload_n 0, 1) := by decide +kernel
theorem dX7_round_120 : decode cX7_round 120 = .ok (.getfield 13, 3) := by decide +kernel
theorem dX7_round_123 : decode cX7_round 123 = .ok (.iconst 2, 1) := by decide +kernel
theorem dX7_round_124 : decode cX7_round 124 = .ok (.iaload, 1) := by decide +kernel
theorem dX7_round_125 : decode cX7_round 125 = .ok (.irem, 1) := by decide +kernel
theorem dX7_round_126 : decode cX7_round 126 = .ok (.ifCond .ne (-42), 3) := by decide +kernel
theorem dX7_round_129 : decode cX7_round 129 = .ok (.iload 5, 2) := by decide +kernel
theorem dX7_round_131 : decode cX7_round 131 = .ok (.ireturn, 1) := by decide +kernel
def T_X7_round : tk_Tb := [(0, tk_al 0 1), (1, tk_ic (0) 2), (2, tk_pI 7 0 5), (5, tk_al 0 6), (6, tk_il 1 7), (7, tk_cv 7 M_X7_isThing 1 10), (10, tk_br (fun x => x = 0) 13 15), (13, tk_ic (-1) 14), (14, tk_rI), (15, tk_al 0 16), (16, tk_il 1 17), (17, tk_cv 7 M_X7_isTied 1 20), (20, tk_br (fun x => x = 0) 30 23), (23, tk_al 0 24), (24, tk_gR 7 9 27), (27, tk_ic (2) 28), (28, tk_ai 9 29), (29, tk_rI), (30, tk_al 0 31), (31, tk_il 1 32), (32, tk_cv 7 M_X7_takesUp 1 35), (35, tk_al 0 36), (36, tk_gR 7 16 39), (39, tk_ic (0) 40), (40, tk_ai 9 41), (41, tk_sI 2 42), (42, tk_ic (0) 43), (43, tk_sI 3 44), (44, tk_il 3 45), (45, tk_ic (800) 48), (48, tk_cm (fun x y => y ≤ x) 70 51), (51, tk_al 0 52), (52, tk_al 0 53), (53, tk_il 2 54), (54, tk_cv 7 M_X7_levelOf 1 57), (57, tk_cv 7 M_X7_goes 1 60), (60, tk_pp 61), (61, tk_inc 2 (1) 64), (64, tk_inc 3 (1) 67), (67, tk_jmp 44), (70, tk_al 0 71), (71, tk_gI 7 27 74), (74, tk_sI 3 75), (75, tk_al 0 76), (76, tk_gI 7 28 79), (79, tk_sI 4 81), (81, tk_ic (0) 82), (82, tk_sI 5 84), (84, tk_al 0 85), (85, tk_al 0 86), (86, tk_il 2 87), (87, tk_cv 7 M_X7_levelOf 1 90), (90, tk_cv 7 M_X7_goes 1 93), (93, tk_pp 94), (94, tk_inc 2 (1) 97), (97, tk_inc 5 (1) 100), (100, tk_al 0 101), (101, tk_gI 7 27 104), (104, tk_il 3 105), (105, tk_cm (fun x y => x = y) 108 84), (108, tk_al 0 109), (109, tk_gI 7 28 112), (112, tk_il 4 114), (114, tk_cm (fun x y => x = y) 117 84), (117, tk_il 5 119), (119, tk_al 0 120), (120, tk_gR 7 9 123), (123, tk_ic (2) 124), (124, tk_ai 9 125), (125, tk_dv (fun x y => x - x / y * y) 126), (126, tk_br (fun x => x = 0) 129 84), (129, tk_il 5 131), (131, tk_rI)]
set_option maxRecDepth 100000 in
theorem hT_X7_round (sc : Option (Nat × (Nat → Int32))) : ∀ x ∈ T_X7_round, tk_So sc M_X7_round x.1 x.2 := by
  unfold T_X7_round
  refine List.forall_mem_cons.mpr ⟨so_aload_n dX7_round_0 rfl rfl, ?_⟩
  refine List.forall_mem_cons.mpr ⟨so_iconst dX7_round_1 (by decide) rfl, ?_⟩
  refine List.forall_mem_cons.mpr ⟨so_pI (C := RX7) (T := TX7) (N := 29) dX7_round_2 (by decide) rfl rfl (by decide) rfl in_X7 wf_X7_62 tyX7 tyX7_ok nmX7 rfl (by decide +kernel) rfl, ?_⟩
  refine List.forall_mem_cons.mpr ⟨so_aload_n dX7_round_5 rfl rfl, ?_⟩
  refine List.forall_mem_cons.mpr ⟨so_iload_n dX7_round_6 rfl rfl, ?_⟩
  refine List.forall_mem_cons.mpr ⟨so_cv (T := TX7) (N := 29) dX7_round_7 mv_X7_isThing wm_X7_137 (by decide) rfl ⟨rfl, rfl⟩ (by decide) rfl, ?_⟩
  refine List.forall_mem_cons.mpr ⟨so_if_ne dX7_round_10 (by decide) rfl, ?_⟩
  refine List.forall_mem_cons.mpr ⟨so_iconst dX7_round_13 (by decide) rfl, ?_⟩
  refine List.forall_mem_cons.mpr ⟨so_rI dX7_round_14 rfl, ?_⟩
  refine List.forall_mem_cons.mpr ⟨so_aload_n dX7_round_15 rfl rfl, ?_⟩
  refine List.forall_mem_cons.mpr ⟨so_iload_n dX7_round_16 rfl rfl, ?_⟩
  refine List.forall_mem_cons.mpr ⟨so_cv (T := TX7) (N := 29) dX7_round_17 mv_X7_isTied wm_X7_155 (by decide) rfl ⟨rfl, rfl⟩ (by decide) rfl, ?_⟩
  refine List.forall_mem_cons.mpr ⟨so_if_eq dX7_round_20 (by decide) rfl, ?_⟩
  refine List.forall_mem_cons.mpr ⟨so_aload_n dX7_round_23 rfl rfl, ?_⟩
  refine List.forall_mem_cons.mpr ⟨so_gR (C := RX7) (T := TX7) (N := 29) dX7_round_24 (by decide) rfl rfl (by decide) rfl in_X7 wf_X7_13 rfl, ?_⟩
  refine List.forall_mem_cons.mpr ⟨so_iconst dX7_round_27 (by decide) rfl, ?_⟩
  refine List.forall_mem_cons.mpr ⟨so_iaload dX7_round_28 rfl, ?_⟩
  refine List.forall_mem_cons.mpr ⟨so_rI dX7_round_29 rfl, ?_⟩
  refine List.forall_mem_cons.mpr ⟨so_aload_n dX7_round_30 rfl rfl, ?_⟩
  refine List.forall_mem_cons.mpr ⟨so_iload_n dX7_round_31 rfl rfl, ?_⟩
  refine List.forall_mem_cons.mpr ⟨so_cv (T := TX7) (N := 29) dX7_round_32 mv_X7_takesUp wm_X7_152 (by decide) rfl ⟨rfl, rfl⟩ (by decide) rfl, ?_⟩
  refine List.forall_mem_cons.mpr ⟨so_aload_n dX7_round_35 rfl rfl, ?_⟩
  refine List.forall_mem_cons.mpr ⟨so_gR (C := RX7) (T := TX7) (N := 29) dX7_round_36 (by decide) rfl rfl (by decide) rfl in_X7 wf_X7_31 rfl, ?_⟩
  refine List.forall_mem_cons.mpr ⟨so_iconst dX7_round_39 (by decide) rfl, ?_⟩
  refine List.forall_mem_cons.mpr ⟨so_iaload dX7_round_40 rfl, ?_⟩
  refine List.forall_mem_cons.mpr ⟨so_istore_n dX7_round_41 rfl rfl, ?_⟩
  refine List.forall_mem_cons.mpr ⟨so_iconst dX7_round_42 (by decide) rfl, ?_⟩
  refine List.forall_mem_cons.mpr ⟨so_istore_n dX7_round_43 rfl rfl, ?_⟩
  refine List.forall_mem_cons.mpr ⟨so_iload_n dX7_round_44 rfl rfl, ?_⟩
  refine List.forall_mem_cons.mpr ⟨so_sipush dX7_round_45 (by decide) rfl, ?_⟩
  refine List.forall_mem_cons.mpr ⟨so_icmp_ge dX7_round_48 (by decide) rfl, ?_⟩
  refine List.forall_mem_cons.mpr ⟨so_aload_n dX7_round_51 rfl rfl, ?_⟩
  refine List.forall_mem_cons.mpr ⟨so_aload_n dX7_round_52 rfl rfl, ?_⟩
  refine List.forall_mem_cons.mpr ⟨so_iload_n dX7_round_53 rfl rfl, ?_⟩
  refine List.forall_mem_cons.mpr ⟨so_cv (T := TX7) (N := 29) dX7_round_54 mv_X7_levelOf wm_X7_127 (by decide) rfl ⟨rfl, rfl⟩ (by decide) rfl, ?_⟩
  refine List.forall_mem_cons.mpr ⟨so_cv (T := TX7) (N := 29) dX7_round_57 mv_X7_goes wm_X7_158 (by decide) rfl ⟨rfl, rfl⟩ (by decide) rfl, ?_⟩
  refine List.forall_mem_cons.mpr ⟨so_pop dX7_round_60 rfl, ?_⟩
  refine List.forall_mem_cons.mpr ⟨so_iinc dX7_round_61 (by decide) rfl, ?_⟩
  refine List.forall_mem_cons.mpr ⟨so_iinc dX7_round_64 (by decide) rfl, ?_⟩
  refine List.forall_mem_cons.mpr ⟨so_goto dX7_round_67 (by decide), ?_⟩
  refine List.forall_mem_cons.mpr ⟨so_aload_n dX7_round_70 rfl rfl, ?_⟩
  refine List.forall_mem_cons.mpr ⟨so_gI (C := RX7) (T := TX7) (N := 29) dX7_round_71 (by decide) rfl rfl (by decide) rfl in_X7 wf_X7_146 rfl, ?_⟩
  refine List.forall_mem_cons.mpr ⟨so_istore_n dX7_round_74 rfl rfl, ?_⟩
  refine List.forall_mem_cons.mpr ⟨so_aload_n dX7_round_75 rfl rfl, ?_⟩
  refine List.forall_mem_cons.mpr ⟨so_gI (C := RX7) (T := TX7) (N := 29) dX7_round_76 (by decide) rfl rfl (by decide) rfl in_X7 wf_X7_143 rfl, ?_⟩
  refine List.forall_mem_cons.mpr ⟨so_istore dX7_round_79 rfl, ?_⟩
  refine List.forall_mem_cons.mpr ⟨so_iconst dX7_round_81 (by decide) rfl, ?_⟩
  refine List.forall_mem_cons.mpr ⟨so_istore dX7_round_82 rfl, ?_⟩
  refine List.forall_mem_cons.mpr ⟨so_aload_n dX7_round_84 rfl rfl, ?_⟩
  refine List.forall_mem_cons.mpr ⟨so_aload_n dX7_round_85 rfl rfl, ?_⟩
  refine List.forall_mem_cons.mpr ⟨so_iload_n dX7_round_86 rfl rfl, ?_⟩
  refine List.forall_mem_cons.mpr ⟨so_cv (T := TX7) (N := 29) dX7_round_87 mv_X7_levelOf wm_X7_127 (by decide) rfl ⟨rfl, rfl⟩ (by decide) rfl, ?_⟩
  refine List.forall_mem_cons.mpr ⟨so_cv (T := TX7) (N := 29) dX7_round_90 mv_X7_goes wm_X7_158 (by decide) rfl ⟨rfl, rfl⟩ (by decide) rfl, ?_⟩
  refine List.forall_mem_cons.mpr ⟨so_pop dX7_round_93 rfl, ?_⟩
  refine List.forall_mem_cons.mpr ⟨so_iinc dX7_round_94 (by decide) rfl, ?_⟩
  refine List.forall_mem_cons.mpr ⟨so_iinc dX7_round_97 (by decide) rfl, ?_⟩
  refine List.forall_mem_cons.mpr ⟨so_aload_n dX7_round_100 rfl rfl, ?_⟩
  refine List.forall_mem_cons.mpr ⟨so_gI (C := RX7) (T := TX7) (N := 29) dX7_round_101 (by decide) rfl rfl (by decide) rfl in_X7 wf_X7_146 rfl, ?_⟩
  refine List.forall_mem_cons.mpr ⟨so_iload_n dX7_round_104 rfl rfl, ?_⟩
  refine List.forall_mem_cons.mpr ⟨so_icmp_ne dX7_round_105 (by decide) rfl, ?_⟩
  refine List.forall_mem_cons.mpr ⟨so_aload_n dX7_round_108 rfl rfl, ?_⟩
  refine List.forall_mem_cons.mpr ⟨so_gI (C := RX7) (T := TX7) (N := 29) dX7_round_109 (by decide) rfl rfl (by decide) rfl in_X7 wf_X7_143 rfl, ?_⟩
  refine List.forall_mem_cons.mpr ⟨so_iload dX7_round_112 rfl, ?_⟩
  refine List.forall_mem_cons.mpr ⟨so_icmp_ne dX7_round_114 (by decide) rfl, ?_⟩
  refine List.forall_mem_cons.mpr ⟨so_iload dX7_round_117 rfl, ?_⟩
  refine List.forall_mem_cons.mpr ⟨so_aload_n dX7_round_119 rfl rfl, ?_⟩
  refine List.forall_mem_cons.mpr ⟨so_gR (C := RX7) (T := TX7) (N := 29) dX7_round_120 (by decide) rfl rfl (by decide) rfl in_X7 wf_X7_13 rfl, ?_⟩
  refine List.forall_mem_cons.mpr ⟨so_iconst dX7_round_123 (by decide) rfl, ?_⟩
  refine List.forall_mem_cons.mpr ⟨so_iaload dX7_round_124 rfl, ?_⟩
  refine List.forall_mem_cons.mpr ⟨so_irem dX7_round_125 rfl, ?_⟩
  refine List.forall_mem_cons.mpr ⟨so_if_ne dX7_round_126 (by decide) rfl, ?_⟩
  refine List.forall_mem_cons.mpr ⟨so_iload dX7_round_129 rfl, ?_⟩
  refine List.forall_mem_cons.mpr ⟨so_rI dX7_round_131 rfl, ?_⟩
  exact fun _ h => absurd h List.not_mem_nil
theorem dX7_gcd_0 : decode cX7_gcd 0 = .ok (.iload_n 0, 1) := by decide +kernel
theorem dX7_gcd_1 : decode cX7_gcd 1 = .ok (.istore_n 2, 1) := by decide +kernel
theorem dX7_gcd_2 : decode cX7_gcd 2 = .ok (.iload_n 1, 1) := by decide +kernel
theorem dX7_gcd_3 : decode cX7_gcd 3 = .ok (.istore_n 3, 1) := by decide +kernel
theorem dX7_gcd_4 : decode cX7_gcd 4 = .ok (.iload_n 3, 1) := by decide +kernel
theorem dX7_gcd_5 : decode cX7_gcd 5 = .ok (.ifCond .eq 16, 3) := by decide +kernel
theorem dX7_gcd_8 : decode cX7_gcd 8 = .ok (.iload_n 2, 1) := by decide +kernel
theorem dX7_gcd_9 : decode cX7_gcd 9 = .ok (.iload_n 3, 1) := by decide +kernel
theorem dX7_gcd_10 : decode cX7_gcd 10 = .ok (.irem, 1) := by decide +kernel
theorem dX7_gcd_11 : decode cX7_gcd 11 = .ok (.istore 4, 2) := by decide +kernel
theorem dX7_gcd_13 : decode cX7_gcd 13 = .ok (.iload_n 3, 1) := by decide +kernel
theorem dX7_gcd_14 : decode cX7_gcd 14 = .ok (.istore_n 2, 1) := by decide +kernel
theorem dX7_gcd_15 : decode cX7_gcd 15 = .ok (.iload 4, 2) := by decide +kernel
theorem dX7_gcd_17 : decode cX7_gcd 17 = .ok (.istore_n 3, 1) := by decide +kernel
theorem dX7_gcd_18 : decode cX7_gcd 18 = .ok (.goto (-14), 3) := by decide +kernel
theorem dX7_gcd_21 : decode cX7_gcd 21 = .ok (.iload_n 2, 1) := by decide +kernel
theorem dX7_gcd_22 : decode cX7_gcd 22 = .ok (.ireturn, 1) := by decide +kernel
def T_X7_gcd : tk_Tb := [(0, tk_il 0 1), (1, tk_sI 2 2), (2, tk_il 1 3), (3, tk_sI 3 4), (4, tk_il 3 5), (5, tk_br (fun x => x = 0) 21 8), (8, tk_il 2 9), (9, tk_il 3 10), (10, tk_dv (fun x y => x - x / y * y) 11), (11, tk_sI 4 13), (13, tk_il 3 14), (14, tk_sI 2 15), (15, tk_il 4 17), (17, tk_sI 3 18), (18, tk_jmp 4), (21, tk_il 2 22), (22, tk_rI)]
set_option maxRecDepth 100000 in
theorem hT_X7_gcd (sc : Option (Nat × (Nat → Int32))) : ∀ x ∈ T_X7_gcd, tk_So sc M_X7_gcd x.1 x.2 := by
  unfold T_X7_gcd
  refine List.forall_mem_cons.mpr ⟨so_iload_n dX7_gcd_0 rfl rfl, ?_⟩
  refine List.forall_mem_cons.mpr ⟨so_istore_n dX7_gcd_1 rfl rfl, ?_⟩
  refine List.forall_mem_cons.mpr ⟨so_iload_n dX7_gcd_2 rfl rfl, ?_⟩
  refine List.forall_mem_cons.mpr ⟨so_istore_n dX7_gcd_3 rfl rfl, ?_⟩
  refine List.forall_mem_cons.mpr ⟨so_iload_n dX7_gcd_4 rfl rfl, ?_⟩
  refine List.forall_mem_cons.mpr ⟨so_if_eq dX7_gcd_5 (by decide) rfl, ?_⟩
  refine List.forall_mem_cons.mpr ⟨so_iload_n dX7_gcd_8 rfl rfl, ?_⟩
  refine List.forall_mem_cons.mpr ⟨so_iload_n dX7_gcd_9 rfl rfl, ?_⟩
  refine List.forall_mem_cons.mpr ⟨so_irem dX7_gcd_10 rfl, ?_⟩
  refine List.forall_mem_cons.mpr ⟨so_istore dX7_gcd_11 rfl, ?_⟩
  refine List.forall_mem_cons.mpr ⟨so_iload_n dX7_gcd_13 rfl rfl, ?_⟩
  refine List.forall_mem_cons.mpr ⟨so_istore_n dX7_gcd_14 rfl rfl, ?_⟩
  refine List.forall_mem_cons.mpr ⟨so_iload dX7_gcd_15 rfl, ?_⟩
  refine List.forall_mem_cons.mpr ⟨so_istore_n dX7_gcd_17 rfl rfl, ?_⟩
  refine List.forall_mem_cons.mpr ⟨so_goto dX7_gcd_18 (by decide), ?_⟩
  refine List.forall_mem_cons.mpr ⟨so_iload_n dX7_gcd_21 rfl rfl, ?_⟩
  refine List.forall_mem_cons.mpr ⟨so_rI dX7_gcd_22 rfl, ?_⟩
  exact fun _ h => absurd h List.not_mem_nil
theorem dX7_odds_0 : decode cX7_odds 0 = .ok (.aload_n 0, 1) := by decide +kernel
theorem dX7_odds_1 : decode cX7_odds 1 = .ok (.iconst 0, 1) := by decide +kernel
theorem dX7_odds_2 : decode cX7_odds 2 = .ok (.putfield 62, 3) := by decide +kernel
theorem dX7_odds_5 : decode cX7_odds 5 = .ok (.aload_n 0, 1) := by decide +kernel
theorem dX7_odds_6 : decode cX7_odds 6 = .ok (.iload_n 1, 1) := by decide +kernel
theorem dX7_odds_7 : decode cX7_odds 7 = .ok (.invokevirtual 137, 3) := by decide +kernel
theorem dX7_odds_10 : decode cX7_odds 10 = .ok (.ifCond .eq 41, 3) := by decide +kernel
theorem dX7_odds_13 : decode cX7_odds 13 = .ok (.aload_n 0, 1) := by decide +kernel
theorem dX7_odds_14 : decode cX7_odds 14 = .ok (.iload_n 2, 1) := by decide +kernel
theorem dX7_odds_15 : decode cX7_odds 15 = .ok (.invokevirtual 130, 3) := by decide +kernel
theorem dX7_odds_18 : decode cX7_odds 18 = .ok (.ifCond .eq 33, 3) := by decide +kernel
theorem dX7_odds_21 : decode cX7_odds 21 = .ok (.iload_n 3, 1) := by decide +kernel
theorem dX7_odds_22 : decode cX7_odds 22 = .ok (.iconst 0, 1) := by decide +kernel
theorem dX7_odds_23 : decode cX7_odds 23 = .ok (.iconst 4, 1) := by decide +kernel
theorem dX7_odds_24 : decode cX7_odds 24 = .ok (.invokestatic 66, 3) := by decide +kernel
theorem dX7_odds_27 : decode cX7_odds 27 = .ok (.ifCond .eq 24, 3) := by decide +kernel
theorem dX7_odds_30 : decode cX7_odds 30 = .ok (.iload 4, 2) := by decide +kernel
theorem dX7_odds_32 : decode cX7_odds 32 = .ok (.iconst 0, 1) := by decide +kernel
theorem dX7_odds_33 : decode cX7_odds 33 = .ok (.bipush 10, 2) := by decide +kernel
theorem dX7_odds_35 : decode cX7_odds 35 = .ok (.invokestatic 66, 3) := by decide +kernel
theorem dX7_odds_38 : decode cX7_odds 38 = .ok (.ifCond .eq 13, 3) := by decide +kernel
theorem dX7_odds_41 : decode cX7_odds 41 = .ok (.iload 5, 2) := by decide +kernel
theorem dX7_odds_43 : decode cX7_odds 43 = .ok (.iconst 0, 1) := by decide +kernel
theorem dX7_odds_44 : decode cX7_odds 44 = .ok (.iconst 1, 1) := by decide +kernel
theorem dX7_odds_45 : decode cX7_odds 45 = .ok (.invokestatic 66, 3) := by decide +kernel
theorem dX7_odds_48 : decode cX7_odds 48 = .ok (.ifCond .ne 5, 3) := by decide +kernel
theorem dX7_odds_51 : decode cX7_odds 51 = .ok (.iconst (-1), 1) := by decide +kernel
theorem dX7_odds_52 : decode cX7_odds 52 = .ok (.ireturn, 1) := by decide +kernel
theorem dX7_odds_53 : decode cX7_odds 53 = .ok (.iconst 0, 1) := by decide +kernel
theorem dX7_odds_54 : decode cX7_odds 54 = .ok (.istore 6, 2) := by decide +kernel
theorem dX7_odds_56 : decode cX7_odds 56 = .ok (.iconst 1, 1) := by decide +kernel
theorem dX7_odds_57 : decode cX7_odds 57 = .ok (.istore 7, 2) := by decide +kernel
theorem dX7_odds_59 : decode cX7_odds 59 = .ok (.iconst 0, 1) := by decide +kernel
theorem dX7_odds_60 : decode cX7_odds 60 = .ok (.istore 8, 2) := by decide +kernel
theorem dX7_odds_62 : decode cX7_odds 62 = .ok (.iload 8, 2) := by decide +kernel
theorem dX7_odds_64 : decode cX7_odds 64 = .ok (.iload_n 3, 1) := by decide +kernel
theorem dX7_odds_65 : decode cX7_odds 65 = .ok (.if_icmp .ge 16, 3) := by decide +kernel
theorem dX7_odds_68 : decode cX7_odds 68 = .ok (.iload 7, 2) := by decide +kernel
theorem dX7_odds_70 : decode cX7_odds 70 = .ok (.bipush 10, 2) := by decide +kernel
theorem dX7_odds_72 : decode cX7_odds 72 = .ok (.imul, 1) := by decide +kernel
theorem dX7_odds_73 : decode cX7_odds 73 = .ok (.istore 7, 2) := by decide +kernel
theorem dX7_odds_75 : decode cX7_odds 75 = .ok (.iinc 8 1, 3) := by decide +kernel
theorem dX7_odds_78 : decode cX7_odds 78 = .ok (.goto (-16), 3) := by decide +kernel
theorem dX7_odds_81 : decode cX7_odds 81 = .ok (.iconst 0, 1) := by decide +kernel
theorem dX7_odds_82 : decode cX7_odds 82 = .ok (.istore 8, 2) := by decide +kernel
theorem dX7_odds_84 : decode cX7_odds 84 = .ok (.iload 8, 2) := by decide +kernel
theorem dX7_odds_86 : decode cX7_odds 86 = .ok (.iconst 1, 1) := by decide +kernel
theorem dX7_odds_87 : decode cX7_odds 87 = .ok (.iload_n 3, 1) := by decide +kernel
theorem dX7_odds_88 : decode cX7_odds 88 = .ok (.ishl, 1) := by decide +kernel
theorem dX7_odds_89 : decode cX7_odds 89 = .ok (.if_icmp .ge 133, 3) := by decide +kernel
theorem dX7_odds_92 : decode cX7_odds 92 = .ok (.iconst 1, 1) := by decide +kernel
theorem dX7_odds_93 : decode cX7_odds 93 = .ok (.istore 9, 2) := by decide +kernel
theorem dX7_odds_95 : decode cX7_odds 95 = .ok (.aload_n 0, 1) := by decide +kernel
theorem dX7_odds_96 : decode cX7_odds 96 = .ok (.iload_n 1, 1) := by decide +kernel
theorem dX7_odds_97 : decode cX7_odds 97 = .ok (.invokevirtual 152, 3) := by decide +kernel
theorem dX7_odds_100 : decode cX7_odds 100 = .ok (.iconst 0, 1) := by decide +kernel
theorem dX7_odds_101 : decode cX7_odds 101 = .ok (.istore 10, 2) := by decide +kernel
theorem dX7_odds_103 : decode cX7_odds 103 = .ok (.iload 10, 2) := by decide +kernel
theorem dX7_odds_105 : decode cX7_odds 105 = .ok (.iload_n 3, 1) := by decide +kernel
theorem dX7_odds_106 : decode cX7_odds 106 = .ok (.if_icmp .ge 84, 3) := by decide +kernel
theorem dX7_odds_109 : decode cX7_odds 109 = .ok (.iload 8, 2) := by decide +kernel
theorem dX7_odds_111 : decode cX7_odds 111 = .ok (.iload 10, 2) := by decide +kernel
theorem dX7_odds_113 : decode cX7_odds 113 = .ok (.ishr, 1) := by decide +kernel
theorem dX7_odds_114 : decode cX7_odds 114 = .ok (.iconst 1, 1) := by decide +kernel
theorem dX7_odds_115 : decode cX7_odds 115 = .ok (.iand, 1) := by decide +kernel
theorem dX7_odds_116 : decode cX7_odds 116 = .ok (.iconst 1, 1) := by decide +kernel
theorem dX7_odds_117 : decode cX7_odds 117 = .ok (.if_icmp .ne 7, 3) := by decide +kernel
theorem dX7_odds_120 : decode cX7_odds 120 = .ok (.iconst 1, 1) := by decide +kernel
theorem dX7_odds_121 : decode cX7_odds 121 = .ok (.goto 4, 3) := by decide +kernel
theorem dX7_odds_124 : decode cX7_odds 124 = .ok (.iconst 0, 1) := by decide +kernel
theorem dX7_odds_125 : decode cX7_odds 125 = .ok (.istore 11, 2) := by decide +kernel
theorem dX7_odds_127 : decode cX7_odds 127 = .ok (.iload 9, 2) := by decide +kernel
theorem dX7_odds_129 : decode cX7_odds 129 = .ok (.iload 11, 2) := by decide +kernel
theorem dX7_odds_131 : decode cX7_odds 131 = .ok (.ifCond .eq 8, 3) := by decide +kernel
theorem dX7_odds_134 : decode cX7_odds 134 = .ok (.iload 4, 2) := by decide +kernel
theorem dX7_odds_136 : decode cX7_odds 136 = .ok (.goto 8, 3) := by decide +kernel
theorem dX7_odds_139 : decode cX7_odds 139 = .ok (.bipush 10, 2) := by decide +kernel
theorem dX7_odds_141 : decode cX7_odds 141 = .ok (.iload 4, 2) := by decide +kernel
theorem dX7_odds_143 : decode cX7_odds 143 = .ok (.isub, 1) := by decide +kernel
theorem dX7_odds_144 : decode cX7_odds 144 = .ok (.imul, 1) := by decide +kernel
theorem dX7_odds_145 : decode cX7_odds 145 = .ok (.istore 9, 2) := by decide +kernel
theorem dX7_odds_147 : decode cX7_odds 147 = .ok (.aload_n 0, 1) := by decide +kernel
theorem dX7_odds_148 : decode cX7_odds 148 = .ok (.iload_n 1, 1) := by decide +kernel
theorem dX7_odds_149 : decode cX7_odds 149 = .ok (.invokevirtual 155, 3) := by decide +kernel
theorem dX7_odds_152 : decode cX7_odds 152 = .ok (.ifCond .ne 32, 3) := by decide +kernel
theorem dX7_odds_155 : decode cX7_odds 155 = .ok (.aload_n 0, 1) := by decide +kernel
theorem dX7_odds_156 : decode cX7_odds 156 = .ok (.aload_n 0, 1) := by decide +kernel
theorem dX7_odds_157 : decode cX7_odds 157 = .ok (.aload_n 0, 1) := by decide +kernel
theorem dX7_odds_158 : decode cX7_odds 158 = .ok (.getfield 31, 3) := by decide +kernel
theorem dX7_odds_161 : decode cX7_odds 161 = .ok (.iconst 0, 1) := by decide +kernel
theorem dX7_odds_162 : decode cX7_odds 162 = .ok (.iaload, 1) := by decide +kernel
theorem dX7_odds_163 : decode cX7_odds 163 = .ok (.iload 10, 2) := by decide +kernel
theorem dX7_odds_165 : decode cX7_odds 165 = .ok (.iadd, 1) := by decide +kernel
theorem dX7_odds_166 : decode cX7_odds 166 = .ok (.invokevirtual 127, 3) := by decide +kernel
theorem dX7_odds_169 : decode cX7_odds 169 = .ok (.iload 11, 2) := by decide +kernel
theorem dX7_odds_171 : decode cX7_odds 171 = .ok (.ifCond .eq 7, 3) := by decide +kernel
theorem dX7_odds_174 : decode cX7_odds 174 = .ok (.iconst 3, 1) := by decide +kernel
theorem dX7_odds_175 : decode cX7_odds 175 = .ok (.goto 4, 3) := by decide +kernel
theorem dX7_odds_178 : decode cX7_odds 178 = .ok (.iconst 0, 1) := by decide +kernel
theorem dX7_odds_179 : decode cX7_odds 179 = .ok (.isub, 1) := by decide +kernel
theorem dX7_odds_180 : decode cX7_odds 180 = .ok (.invokevirtual 158, 3) := by decide +kernel
theorem dX7_odds_183 : decode cX7_odds 183 = .ok (.pop, 1) := by decide +kernel
theorem dX7_odds_184 : decode cX7_odds 184 = .ok (.iinc 10 1, 3) := by decide +kernel
theorem dX7_odds_187 : decode cX7_odds 187 = .ok (.goto (-84), 3) := by decide +kernel
theorem dX7_odds_190 : decode cX7_odds 190 = .ok (.iload 6, 2) := by decide +kernel
theorem dX7_odds_192 : decode cX7_odds 192 = .ok (.aload_n 0, 1) := by decide +kernel
theorem dX7_odds_193 : decode cX7_odds 193 = .ok (.getfield 143, 3) := by decide +kernel
theorem dX7_odds_196 : decode cX7_odds 196 = .ok (.ifCond .ne 16, 3) := by decide +kernel
theorem dX7_odds_199 : decode cX7_odds 199 = .ok (.aload_n 0, 1) := by decide +kernel
theorem dX7_odds_200 : decode cX7_odds 200 = .ok (.getfield 146, 3) := by decide +kernel
theorem dX7_odds_203 : decode cX7_odds 203 = .ok (.iload_n 2, 1) := by decide +kernel
theorem dX7_odds_204 : decode cX7_odds 204 = .ok (.if_icmp .ne 8, 3) := by decide +kernel
theorem dX7_odds_207 : decode cX7_odds 207 = .ok (.iload 9, 2) := by decide +kernel
theorem dX7_odds_209 : decode cX7_odds 209 = .ok (.goto 4, 3) := by decide +kernel
theorem dX7_odds_212 : decode cX7_odds 212 = .ok (.iconst 0, 1) := by decide +kernel
theorem dX7_odds_213 : decode cX7_odds 213 = .ok (.iadd, 1) := by decide +kernel
theorem dX7_odds_214 : decode cX7_odds 214 = .ok (.istore 6, 2) := by decide +kernel
theorem dX7_odds_216 : decode cX7_odds 216 = .ok (.iinc 8 1, 3) := by decide +kernel
theorem dX7_odds_219 : decode cX7_odds 219 = .ok (.goto (-135), 3) := by decide +kernel
theorem dX7_odds_222 : decode cX7_odds 222 = .ok (.iload 6, 2) := by decide +kernel
theorem dX7_odds_224 : decode cX7_odds 224 = .ok (.iload 7, 2) := by decide +kernel
theorem dX7_odds_226 : decode cX7_odds 226 = .ok (.invokestatic 169, 3) := by decide +kernel
theorem dX7_odds_229 : decode cX7_odds 229 = .ok (.istore 8, 2) := by decide +kernel
theorem dX7_odds_231 : decode cX7_odds 231 = .ok (.iload 5, 2) := by decide +kernel
theorem dX7_odds_233 : decode cX7_odds 233 = .ok (.ifCond .ne 11, 3) := by decide +kernel
theorem dX7_odds_236 : decode cX7_odds 236 = .ok (.iload 6, 2) := by decide +kernel
theorem dX7_odds_238 : decode cX7_odds 238 = .ok (.iload 8, 2) := by decide +kernel
theorem dX7_odds_240 : decode cX7_odds 240 = .ok (.idiv, 1) := by decide +kernel
theorem dX7_odds_241 : decode cX7_odds 241 = .ok (.goto 8, 3) := by decide +kernel
theorem dX7_odds_244 : decode cX7_odds 244 = .ok (.iload 7, 2) := by decide +kernel
theorem dX7_odds_246 : decode cX7_odds 246 = .ok (.iload 8, 2) := by decide +kernel
theorem dX7_odds_248 : decode cX7_odds 248 = .ok (.idiv, 1) := by decide +kernel
theorem dX7_odds_249 : decode cX7_odds 249 = .ok (.ireturn, 1) := by decide +kernel
def T_X7_odds : tk_Tb := [(0, tk_al 0 1), (1, tk_ic (0) 2), (2, tk_pI 7 0 5), (5, tk_al 0 6), (6, tk_il 1 7), (7, tk_cv 7 M_X7_isThing 1 10), (10, tk_br (fun x => x = 0) 51 13), (13, tk_al 0 14), (14, tk_il 2 15), (15, tk_cv 7 M_X7_isKerb 1 18), (18, tk_br (fun x => x = 0) 51 21), (21, tk_il 3 22), (22, tk_ic (0) 23), (23, tk_ic (4) 24), (24, tk_cs M_X7_in 3 27), (27, tk_br (fun x => x = 0) 51 30), (30, tk_il 4 32), (32, tk_ic (0) 33), (33, tk_ic (10) 35), (35, tk_cs M_X7_in 3 38), (38, tk_br (fun x => x = 0) 51 41), (41, tk_il 5 43), (43, tk_ic (0) 44), (44, tk_ic (1) 45), (45, tk_cs M_X7_in 3 48), (48, tk_br (fun x => x = 0) 51 53), (51, tk_ic (-1) 52), (52, tk_rI), (53, tk_ic (0) 54), (54, tk_sI 6 56), (56, tk_ic (1) 57), (57, tk_sI 7 59), (59, tk_ic (0) 60), (60, tk_sI 8 62), (62, tk_il 8 64), (64, tk_il 3 65), (65, tk_cm (fun x y => y ≤ x) 81 68), (68, tk_il 7 70), (70, tk_ic (10) 72), (72, tk_bi (fun x y => x * y) 73), (73, tk_sI 7 75), (75, tk_inc 8 (1) 78), (78, tk_jmp 62), (81, tk_ic (0) 82), (82, tk_sI 8 84), (84, tk_il 8 86), (86, tk_ic (1) 87), (87, tk_il 3 88), (88, tk_bi (fun x y => x <<< (y &&& 31)) 89), (89, tk_cm (fun x y => y ≤ x) 222 92), (92, tk_ic (1) 93), (93, tk_sI 9 95), (95, tk_al 0 96), (96, tk_il 1 97), (97, tk_cv 7 M_X7_takesUp 1 100), (100, tk_ic (0) 101), (101, tk_sI 10 103), (103, tk_il 10 105), (105, tk_il 3 106), (106, tk_cm (fun x y => y ≤ x) 190 109), (109, tk_il 8 111), (111, tk_il 10 113), (113, tk_bi (fun x y => x >>> (y &&& 31)) 114), (114, tk_ic (1) 115), (115, tk_bi (fun x y => x &&& y) 116), (116, tk_ic (1) 117), (117, tk_cm (fun x y => x = y) 120 124), (120, tk_ic (1) 121), (121, tk_jmp 125), (124, tk_ic (0) 125), (125, tk_sI 11 127), (127, tk_il 9 129), (129, tk_il 11 131), (131, tk_br (fun x => x = 0) 139 134), (134, tk_il 4 136), (136, tk_jmp 144), (139, tk_ic (10) 141), (141, tk_il 4 143), (143, tk_bi (fun x y => x - y) 144), (144, tk_bi (fun x y => x * y) 145), (145, tk_sI 9 147), (147, tk_al 0 148), (148, tk_il 1 149), (149, tk_cv 7 M_X7_isTied 1 152), (152, tk_br (fun x => x = 0) 155 184), (155, tk_al 0 156), (156, tk_al 0 157), (157, tk_al 0 158), (158, tk_gR 7 16 161), (161, tk_ic (0) 162), (162, tk_ai 9 163), (163, tk_il 10 165), (165, tk_bi (fun x y => x + y) 166), (166, tk_cv 7 M_X7_levelOf 1 169), (169, tk_il 11 171), (171, tk_br (fun x => x = 0) 178 174), (174, tk_ic (3) 175), (175, tk_jmp 179), (178, tk_ic (0) 179), (179, tk_bi (fun x y => x - y) 180), (180, tk_cv 7 M_X7_goes 1 183), (183, tk_pp 184), (184, tk_inc 10 (1) 187), (187, tk_jmp 103), (190, tk_il 6 192), (192, tk_al 0 193), (193, tk_gI 7 28 196), (196, tk_br (fun x => x = 0) 199 212), (199, tk_al 0 200), (200, tk_gI 7 27 203), (203, tk_il 2 204), (204, tk_cm (fun x y => x = y) 207 212), (207, tk_il 9 209), (209, tk_jmp 213), (212, tk_ic (0) 213), (213, tk_bi (fun x y => x + y) 214), (214, tk_sI 6 216), (216, tk_inc 8 (1) 219), (219, tk_jmp 84), (222, tk_il 6 224), (224, tk_il 7 226), (226, tk_cs M_X7_gcd 2 229), (229, tk_sI 8 231), (231, tk_il 5 233), (233, tk_br (fun x => x = 0) 236 244), (236, tk_il 6 238), (238, tk_il 8 240), (240, tk_dv (fun x y => x / y) 241), (241, tk_jmp 249), (244, tk_il 7 246), (246, tk_il 8 248), (248, tk_dv (fun x y => x / y) 249), (249, tk_rI)]
set_option maxRecDepth 100000 in
theorem hT_X7_odds (sc : Option (Nat × (Nat → Int32))) : ∀ x ∈ T_X7_odds, tk_So sc M_X7_odds x.1 x.2 := by
  unfold T_X7_odds
  refine List.forall_mem_cons.mpr ⟨so_aload_n dX7_odds_0 rfl rfl, ?_⟩
  refine List.forall_mem_cons.mpr ⟨so_iconst dX7_odds_1 (by decide) rfl, ?_⟩
  refine List.forall_mem_cons.mpr ⟨so_pI (C := RX7) (T := TX7) (N := 29) dX7_odds_2 (by decide) rfl rfl (by decide) rfl in_X7 wf_X7_62 tyX7 tyX7_ok nmX7 rfl (by decide +kernel) rfl, ?_⟩
  refine List.forall_mem_cons.mpr ⟨so_aload_n dX7_odds_5 rfl rfl, ?_⟩
  refine List.forall_mem_cons.mpr ⟨so_iload_n dX7_odds_6 rfl rfl, ?_⟩
  refine List.forall_mem_cons.mpr ⟨so_cv (T := TX7) (N := 29) dX7_odds_7 mv_X7_isThing wm_X7_137 (by decide) rfl ⟨rfl, rfl⟩ (by decide) rfl, ?_⟩
  refine List.forall_mem_cons.mpr ⟨so_if_eq dX7_odds_10 (by decide) rfl, ?_⟩
  refine List.forall_mem_cons.mpr ⟨so_aload_n dX7_odds_13 rfl rfl, ?_⟩
  refine List.forall_mem_cons.mpr ⟨so_iload_n dX7_odds_14 rfl rfl, ?_⟩
  refine List.forall_mem_cons.mpr ⟨so_cv (T := TX7) (N := 29) dX7_odds_15 mv_X7_isKerb wm_X7_130 (by decide) rfl ⟨rfl, rfl⟩ (by decide) rfl, ?_⟩
  refine List.forall_mem_cons.mpr ⟨so_if_eq dX7_odds_18 (by decide) rfl, ?_⟩
  refine List.forall_mem_cons.mpr ⟨so_iload_n dX7_odds_21 rfl rfl, ?_⟩
  refine List.forall_mem_cons.mpr ⟨so_iconst dX7_odds_22 (by decide) rfl, ?_⟩
  refine List.forall_mem_cons.mpr ⟨so_iconst dX7_odds_23 (by decide) rfl, ?_⟩
  refine List.forall_mem_cons.mpr ⟨so_cs dX7_odds_24 mv_X7_in wm_X7_66 ⟨rfl, rfl⟩ (by decide) rfl, ?_⟩
  refine List.forall_mem_cons.mpr ⟨so_if_eq dX7_odds_27 (by decide) rfl, ?_⟩
  refine List.forall_mem_cons.mpr ⟨so_iload dX7_odds_30 rfl, ?_⟩
  refine List.forall_mem_cons.mpr ⟨so_iconst dX7_odds_32 (by decide) rfl, ?_⟩
  refine List.forall_mem_cons.mpr ⟨so_bipush dX7_odds_33 (by decide) rfl, ?_⟩
  refine List.forall_mem_cons.mpr ⟨so_cs dX7_odds_35 mv_X7_in wm_X7_66 ⟨rfl, rfl⟩ (by decide) rfl, ?_⟩
  refine List.forall_mem_cons.mpr ⟨so_if_eq dX7_odds_38 (by decide) rfl, ?_⟩
  refine List.forall_mem_cons.mpr ⟨so_iload dX7_odds_41 rfl, ?_⟩
  refine List.forall_mem_cons.mpr ⟨so_iconst dX7_odds_43 (by decide) rfl, ?_⟩
  refine List.forall_mem_cons.mpr ⟨so_iconst dX7_odds_44 (by decide) rfl, ?_⟩
  refine List.forall_mem_cons.mpr ⟨so_cs dX7_odds_45 mv_X7_in wm_X7_66 ⟨rfl, rfl⟩ (by decide) rfl, ?_⟩
  refine List.forall_mem_cons.mpr ⟨so_if_ne dX7_odds_48 (by decide) rfl, ?_⟩
  refine List.forall_mem_cons.mpr ⟨so_iconst dX7_odds_51 (by decide) rfl, ?_⟩
  refine List.forall_mem_cons.mpr ⟨so_rI dX7_odds_52 rfl, ?_⟩
  refine List.forall_mem_cons.mpr ⟨so_iconst dX7_odds_53 (by decide) rfl, ?_⟩
  refine List.forall_mem_cons.mpr ⟨so_istore dX7_odds_54 rfl, ?_⟩
  refine List.forall_mem_cons.mpr ⟨so_iconst dX7_odds_56 (by decide) rfl, ?_⟩
  refine List.forall_mem_cons.mpr ⟨so_istore dX7_odds_57 rfl, ?_⟩
  refine List.forall_mem_cons.mpr ⟨so_iconst dX7_odds_59 (by decide) rfl, ?_⟩
  refine List.forall_mem_cons.mpr ⟨so_istore dX7_odds_60 rfl, ?_⟩
  refine List.forall_mem_cons.mpr ⟨so_iload dX7_odds_62 rfl, ?_⟩
  refine List.forall_mem_cons.mpr ⟨so_iload_n dX7_odds_64 rfl rfl, ?_⟩
  refine List.forall_mem_cons.mpr ⟨so_icmp_ge dX7_odds_65 (by decide) rfl, ?_⟩
  refine List.forall_mem_cons.mpr ⟨so_iload dX7_odds_68 rfl, ?_⟩
  refine List.forall_mem_cons.mpr ⟨so_bipush dX7_odds_70 (by decide) rfl, ?_⟩
  refine List.forall_mem_cons.mpr ⟨so_imul dX7_odds_72 rfl, ?_⟩
  refine List.forall_mem_cons.mpr ⟨so_istore dX7_odds_73 rfl, ?_⟩
  refine List.forall_mem_cons.mpr ⟨so_iinc dX7_odds_75 (by decide) rfl, ?_⟩
  refine List.forall_mem_cons.mpr ⟨so_goto dX7_odds_78 (by decide), ?_⟩
  refine List.forall_mem_cons.mpr ⟨so_iconst dX7_odds_81 (by decide) rfl, ?_⟩
  refine List.forall_mem_cons.mpr ⟨so_istore dX7_odds_82 rfl, ?_⟩
  refine List.forall_mem_cons.mpr ⟨so_iload dX7_odds_84 rfl, ?_⟩
  refine List.forall_mem_cons.mpr ⟨so_iconst dX7_odds_86 (by decide) rfl, ?_⟩
  refine List.forall_mem_cons.mpr ⟨so_iload_n dX7_odds_87 rfl rfl, ?_⟩
  refine List.forall_mem_cons.mpr ⟨so_ishl dX7_odds_88 rfl, ?_⟩
  refine List.forall_mem_cons.mpr ⟨so_icmp_ge dX7_odds_89 (by decide) rfl, ?_⟩
  refine List.forall_mem_cons.mpr ⟨so_iconst dX7_odds_92 (by decide) rfl, ?_⟩
  refine List.forall_mem_cons.mpr ⟨so_istore dX7_odds_93 rfl, ?_⟩
  refine List.forall_mem_cons.mpr ⟨so_aload_n dX7_odds_95 rfl rfl, ?_⟩
  refine List.forall_mem_cons.mpr ⟨so_iload_n dX7_odds_96 rfl rfl, ?_⟩
  refine List.forall_mem_cons.mpr ⟨so_cv (T := TX7) (N := 29) dX7_odds_97 mv_X7_takesUp wm_X7_152 (by decide) rfl ⟨rfl, rfl⟩ (by decide) rfl, ?_⟩
  refine List.forall_mem_cons.mpr ⟨so_iconst dX7_odds_100 (by decide) rfl, ?_⟩
  refine List.forall_mem_cons.mpr ⟨so_istore dX7_odds_101 rfl, ?_⟩
  refine List.forall_mem_cons.mpr ⟨so_iload dX7_odds_103 rfl, ?_⟩
  refine List.forall_mem_cons.mpr ⟨so_iload_n dX7_odds_105 rfl rfl, ?_⟩
  refine List.forall_mem_cons.mpr ⟨so_icmp_ge dX7_odds_106 (by decide) rfl, ?_⟩
  refine List.forall_mem_cons.mpr ⟨so_iload dX7_odds_109 rfl, ?_⟩
  refine List.forall_mem_cons.mpr ⟨so_iload dX7_odds_111 rfl, ?_⟩
  refine List.forall_mem_cons.mpr ⟨so_ishr dX7_odds_113 rfl, ?_⟩
  refine List.forall_mem_cons.mpr ⟨so_iconst dX7_odds_114 (by decide) rfl, ?_⟩
  refine List.forall_mem_cons.mpr ⟨so_iand dX7_odds_115 rfl, ?_⟩
  refine List.forall_mem_cons.mpr ⟨so_iconst dX7_odds_116 (by decide) rfl, ?_⟩
  refine List.forall_mem_cons.mpr ⟨so_icmp_ne dX7_odds_117 (by decide) rfl, ?_⟩
  refine List.forall_mem_cons.mpr ⟨so_iconst dX7_odds_120 (by decide) rfl, ?_⟩
  refine List.forall_mem_cons.mpr ⟨so_goto dX7_odds_121 (by decide), ?_⟩
  refine List.forall_mem_cons.mpr ⟨so_iconst dX7_odds_124 (by decide) rfl, ?_⟩
  refine List.forall_mem_cons.mpr ⟨so_istore dX7_odds_125 rfl, ?_⟩
  refine List.forall_mem_cons.mpr ⟨so_iload dX7_odds_127 rfl, ?_⟩
  refine List.forall_mem_cons.mpr ⟨so_iload dX7_odds_129 rfl, ?_⟩
  refine List.forall_mem_cons.mpr ⟨so_if_eq dX7_odds_131 (by decide) rfl, ?_⟩
  refine List.forall_mem_cons.mpr ⟨so_iload dX7_odds_134 rfl, ?_⟩
  refine List.forall_mem_cons.mpr ⟨so_goto dX7_odds_136 (by decide), ?_⟩
  refine List.forall_mem_cons.mpr ⟨so_bipush dX7_odds_139 (by decide) rfl, ?_⟩
  refine List.forall_mem_cons.mpr ⟨so_iload dX7_odds_141 rfl, ?_⟩
  refine List.forall_mem_cons.mpr ⟨so_isub dX7_odds_143 rfl, ?_⟩
  refine List.forall_mem_cons.mpr ⟨so_imul dX7_odds_144 rfl, ?_⟩
  refine List.forall_mem_cons.mpr ⟨so_istore dX7_odds_145 rfl, ?_⟩
  refine List.forall_mem_cons.mpr ⟨so_aload_n dX7_odds_147 rfl rfl, ?_⟩
  refine List.forall_mem_cons.mpr ⟨so_iload_n dX7_odds_148 rfl rfl, ?_⟩
  refine List.forall_mem_cons.mpr ⟨so_cv (T := TX7) (N := 29) dX7_odds_149 mv_X7_isTied wm_X7_155 (by decide) rfl ⟨rfl, rfl⟩ (by decide) rfl, ?_⟩
  refine List.forall_mem_cons.mpr ⟨so_if_ne dX7_odds_152 (by decide) rfl, ?_⟩
  refine List.forall_mem_cons.mpr ⟨so_aload_n dX7_odds_155 rfl rfl, ?_⟩
  refine List.forall_mem_cons.mpr ⟨so_aload_n dX7_odds_156 rfl rfl, ?_⟩
  refine List.forall_mem_cons.mpr ⟨so_aload_n dX7_odds_157 rfl rfl, ?_⟩
  refine List.forall_mem_cons.mpr ⟨so_gR (C := RX7) (T := TX7) (N := 29) dX7_odds_158 (by decide) rfl rfl (by decide) rfl in_X7 wf_X7_31 rfl, ?_⟩
  refine List.forall_mem_cons.mpr ⟨so_iconst dX7_odds_161 (by decide) rfl, ?_⟩
  refine List.forall_mem_cons.mpr ⟨so_iaload dX7_odds_162 rfl, ?_⟩
  refine List.forall_mem_cons.mpr ⟨so_iload dX7_odds_163 rfl, ?_⟩
  refine List.forall_mem_cons.mpr ⟨so_iadd dX7_odds_165 rfl, ?_⟩
  refine List.forall_mem_cons.mpr ⟨so_cv (T := TX7) (N := 29) dX7_odds_166 mv_X7_levelOf wm_X7_127 (by decide) rfl ⟨rfl, rfl⟩ (by decide) rfl, ?_⟩
  refine List.forall_mem_cons.mpr ⟨so_iload dX7_odds_169 rfl, ?_⟩
  refine List.forall_mem_cons.mpr ⟨so_if_eq dX7_odds_171 (by decide) rfl, ?_⟩
  refine List.forall_mem_cons.mpr ⟨so_iconst dX7_odds_174 (by decide) rfl, ?_⟩
  refine List.forall_mem_cons.mpr ⟨so_goto dX7_odds_175 (by decide), ?_⟩
  refine List.forall_mem_cons.mpr ⟨so_iconst dX7_odds_178 (by decide) rfl, ?_⟩
  refine List.forall_mem_cons.mpr ⟨so_isub dX7_odds_179 rfl, ?_⟩
  refine List.forall_mem_cons.mpr ⟨so_cv (T := TX7) (N := 29) dX7_odds_180 mv_X7_goes wm_X7_158 (by decide) rfl ⟨rfl, rfl⟩ (by decide) rfl, ?_⟩
  refine List.forall_mem_cons.mpr ⟨so_pop dX7_odds_183 rfl, ?_⟩
  refine List.forall_mem_cons.mpr ⟨so_iinc dX7_odds_184 (by decide) rfl, ?_⟩
  refine List.forall_mem_cons.mpr ⟨so_goto dX7_odds_187 (by decide), ?_⟩
  refine List.forall_mem_cons.mpr ⟨so_iload dX7_odds_190 rfl, ?_⟩
  refine List.forall_mem_cons.mpr ⟨so_aload_n dX7_odds_192 rfl rfl, ?_⟩
  refine List.forall_mem_cons.mpr ⟨so_gI (C := RX7) (T := TX7) (N := 29) dX7_odds_193 (by decide) rfl rfl (by decide) rfl in_X7 wf_X7_143 rfl, ?_⟩
  refine List.forall_mem_cons.mpr ⟨so_if_ne dX7_odds_196 (by decide) rfl, ?_⟩
  refine List.forall_mem_cons.mpr ⟨so_aload_n dX7_odds_199 rfl rfl, ?_⟩
  refine List.forall_mem_cons.mpr ⟨so_gI (C := RX7) (T := TX7) (N := 29) dX7_odds_200 (by decide) rfl rfl (by decide) rfl in_X7 wf_X7_146 rfl, ?_⟩
  refine List.forall_mem_cons.mpr ⟨so_iload_n dX7_odds_203 rfl rfl, ?_⟩
  refine List.forall_mem_cons.mpr ⟨so_icmp_ne dX7_odds_204 (by decide) rfl, ?_⟩
  refine List.forall_mem_cons.mpr ⟨so_iload dX7_odds_207 rfl, ?_⟩
  refine List.forall_mem_cons.mpr ⟨so_goto dX7_odds_209 (by decide), ?_⟩
  refine List.forall_mem_cons.mpr ⟨so_iconst dX7_odds_212 (by decide) rfl, ?_⟩
  refine List.forall_mem_cons.mpr ⟨so_iadd dX7_odds_213 rfl, ?_⟩
  refine List.forall_mem_cons.mpr ⟨so_istore dX7_odds_214 rfl, ?_⟩
  refine List.forall_mem_cons.mpr ⟨so_iinc dX7_odds_216 (by decide) rfl, ?_⟩
  refine List.forall_mem_cons.mpr ⟨so_goto dX7_odds_219 (by decide), ?_⟩
  refine List.forall_mem_cons.mpr ⟨so_iload dX7_odds_222 rfl, ?_⟩
  refine List.forall_mem_cons.mpr ⟨so_iload dX7_odds_224 rfl, ?_⟩
  refine List.forall_mem_cons.mpr ⟨so_cs dX7_odds_226 mv_X7_gcd wm_X7_169 ⟨rfl, rfl⟩ (by decide) rfl, ?_⟩
  refine List.forall_mem_cons.mpr ⟨so_istore dX7_odds_229 rfl, ?_⟩
  refine List.forall_mem_cons.mpr ⟨so_iload dX7_odds_231 rfl, ?_⟩
  refine List.forall_mem_cons.mpr ⟨so_if_ne dX7_odds_233 (by decide) rfl, ?_⟩
  refine List.forall_mem_cons.mpr ⟨so_iload dX7_odds_236 rfl, ?_⟩
  refine List.forall_mem_cons.mpr ⟨so_iload dX7_odds_238 rfl, ?_⟩
  refine List.forall_mem_cons.mpr ⟨so_idiv dX7_odds_240 rfl, ?_⟩
  refine List.forall_mem_cons.mpr ⟨so_goto dX7_odds_241 (by decide), ?_⟩
  refine List.forall_mem_cons.mpr ⟨so_iload dX7_odds_244 rfl, ?_⟩
  refine List.forall_mem_cons.mpr ⟨so_iload dX7_odds_246 rfl, ?_⟩
  refine List.forall_mem_cons.mpr ⟨so_idiv dX7_odds_248 rfl, ?_⟩
  refine List.forall_mem_cons.mpr ⟨so_rI dX7_odds_249 rfl, ?_⟩
  exact fun _ h => absurd h List.not_mem_nil
theorem dX7_found_0 : decode cX7_found 0 = .ok (.aload_n 0, 1) := by decide +kernel
theorem dX7_found_1 : decode cX7_found 1 = .ok (.iconst 0, 1) := by decide +kernel
theorem dX7_found_2 : decode cX7_found 2 = .ok (.putfield 62, 3) := by decide +kernel
theorem dX7_found_5 : decode cX7_found 5 = .ok (.aload_n 0, 1) := by decide +kernel
theorem dX7_found_6 : decode cX7_found 6 = .ok (.iload_n 1, 1) := by decide +kernel
theorem dX7_found_7 : decode cX7_found 7 = .ok (.invokevirtual 130, 3) := by decide +kernel
theorem dX7_found_10 : decode cX7_found 10 = .ok (.ifCond .eq 13, 3) := by decide +kernel
theorem dX7_found_13 : decode cX7_found 13 = .ok (.iload_n 2, 1) := by decide +kernel
theorem dX7_found_14 : decode cX7_found 14 = .ok (.iconst 0, 1) := by decide +kernel
theorem dX7_found_15 : decode cX7_found 15 = .ok (.bipush 99, 2) := by decide +kernel
theorem dX7_found_17 : decode cX7_found 17 = .ok (.invokestatic 66, 3) := by decide +kernel
theorem dX7_found_20 : decode cX7_found 20 = .ok (.ifCond .ne 5, 3) := by decide +kernel
theorem dX7_found_23 : decode cX7_found 23 = .ok (.iconst (-1), 1) := by decide +kernel
theorem dX7_found_24 : decode cX7_found 24 = .ok (.ireturn, 1) := by decide +kernel
theorem dX7_found_25 : decode cX7_found 25 = .ok (.aload_n 0, 1) := by decide +kernel
theorem dX7_found_26 : decode cX7_found 26 = .ok (.getfield 118, 3) := by decide +kernel
theorem dX7_found_29 : decode cX7_found 29 = .ok (.bipush 6, 2) := by decide +kernel
theorem dX7_found_31 : decode cX7_found 31 = .ok (.if_icmp .ne 6, 3) := by decide +kernel
theorem dX7_found_34 : decode cX7_found 34 = .ok (.bipush (-3), 2) := by decide +kernel
theorem dX7_found_36 : decode cX7_found 36 = .ok (.ireturn, 1) := by decide +kernel
theorem dX7_found_37 : decode cX7_found 37 = .ok (.aload_n 0, 1) := by decide +kernel
theorem dX7_found_38 : decode cX7_found 38 = .ok (.getfield 44, 3) := by decide +kernel
theorem dX7_found_41 : decode cX7_found 41 = .ok (.aload_n 0, 1) := by decide +kernel
theorem dX7_found_42 : decode cX7_found 42 = .ok (.getfield 118, 3) := by decide +kernel
theorem dX7_found_45 : decode cX7_found 45 = .ok (.iload_n 1, 1) := by decide +kernel
theorem dX7_found_46 : decode cX7_found 46 = .ok (.iastore, 1) := by decide +kernel
theorem dX7_found_47 : decode cX7_found 47 = .ok (.aload_n 0, 1) := by decide +kernel
theorem dX7_found_48 : decode cX7_found 48 = .ok (.getfield 47, 3) := by decide +kernel
theorem dX7_found_51 : decode cX7_found 51 = .ok (.aload_n 0, 1) := by decide +kernel
theorem dX7_found_52 : decode cX7_found 52 = .ok (.getfield 118, 3) := by decide +kernel
theorem dX7_found_55 : decode cX7_found 55 = .ok (.iload_n 2, 1) := by decide +kernel
theorem dX7_found_56 : decode cX7_found 56 = .ok (.iastore, 1) := by decide +kernel
theorem dX7_found_57 : decode cX7_found 57 = .ok (.aload_n 0, 1) := by decide +kernel
theorem dX7_found_58 : decode cX7_found 58 = .ok (.dup, 1) := by decide +kernel
theorem dX7_found_59 : decode cX7_found 59 = .ok (.getfield 118, 3) := by decide +kernel
theorem dX7_found_62 : decode cX7_found 62 = .ok (.iconst 1, 1) := by decide +kernel
theorem dX7_found_63 : decode cX7_found 63 = .ok (.iadd, 1) := by decide +kernel
theorem dX7_found_64 : decode cX7_found 64 = .ok (.putfield 118, 3) := by decide +kernel
theorem dX7_found_67 : decode cX7_found 67 = .ok (.aload_n 0, 1) := by decide +kernel
theorem dX7_found_68 : decode cX7_found 68 = .ok (.getfield 118, 3) := by decide +kernel
theorem dX7_found_71 : decode cX7_found 71 = .ok (.ireturn, 1) := by decide +kernel
def T_X7_found : tk_Tb := [(0, tk_al 0 1), (1, tk_ic (0) 2), (2, tk_pI 7 0 5), (5, tk_al 0 6), (6, tk_il 1 7), (7, tk_cv 7 M_X7_isKerb 1 10), (10, tk_br (fun x => x = 0) 23 13), (13, tk_il 2 14), (14, tk_ic (0) 15), (15, tk_ic (99) 17), (17, tk_cs M_X7_in 3 20), (20, tk_br (fun x => x = 0) 23 25), (23, tk_ic (-1) 24), (24, tk_rI), (25, tk_al 0 26), (26, tk_gI 7 23 29), (29, tk_ic (6) 31), (31, tk_cm (fun x y => x = y) 34 37), (34, tk_ic (-3) 36), (36, tk_rI), (37, tk_al 0 38), (38, tk_gR 7 21 41), (41, tk_al 0 42), (42, tk_gI 7 23 45), (45, tk_il 1 46), (46, tk_si 9 (fun x => x) 47), (47, tk_al 0 48), (48, tk_gR 7 22 51), (51, tk_al 0 52), (52, tk_gI 7 23 55), (55, tk_il 2 56), (56, tk_si 9 (fun x => x) 57), (57, tk_al 0 58), (58, tk_dup 59), (59, tk_gI 7 23 62), (62, tk_ic (1) 63), (63, tk_bi (fun x y => x + y) 64), (64, tk_pI 7 23 67), (67, tk_al 0 68), (68, tk_gI 7 23 71), (71, tk_rI)]
set_option maxRecDepth 100000 in
theorem hT_X7_found (sc : Option (Nat × (Nat → Int32))) : ∀ x ∈ T_X7_found, tk_So sc M_X7_found x.1 x.2 := by
  unfold T_X7_found
  refine List.forall_mem_cons.mpr ⟨so_aload_n dX7_found_0 rfl rfl, ?_⟩
  refine List.forall_mem_cons.mpr ⟨so_iconst dX7_found_1 (by decide) rfl, ?_⟩
  refine List.forall_mem_cons.mpr ⟨so_pI (C := RX7) (T := TX7) (N := 29) dX7_found_2 (by decide) rfl rfl (by decide) rfl in_X7 wf_X7_62 tyX7 tyX7_ok nmX7 rfl (by decide +kernel) rfl, ?_⟩
  refine List.forall_mem_cons.mpr ⟨so_aload_n dX7_found_5 rfl rfl, ?_⟩
  refine List.forall_mem_cons.mpr ⟨so_iload_n dX7_found_6 rfl rfl, ?_⟩
  refine List.forall_mem_cons.mpr ⟨so_cv (T := TX7) (N := 29) dX7_found_7 mv_X7_isKerb wm_X7_130 (by decide) rfl ⟨rfl, rfl⟩ (by decide) rfl, ?_⟩
  refine List.forall_mem_cons.mpr ⟨so_if_eq dX7_found_10 (by decide) rfl, ?_⟩
  refine List.forall_mem_cons.mpr ⟨so_iload_n dX7_found_13 rfl rfl, ?_⟩
  refine List.forall_mem_cons.mpr ⟨so_iconst dX7_found_14 (by decide) rfl, ?_⟩
  refine List.forall_mem_cons.mpr ⟨so_bipush dX7_found_15 (by decide) rfl, ?_⟩
  refine List.forall_mem_cons.mpr ⟨so_cs dX7_found_17 mv_X7_in wm_X7_66 ⟨rfl, rfl⟩ (by decide) rfl, ?_⟩
  refine List.forall_mem_cons.mpr ⟨so_if_ne dX7_found_20 (by decide) rfl, ?_⟩
  refine List.forall_mem_cons.mpr ⟨so_iconst dX7_found_23 (by decide) rfl, ?_⟩
  refine List.forall_mem_cons.mpr ⟨so_rI dX7_found_24 rfl, ?_⟩
  refine List.forall_mem_cons.mpr ⟨so_aload_n dX7_found_25 rfl rfl, ?_⟩
  refine List.forall_mem_cons.mpr ⟨so_gI (C := RX7) (T := TX7) (N := 29) dX7_found_26 (by decide) rfl rfl (by decide) rfl in_X7 wf_X7_118 rfl, ?_⟩
  refine List.forall_mem_cons.mpr ⟨so_bipush dX7_found_29 (by decide) rfl, ?_⟩
  refine List.forall_mem_cons.mpr ⟨so_icmp_ne dX7_found_31 (by decide) rfl, ?_⟩
  refine List.forall_mem_cons.mpr ⟨so_bipush dX7_found_34 (by decide) rfl, ?_⟩
  refine List.forall_mem_cons.mpr ⟨so_rI dX7_found_36 rfl, ?_⟩
  refine List.forall_mem_cons.mpr ⟨so_aload_n dX7_found_37 rfl rfl, ?_⟩
  refine List.forall_mem_cons.mpr ⟨so_gR (C := RX7) (T := TX7) (N := 29) dX7_found_38 (by decide) rfl rfl (by decide) rfl in_X7 wf_X7_44 rfl, ?_⟩
  refine List.forall_mem_cons.mpr ⟨so_aload_n dX7_found_41 rfl rfl, ?_⟩
  refine List.forall_mem_cons.mpr ⟨so_gI (C := RX7) (T := TX7) (N := 29) dX7_found_42 (by decide) rfl rfl (by decide) rfl in_X7 wf_X7_118 rfl, ?_⟩
  refine List.forall_mem_cons.mpr ⟨so_iload_n dX7_found_45 rfl rfl, ?_⟩
  refine List.forall_mem_cons.mpr ⟨so_iastore dX7_found_46 rfl, ?_⟩
  refine List.forall_mem_cons.mpr ⟨so_aload_n dX7_found_47 rfl rfl, ?_⟩
  refine List.forall_mem_cons.mpr ⟨so_gR (C := RX7) (T := TX7) (N := 29) dX7_found_48 (by decide) rfl rfl (by decide) rfl in_X7 wf_X7_47 rfl, ?_⟩
  refine List.forall_mem_cons.mpr ⟨so_aload_n dX7_found_51 rfl rfl, ?_⟩
  refine List.forall_mem_cons.mpr ⟨so_gI (C := RX7) (T := TX7) (N := 29) dX7_found_52 (by decide) rfl rfl (by decide) rfl in_X7 wf_X7_118 rfl, ?_⟩
  refine List.forall_mem_cons.mpr ⟨so_iload_n dX7_found_55 rfl rfl, ?_⟩
  refine List.forall_mem_cons.mpr ⟨so_iastore dX7_found_56 rfl, ?_⟩
  refine List.forall_mem_cons.mpr ⟨so_aload_n dX7_found_57 rfl rfl, ?_⟩
  refine List.forall_mem_cons.mpr ⟨so_dup dX7_found_58 rfl, ?_⟩
  refine List.forall_mem_cons.mpr ⟨so_gI (C := RX7) (T := TX7) (N := 29) dX7_found_59 (by decide) rfl rfl (by decide) rfl in_X7 wf_X7_118 rfl, ?_⟩
  refine List.forall_mem_cons.mpr ⟨so_iconst dX7_found_62 (by decide) rfl, ?_⟩
  refine List.forall_mem_cons.mpr ⟨so_iadd dX7_found_63 rfl, ?_⟩
  refine List.forall_mem_cons.mpr ⟨so_pI (C := RX7) (T := TX7) (N := 29) dX7_found_64 (by decide) rfl rfl (by decide) rfl in_X7 wf_X7_118 tyX7 tyX7_ok nmX7 rfl (by decide +kernel) rfl, ?_⟩
  refine List.forall_mem_cons.mpr ⟨so_aload_n dX7_found_67 rfl rfl, ?_⟩
  refine List.forall_mem_cons.mpr ⟨so_gI (C := RX7) (T := TX7) (N := 29) dX7_found_68 (by decide) rfl rfl (by decide) rfl in_X7 wf_X7_118 rfl, ?_⟩
  refine List.forall_mem_cons.mpr ⟨so_rI dX7_found_71 rfl, ?_⟩
  exact fun _ h => absurd h List.not_mem_nil
theorem dX7_canBegin_0 : decode cX7_canBegin 0 = .ok (.iconst 1, 1) := by decide +kernel
theorem dX7_canBegin_1 : decode cX7_canBegin 1 = .ok (.istore_n 2, 1) := by decide +kernel
theorem dX7_canBegin_2 : decode cX7_canBegin 2 = .ok (.iconst 0, 1) := by decide +kernel
theorem dX7_canBegin_3 : decode cX7_canBegin 3 = .ok (.istore_n 3, 1) := by decide +kernel
theorem dX7_canBegin_4 : decode cX7_canBegin 4 = .ok (.iload_n 3, 1) := by decide +kernel
theorem dX7_canBegin_5 : decode cX7_canBegin 5 = .ok (.aload_n 0, 1) := by decide +kernel
theorem dX7_canBegin_6 : decode cX7_canBegin 6 = .ok (.getfield 118, 3) := by decide +kernel
theorem dX7_canBegin_9 : decode cX7_canBegin 9 = .ok (.if_icmp .ge 80, 3) := by decide +kernel
theorem dX7_canBegin_12 : decode cX7_canBegin 12 = .ok (.iload_n 2, 1) := by decide +kernel
theorem dX7_canBegin_13 : decode cX7_canBegin 13 = .ok (.ifCond .eq 76, 3) := by decide +kernel
theorem dX7_canBegin_16 : decode cX7_canBegin 16 = .ok (.aload_n 0, 1) := by decide +kernel
theorem dX7_canBegin_17 : decode cX7_canBegin 17 = .ok (.iload_n 1, 1) := by decide +kernel
theorem dX7_canBegin_18 : decode cX7_canBegin 18 = .ok (.putfield 146, 3) := by decide +kernel
theorem dX7_canBegin_21 : decode cX7_canBegin 21 = .ok (.aload_n 0, 1) := by decide +kernel
theorem dX7_canBegin_22 : decode cX7_canBegin 22 = .ok (.iconst 0, 1) := by decide +kernel
theorem dX7_canBegin_23 : decode cX7_canBegin 23 = .ok (.putfield 143, 3) := by decide +kernel
theorem dX7_canBegin_26 : decode cX7_canBegin 26 = .ok (.iconst 0, 1) := by decide +kernel
theorem dX7_canBegin_27 : decode cX7_canBegin 27 = .ok (.istore 4, 2) := by decide +kernel
theorem dX7_canBegin_29 : decode cX7_canBegin 29 = .ok (.iload 4, 2) := by decide +kernel
theorem dX7_canBegin_31 : decode cX7_canBegin 31 = .ok (.aload_n 0, 1) := by decide +kernel
theorem dX7_canBegin_32 : decode cX7_canBegin 32 = .ok (.getfield 47, 3) := by decide +kernel
theorem dX7_canBegin_35 : decode cX7_canBegin 35 = .ok (.iload_n 3, 1) := by decide +kernel
theorem dX7_canBegin_36 : decode cX7_canBegin 36 = .ok (.iaload, 1) := by decide +kernel
theorem dX7_canBegin_37 : decode cX7_canBegin 37 = .ok (.if_icmp .ge 20, 3) := by decide +kernel
theorem dX7_canBegin_40 : decode cX7_canBegin 40 = .ok (.aload_n 0, 1) := by decide +kernel
theorem dX7_canBegin_41 : decode cX7_canBegin 41 = .ok (.aload_n 0, 1) := by decide +kernel
theorem dX7_canBegin_42 : decode cX7_canBegin 42 = .ok (.iload 4, 2) := by decide +kernel
theorem dX7_canBegin_44 : decode cX7_canBegin 44 = .ok (.invokevirtual 127, 3) := by decide +kernel
theorem dX7_canBegin_47 : decode cX7_canBegin 47 = .ok (.invokevirtual 158, 3) := by decide +kernel
theorem dX7_canBegin_50 : decode cX7_canBegin 50 = .ok (.pop, 1) := by decide +kernel
theorem dX7_canBegin_51 : decode cX7_canBegin 51 = .ok (.iinc 4 1, 3) := by decide +kernel
theorem dX7_canBegin_54 : decode cX7_canBegin 54 = .ok (.goto (-25), 3) := by decide +kernel
theorem dX7_canBegin_57 : decode cX7_canBegin 57 = .ok (.aload_n 0, 1) := by decide +kernel
theorem dX7_canBegin_58 : decode cX7_canBegin 58 = .ok (.getfield 143, 3) := by decide +kernel
theorem dX7_canBegin_61 : decode cX7_canBegin 61 = .ok (.ifCond .ne 20, 3) := by decide +kernel
theorem dX7_canBegin_64 : decode cX7_canBegin 64 = .ok (.aload_n 0, 1) := by decide +kernel
theorem dX7_canBegin_65 : decode cX7_canBegin 65 = .ok (.getfield 146, 3) := by decide +kernel
theorem dX7_canBegin_68 : decode cX7_canBegin 68 = .ok (.aload_n 0, 1) := by decide +kernel
theorem dX7_canBegin_69 : decode cX7_canBegin 69 = .ok (.getfield 44, 3) := by decide +kernel
theorem dX7_canBegin_72 : decode cX7_canBegin 72 = .ok (.iload_n 3, 1) := by decide +kernel
theorem dX7_canBegin_73 : decode cX7_canBegin 73 = .ok (.iaload, 1) := by decide +kernel
theorem dX7_canBegin_74 : decode cX7_canBegin 74 = .ok (.if_icmp .ne 7, 3) := by decide +kernel
theorem dX7_canBegin_77 : decode cX7_canBegin 77 = .ok (.iconst 1, 1) := by decide +kernel
theorem dX7_canBegin_78 : decode cX7_canBegin 78 = .ok (.goto 4, 3) := by decide +kernel
theorem dX7_canBegin_81 : decode cX7_canBegin 81 = .ok (.iconst 0, 1) := by decide +kernel
theorem dX7_canBegin_82 : decode cX7_canBegin 82 = .ok (.istore_n 2, 1) := by decide +kernel
theorem dX7_canBegin_83 : decode cX7_canBegin 83 = .ok (.iinc 3 1, 3) := by decide +kernel
theorem dX7_canBegin_86 : decode cX7_canBegin 86 = .ok (.goto (-82), 3) := by decide +kernel
theorem dX7_canBegin_89 : decode cX7_canBegin 89 = .ok (.iload_n 2, 1) := by decide +kernel
theorem dX7_canBegin_90 : decode cX7_canBegin 90 = .ok (.ireturn, 1) := by decide +kernel
def T_X7_canBegin : tk_Tb := [(0, tk_ic (1) 1), (1, tk_sI 2 2), (2, tk_ic (0) 3), (3, tk_sI 3 4), (4, tk_il 3 5), (5, tk_al 0 6), (6, tk_gI 7 23 9), (9, tk_cm (fun x y => y ≤ x) 89 12), (12, tk_il 2 13), (13, tk_br (fun x => x = 0) 89 16), (16, tk_al 0 17), (17, tk_il 1 18), (18, tk_pI 7 27 21), (21, tk_al 0 22), (22, tk_ic (0) 23), (23, tk_pI 7 28 26), (26, tk_ic (0) 27), (27, tk_sI 4 29), (29, tk_il 4 31), (31, tk_al 0 32), (32, tk_gR 7 22 35), (35, tk_il 3 36), (36, tk_ai 9 37), (37, tk_cm (fun x y => y ≤ x) 57 40), (40, tk_al 0 41), (41, tk_al 0 42), (42, tk_il 4 44), (44, tk_cv 7 M_X7_levelOf 1 47), (47, tk_cv 7 M_X7_goes 1 50), (50, tk_pp 51), (51, tk_inc 4 (1) 54), (54, tk_jmp 29), (57, tk_al 0 58), (58, tk_gI 7 28 61), (61, tk_br (fun x => x = 0) 64 81), (64, tk_al 0 65), (65, tk_gI 7 27 68), (68, tk_al 0 69), (69, tk_gR 7 21 72), (72, tk_il 3 73), (73, tk_ai 9 74), (74, tk_cm (fun x y => x = y) 77 81), (77, tk_ic (1) 78), (78, tk_jmp 82), (81, tk_ic (0) 82), (82, tk_sI 2 83), (83, tk_inc 3 (1) 86), (86, tk_jmp 4), (89, tk_il 2 90), (90, tk_rZ)]
set_option maxRecDepth 100000 in
theorem hT_X7_canBegin (sc : Option (Nat × (Nat → Int32))) : ∀ x ∈ T_X7_canBegin, tk_So sc M_X7_canBegin x.1 x.2 := by
  unfold T_X7_canBegin
  refine List.forall_mem_cons.mpr ⟨so_iconst dX7_canBegin_0 (by decide) rfl, ?_⟩
  refine List.forall_mem_cons.mpr ⟨so_istore_n dX7_canBegin_1 rfl rfl, ?_⟩
  refine List.forall_mem_cons.mpr ⟨so_iconst dX7_canBegin_2 (by decide) rfl, ?_⟩
  refine List.forall_mem_cons.mpr ⟨so_istore_n dX7_canBegin_3 rfl rfl, ?_⟩
  refine List.forall_mem_cons.mpr ⟨so_iload_n dX7_canBegin_4 rfl rfl, ?_⟩
  refine List.forall_mem_cons.mpr ⟨so_aload_n dX7_canBegin_5 rfl rfl, ?_⟩
  refine List.forall_mem_cons.mpr ⟨so_gI (C := RX7) (T := TX7) (N := 29) dX7_canBegin_6 (by decide) rfl rfl (by decide) rfl in_X7 wf_X7_118 rfl, ?_⟩
  refine List.forall_mem_cons.mpr ⟨so_icmp_ge dX7_canBegin_9 (by decide) rfl, ?_⟩
  refine List.forall_mem_cons.mpr ⟨so_iload_n dX7_canBegin_12 rfl rfl, ?_⟩
  refine List.forall_mem_cons.mpr ⟨so_if_eq dX7_canBegin_13 (by decide) rfl, ?_⟩
  refine List.forall_mem_cons.mpr ⟨so_aload_n dX7_canBegin_16 rfl rfl, ?_⟩
  refine List.forall_mem_cons.mpr ⟨so_iload_n dX7_canBegin_17 rfl rfl, ?_⟩
  refine List.forall_mem_cons.mpr ⟨so_pI (C := RX7) (T := TX7) (N := 29) dX7_canBegin_18 (by decide) rfl rfl (by decide) rfl in_X7 wf_X7_146 tyX7 tyX7_ok nmX7 rfl (by decide +kernel) rfl, ?_⟩
  refine List.forall_mem_cons.mpr ⟨so_aload_n dX7_canBegin_21 rfl rfl, ?_⟩
  refine List.forall_mem_cons.mpr ⟨so_iconst dX7_canBegin_22 (by decide) rfl, ?_⟩
  refine List.forall_mem_cons.mpr ⟨so_pI (C := RX7) (T := TX7) (N := 29) dX7_canBegin_23 (by decide) rfl rfl (by decide) rfl in_X7 wf_X7_143 tyX7 tyX7_ok nmX7 rfl (by decide +kernel) rfl, ?_⟩
  refine List.forall_mem_cons.mpr ⟨so_iconst dX7_canBegin_26 (by decide) rfl, ?_⟩
  refine List.forall_mem_cons.mpr ⟨so_istore dX7_canBegin_27 rfl, ?_⟩
  refine List.forall_mem_cons.mpr ⟨so_iload dX7_canBegin_29 rfl, ?_⟩
  refine List.forall_mem_cons.mpr ⟨so_aload_n dX7_canBegin_31 rfl rfl, ?_⟩
  refine List.forall_mem_cons.mpr ⟨so_gR (C := RX7) (T := TX7) (N := 29) dX7_canBegin_32 (by decide) rfl rfl (by decide) rfl in_X7 wf_X7_47 rfl, ?_⟩
  refine List.forall_mem_cons.mpr ⟨so_iload_n dX7_canBegin_35 rfl rfl, ?_⟩
  refine List.forall_mem_cons.mpr ⟨so_iaload dX7_canBegin_36 rfl, ?_⟩
  refine List.forall_mem_cons.mpr ⟨so_icmp_ge dX7_canBegin_37 (by decide) rfl, ?_⟩
  refine List.forall_mem_cons.mpr ⟨so_aload_n dX7_canBegin_40 rfl rfl, ?_⟩
  refine List.forall_mem_cons.mpr ⟨so_aload_n dX7_canBegin_41 rfl rfl, ?_⟩
  refine List.forall_mem_cons.mpr ⟨so_iload dX7_canBegin_42 rfl, ?_⟩
  refine List.forall_mem_cons.mpr ⟨so_cv (T := TX7) (N := 29) dX7_canBegin_44 mv_X7_levelOf wm_X7_127 (by decide) rfl ⟨rfl, rfl⟩ (by decide) rfl, ?_⟩
  refine List.forall_mem_cons.mpr ⟨so_cv (T := TX7) (N := 29) dX7_canBegin_47 mv_X7_goes wm_X7_158 (by decide) rfl ⟨rfl, rfl⟩ (by decide) rfl, ?_⟩
  refine List.forall_mem_cons.mpr ⟨so_pop dX7_canBegin_50 rfl, ?_⟩
  refine List.forall_mem_cons.mpr ⟨so_iinc dX7_canBegin_51 (by decide) rfl, ?_⟩
  refine List.forall_mem_cons.mpr ⟨so_goto dX7_canBegin_54 (by decide), ?_⟩
  refine List.forall_mem_cons.mpr ⟨so_aload_n dX7_canBegin_57 rfl rfl, ?_⟩
  refine List.forall_mem_cons.mpr ⟨so_gI (C := RX7) (T := TX7) (N := 29) dX7_canBegin_58 (by decide) rfl rfl (by decide) rfl in_X7 wf_X7_143 rfl, ?_⟩
  refine List.forall_mem_cons.mpr ⟨so_if_ne dX7_canBegin_61 (by decide) rfl, ?_⟩
  refine List.forall_mem_cons.mpr ⟨so_aload_n dX7_canBegin_64 rfl rfl, ?_⟩
  refine List.forall_mem_cons.mpr ⟨so_gI (C := RX7) (T := TX7) (N := 29) dX7_canBegin_65 (by decide) rfl rfl (by decide) rfl in_X7 wf_X7_146 rfl, ?_⟩
  refine List.forall_mem_cons.mpr ⟨so_aload_n dX7_canBegin_68 rfl rfl, ?_⟩
  refine List.forall_mem_cons.mpr ⟨so_gR (C := RX7) (T := TX7) (N := 29) dX7_canBegin_69 (by decide) rfl rfl (by decide) rfl in_X7 wf_X7_44 rfl, ?_⟩
  refine List.forall_mem_cons.mpr ⟨so_iload_n dX7_canBegin_72 rfl rfl, ?_⟩
  refine List.forall_mem_cons.mpr ⟨so_iaload dX7_canBegin_73 rfl, ?_⟩
  refine List.forall_mem_cons.mpr ⟨so_icmp_ne dX7_canBegin_74 (by decide) rfl, ?_⟩
  refine List.forall_mem_cons.mpr ⟨so_iconst dX7_canBegin_77 (by decide) rfl, ?_⟩
  refine List.forall_mem_cons.mpr ⟨so_goto dX7_canBegin_78 (by decide), ?_⟩
  refine List.forall_mem_cons.mpr ⟨so_iconst dX7_canBegin_81 (by decide) rfl, ?_⟩
  refine List.forall_mem_cons.mpr ⟨so_istore_n dX7_canBegin_82 rfl rfl, ?_⟩
  refine List.forall_mem_cons.mpr ⟨so_iinc dX7_canBegin_83 (by decide) rfl, ?_⟩
  refine List.forall_mem_cons.mpr ⟨so_goto dX7_canBegin_86 (by decide), ?_⟩
  refine List.forall_mem_cons.mpr ⟨so_iload_n dX7_canBegin_89 rfl rfl, ?_⟩
  refine List.forall_mem_cons.mpr ⟨so_rZ dX7_canBegin_90 rfl, ?_⟩
  exact fun _ h => absurd h List.not_mem_nil
