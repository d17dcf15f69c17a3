theorem dX3_readItemEnd_0 : decode cX3_readItemEnd 0 = .ok (.aload_n 0, 1) := by decide +kernel
theorem dX3_readItemEnd_1 : decode cX3_readItemEnd 1 = .ok (.invokevirtual 31, 3) := by decide +kernel
theorem dX3_readItemEnd_4 : decode cX3_readItemEnd 4 = .ok (.aload_n 0, 1) := by decide +kernel
theorem dX3_readItemEnd_5 : decode cX3_readItemEnd 5 = .ok (.getfield 34, 3) := by decide +kernel
theorem dX3_readItemEnd_8 : decode cX3_readItemEnd 8 = .ok (.bipush 59, 2) := by decide +kernel
theorem dX3_readItemEnd_10 : decode cX3_readItemEnd 10 = .ok (.if_icmp .ne 7, 3) := by decide +kernel
theorem dX3_readItemEnd_13 : decode cX3_readItemEnd 13 = .ok (.iconst 1, 1) := by decide +kernel
theorem dX3_readItemEnd_14 : decode cX3_readItemEnd 14 = .ok (.goto 4, 3) := by decide +kernel
theorem dX3_readItemEnd_17 : decode cX3_readItemEnd 17 = .ok (.iconst 0, 1) := by decide +kernel
theorem dX3_readItemEnd_18 : decode cX3_readItemEnd 18 = .ok (.ireturn, 1) := by decide +kernel
def T_X3_readItemEnd : tk_Tb := [(0, tk_al 0 1), (1, tk_cv 3 M_X3_readToken 0 4), (4, tk_al 0 5), (5, tk_gI 3 3 8), (8, tk_ic (59) 10), (10, tk_cm (fun x y => x = y) 13 17), (13, tk_ic (1) 14), (14, tk_jmp 18), (17, tk_ic (0) 18), (18, tk_rZ)]
set_option maxRecDepth 100000 in
theorem hT_X3_readItemEnd (sc : Option (Nat × (Nat → Int32))) : ∀ x ∈ T_X3_readItemEnd, tk_So sc M_X3_readItemEnd x.1 x.2 := by
  unfold T_X3_readItemEnd
  refine List.forall_mem_cons.mpr ⟨so_aload_n dX3_readItemEnd_0 rfl rfl, ?_⟩
  refine List.forall_mem_cons.mpr ⟨so_cv (T := TX3) (N := 7) dX3_readItemEnd_1 mv_X3_readToken wm_X3_31 (by decide) rfl ⟨rfl, rfl⟩ (by decide) rfl, ?_⟩
  refine List.forall_mem_cons.mpr ⟨so_aload_n dX3_readItemEnd_4 rfl rfl, ?_⟩
  refine List.forall_mem_cons.mpr ⟨so_gI (C := RX3) (T := TX3) (N := 7) dX3_readItemEnd_5 (by decide) rfl rfl (by decide) rfl in_X3 wf_X3_34 rfl, ?_⟩
  refine List.forall_mem_cons.mpr ⟨so_bipush dX3_readItemEnd_8 (by decide) rfl, ?_⟩
  refine List.forall_mem_cons.mpr ⟨so_icmp_ne dX3_readItemEnd_10 (by decide) rfl, ?_⟩
  refine List.forall_mem_cons.mpr ⟨so_iconst dX3_readItemEnd_13 (by decide) rfl, ?_⟩
  refine List.forall_mem_cons.mpr ⟨so_goto dX3_readItemEnd_14 (by decide), ?_⟩
  refine List.forall_mem_cons.mpr ⟨so_iconst dX3_readItemEnd_17 (by decide) rfl, ?_⟩
  refine List.forall_mem_cons.mpr ⟨so_rZ dX3_readItemEnd_18 rfl, ?_⟩
  exact fun _ h => absurd h List.not_mem_nil
theorem dX5_hasRoomForKerb_0 : decode cX5_hasRoomForKerb 0 = .ok (.aload_n 0, 1) := by decide +kernel
theorem dX5_hasRoomForKerb_1 : decode cX5_hasRoomForKerb 1 = .ok (.getfield 34, 3) := by decide +kernel
theorem dX5_hasRoomForKerb_4 : decode cX5_hasRoomForKerb 4 = .ok (.bipush 8, 2) := by decide +kernel
theorem dX5_hasRoomForKerb_6 : decode cX5_hasRoomForKerb 6 = .ok (.if_icmp .ge 7, 3) := by decide +kernel
theorem dX5_hasRoomForKerb_9 : decode cX5_hasRoomForKerb 9 = .ok (.iconst 1, 1) := by decide +kernel
theorem dX5_hasRoomForKerb_10 : decode cX5_hasRoomForKerb 10 = .ok (.goto 4, 3) := by decide +kernel
theorem dX5_hasRoomForKerb_13 : decode cX5_hasRoomForKerb 13 = .ok (.iconst 0, 1) := by decide +kernel
theorem dX5_hasRoomForKerb_14 : decode cX5_hasRoomForKerb 14 = .ok (.ireturn, 1) := by decide +kernel
def T_X5_hasRoomForKerb : tk_Tb := [(0, tk_al 0 1), (1, tk_gI 5 3 4), (4, tk_ic (8) 6), (6, tk_cm (fun x y => y ≤ x) 13 9), (9, tk_ic (1) 10), (10, tk_jmp 14), (13, tk_ic (0) 14), (14, tk_rZ)]
set_option maxRecDepth 100000 in
theorem hT_X5_hasRoomForKerb (sc : Option (Nat × (Nat → Int32))) : ∀ x ∈ T_X5_hasRoomForKerb, tk_So sc M_X5_hasRoomForKerb x.1 x.2 := by
  unfold T_X5_hasRoomForKerb
  refine List.forall_mem_cons.mpr ⟨so_aload_n dX5_hasRoomForKerb_0 rfl rfl, ?_⟩
  refine List.forall_mem_cons.mpr ⟨so_gI (C := RX5) (T := TX5) (N := 10) dX5_hasRoomForKerb_1 (by decide) rfl rfl (by decide) rfl in_X5 wf_X5_34 rfl, ?_⟩
  refine List.forall_mem_cons.mpr ⟨so_bipush dX5_hasRoomForKerb_4 (by decide) rfl, ?_⟩
  refine List.forall_mem_cons.mpr ⟨so_icmp_ge dX5_hasRoomForKerb_6 (by decide) rfl, ?_⟩
  refine List.forall_mem_cons.mpr ⟨so_iconst dX5_hasRoomForKerb_9 (by decide) rfl, ?_⟩
  refine List.forall_mem_cons.mpr ⟨so_goto dX5_hasRoomForKerb_10 (by decide), ?_⟩
  refine List.forall_mem_cons.mpr ⟨so_iconst dX5_hasRoomForKerb_13 (by decide) rfl, ?_⟩
  refine List.forall_mem_cons.mpr ⟨so_rZ dX5_hasRoomForKerb_14 rfl, ?_⟩
  exact fun _ h => absurd h List.not_mem_nil
theorem dX5_addKerb_0 : decode cX5_addKerb 0 = .ok (.aload_n 0, 1) := by decide +kernel
theorem dX5_addKerb_1 : decode cX5_addKerb 1 = .ok (.invokevirtual 50, 3) := by decide +kernel
theorem dX5_addKerb_4 : decode cX5_addKerb 4 = .ok (.ifCond .eq 56, 3) := by decide +kernel
theorem dX5_addKerb_7 : decode cX5_addKerb 7 = .ok (.aload_n 0, 1) := by decide +kernel
theorem dX5_addKerb_8 : decode cX5_addKerb 8 = .ok (.getfield 9, 3) := by decide +kernel
theorem dX5_addKerb_11 : decode cX5_addKerb 11 = .ok (.aload_n 0, 1) := by decide +kernel
theorem dX5_addKerb_12 : decode cX5_addKerb 12 = .ok (.getfield 34, 3) := by decide +kernel
theorem dX5_addKerb_15 : decode cX5_addKerb 15 = .ok (.iload_n 1, 1) := by decide +kernel
theorem dX5_addKerb_16 : decode cX5_addKerb 16 = .ok (.iastore, 1) := by decide +kernel
theorem dX5_addKerb_17 : decode cX5_addKerb 17 = .ok (.aload_n 0, 1) := by decide +kernel
theorem dX5_addKerb_18 : decode cX5_addKerb 18 = .ok (.getfield 15, 3) := by decide +kernel
theorem dX5_addKerb_21 : decode cX5_addKerb 21 = .ok (.aload_n 0, 1) := by decide +kernel
theorem dX5_addKerb_22 : decode cX5_addKerb 22 = .ok (.getfield 34, 3) := by decide +kernel
theorem dX5_addKerb_25 : decode cX5_addKerb 25 = .ok (.iload_n 2, 1) := by decide +kernel
theorem dX5_addKerb_26 : decode cX5_addKerb 26 = .ok (.iastore, 1) := by decide +kernel
theorem dX5_addKerb_27 : decode cX5_addKerb 27 = .ok (.aload_n 0, 1) := by decide +kernel
theorem dX5_addKerb_28 : decode cX5_addKerb 28 = .ok (.getfield 18, 3) := by decide +kernel
theorem dX5_addKerb_31 : decode cX5_addKerb 31 = .ok (.aload_n 0, 1) := by decide +kernel
theorem dX5_addKerb_32 : decode cX5_addKerb 32 = .ok (.getfield 34, 3) := by decide +kernel
theorem dX5_addKerb_35 : decode cX5_addKerb 35 = .ok (.aload_n 0, 1) := by decide +kernel
theorem dX5_addKerb_36 : decode cX5_addKerb 36 = .ok (.getfield 34, 3) := by decide +kernel
theorem dX5_addKerb_39 : decode cX5_addKerb 39 = .ok (.iastore, 1) := by decide +kernel
theorem dX5_addKerb_40 : decode cX5_addKerb 40 = .ok (.aload_n 0, 1) := by decide +kernel
theorem dX5_addKerb_41 : decode cX5_addKerb 41 = .ok (.getfield 21, 3) := by decide +kernel
theorem dX5_addKerb_44 : decode cX5_addKerb 44 = .ok (.aload_n 0, 1) := by decide +kernel
theorem dX5_addKerb_45 : decode cX5_addKerb 45 = .ok (.getfield 34, 3) := by decide +kernel
theorem dX5_addKerb_48 : decode cX5_addKerb 48 = .ok (.iconst 1, 1) := by decide +kernel
theorem dX5_addKerb_49 : decode cX5_addKerb 49 = .ok (.iastore, 1) := by decide +kernel
theorem dX5_addKerb_50 : decode cX5_addKerb 50 = .ok (.aload_n 0, 1) := by decide +kernel
theorem dX5_addKerb_51 : decode cX5_addKerb 51 = .ok (.dup, 1) := by decide +kernel
theorem dX5_addKerb_52 : decode cX5_addKerb 52 = .ok (.getfield 34, 3) := by decide +kernel
theorem dX5_addKerb_55 : decode cX5_addKerb 55 = .ok (.iconst 1, 1) := by decide +kernel
theorem dX5_addKerb_56 : decode cX5_addKerb 56 = .ok (.iadd, 1) := by decide +kernel
theorem dX5_addKerb_57 : decode cX5_addKerb 57 = .ok (.putfield 34, 3) := by decide +kernel
theorem dX5_addKerb_60 : decode cX5_addKerb 60 = .ok (.return_, 1) := by decide +kernel
def T_X5_addKerb : tk_Tb := [(0, tk_al 0 1), (1, tk_cv 5 M_X5_hasRoomForKerb 0 4), (4, tk_br (fun x => x = 0) 60 7), (7, tk_al 0 8), (8, tk_gR 5 5 11), (11, tk_al 0 12), (12, tk_gI 5 3 15), (15, tk_il 1 16), (16, tk_si 9 (fun x => x) 17), (17, tk_al 0 18), (18, tk_gR 5 6 21), (21, tk_al 0 22), (22, tk_gI 5 3 25), (25, tk_il 2 26), (26, tk_si 9 (fun x => x) 27), (27, tk_al 0 28), (28, tk_gR 5 7 31), (31, tk_al 0 32), (32, tk_gI 5 3 35), (35, tk_al 0 36), (36, tk_gI 5 3 39), (39, tk_si 9 (fun x => x) 40), (40, tk_al 0 41), (41, tk_gR 5 8 44), (44, tk_al 0 45), (45, tk_gI 5 3 48), (48, tk_ic (1) 49), (49, tk_si 9 (fun x => x) 50), (50, tk_al 0 51), (51, tk_dup 52), (52, tk_gI 5 3 55), (55, tk_ic (1) 56), (56, tk_bi (fun x y => x + y) 57), (57, tk_pI 5 3 60), (60, tk_rV)]
set_option maxRecDepth 100000 in
theorem hT_X5_addKerb (sc : Option (Nat × (Nat → Int32))) : ∀ x ∈ T_X5_addKerb, tk_So sc M_X5_addKerb x.1 x.2 := by
  unfold T_X5_addKerb
  refine List.forall_mem_cons.mpr ⟨so_aload_n dX5_addKerb_0 rfl rfl, ?_⟩
  refine List.forall_mem_cons.mpr ⟨so_cv (T := TX5) (N := 10) dX5_addKerb_1 mv_X5_hasRoomForKerb wm_X5_50 (by decide) rfl ⟨rfl, rfl⟩ (by decide) rfl, ?_⟩
  refine List.forall_mem_cons.mpr ⟨so_if_eq dX5_addKerb_4 (by decide) rfl, ?_⟩
  refine List.forall_mem_cons.mpr ⟨so_aload_n dX5_addKerb_7 rfl rfl, ?_⟩
  refine List.forall_mem_cons.mpr ⟨so_gR (C := RX5) (T := TX5) (N := 10) dX5_addKerb_8 (by decide) rfl rfl (by decide) rfl in_X5 wf_X5_9 rfl, ?_⟩
  refine List.forall_mem_cons.mpr ⟨so_aload_n dX5_addKerb_11 rfl rfl, ?_⟩
  refine List.forall_mem_cons.mpr ⟨so_gI (C := RX5) (T := TX5) (N := 10) dX5_addKerb_12 (by decide) rfl rfl (by decide) rfl in_X5 wf_X5_34 rfl, ?_⟩
  refine List.forall_mem_cons.mpr ⟨so_iload_n dX5_addKerb_15 rfl rfl, ?_⟩
  refine List.forall_mem_cons.mpr ⟨so_iastore dX5_addKerb_16 rfl, ?_⟩
  refine List.forall_mem_cons.mpr ⟨so_aload_n dX5_addKerb_17 rfl rfl, ?_⟩
  refine List.forall_mem_cons.mpr ⟨so_gR (C := RX5) (T := TX5) (N := 10) dX5_addKerb_18 (by decide) rfl rfl (by decide) rfl in_X5 wf_X5_15 rfl, ?_⟩
  refine List.forall_mem_cons.mpr ⟨so_aload_n dX5_addKerb_21 rfl rfl, ?_⟩
  refine List.forall_mem_cons.mpr ⟨so_gI (C := RX5) (T := TX5) (N := 10) dX5_addKerb_22 (by decide) rfl rfl (by decide) rfl in_X5 wf_X5_34 rfl, ?_⟩
  refine List.forall_mem_cons.mpr ⟨so_iload_n dX5_addKerb_25 rfl rfl, ?_⟩
  refine List.forall_mem_cons.mpr ⟨so_iastore dX5_addKerb_26 rfl, ?_⟩
  refine List.forall_mem_cons.mpr ⟨so_aload_n dX5_addKerb_27 rfl rfl, ?_⟩
  refine List.forall_mem_cons.mpr ⟨so_gR (C := RX5) (T := TX5) (N := 10) dX5_addKerb_28 (by decide) rfl rfl (by decide) rfl in_X5 wf_X5_18 rfl, ?_⟩
  refine List.forall_mem_cons.mpr ⟨so_aload_n dX5_addKerb_31 rfl rfl, ?_⟩
  refine List.forall_mem_cons.mpr ⟨so_gI (C := RX5) (T := TX5) (N := 10) dX5_addKerb_32 (by decide) rfl rfl (by decide) rfl in_X5 wf_X5_34 rfl, ?_⟩
  refine List.forall_mem_cons.mpr ⟨so_aload_n dX5_addKerb_35 rfl rfl, ?_⟩
  refine List.forall_mem_cons.mpr ⟨so_gI (C := RX5) (T := TX5) (N := 10) dX5_addKerb_36 (by decide) rfl rfl (by decide) rfl in_X5 wf_X5_34 rfl, ?_⟩
  refine List.forall_mem_cons.mpr ⟨so_iastore dX5_addKerb_39 rfl, ?_⟩
  refine List.forall_mem_cons.mpr ⟨so_aload_n dX5_addKerb_40 rfl rfl, ?_⟩
  refine List.forall_mem_cons.mpr ⟨so_gR (C := RX5) (T := TX5) (N := 10) dX5_addKerb_41 (by decide) rfl rfl (by decide) rfl in_X5 wf_X5_21 rfl, ?_⟩
  refine List.forall_mem_cons.mpr ⟨so_aload_n dX5_addKerb_44 rfl rfl, ?_⟩
  refine List.forall_mem_cons.mpr ⟨so_gI (C := RX5) (T := TX5) (N := 10) dX5_addKerb_45 (by decide) rfl rfl (by decide) rfl in_X5 wf_X5_34 rfl, ?_⟩
  refine List.forall_mem_cons.mpr ⟨so_iconst dX5_addKerb_48 (by decide) rfl, ?_⟩
  refine List.forall_mem_cons.mpr ⟨so_iastore dX5_addKerb_49 rfl, ?_⟩
  refine List.forall_mem_cons.mpr ⟨so_aload_n dX5_addKerb_50 rfl rfl, ?_⟩
  refine List.forall_mem_cons.mpr ⟨so_dup dX5_addKerb_51 rfl, ?_⟩
  refine List.forall_mem_cons.mpr ⟨so_gI (C := RX5) (T := TX5) (N := 10) dX5_addKerb_52 (by decide) rfl rfl (by decide) rfl in_X5 wf_X5_34 rfl, ?_⟩
  refine List.forall_mem_cons.mpr ⟨so_iconst dX5_addKerb_55 (by decide) rfl, ?_⟩
  refine List.forall_mem_cons.mpr ⟨so_iadd dX5_addKerb_56 rfl, ?_⟩
  refine List.forall_mem_cons.mpr ⟨so_pI (C := RX5) (T := TX5) (N := 10) dX5_addKerb_57 (by decide) rfl rfl (by decide) rfl in_X5 wf_X5_34 tyX5 tyX5_ok nmX5 rfl (by decide +kernel) rfl, ?_⟩
  refine List.forall_mem_cons.mpr ⟨so_rV dX5_addKerb_60 rfl, ?_⟩
  exact fun _ h => absurd h List.not_mem_nil
theorem dX3_readKerb_0 : decode cX3_readKerb 0 = .ok (.aload_n 0, 1) := by decide +kernel
theorem dX3_readKerb_1 : decode cX3_readKerb 1 = .ok (.iconst 0, 1) := by decide +kernel
theorem dX3_readKerb_2 : decode cX3_readKerb 2 = .ok (.iconst 1, 1) := by decide +kernel
theorem dX3_readKerb_3 : decode cX3_readKerb 3 = .ok (.invokevirtual 66, 3) := by decide +kernel
theorem dX3_readKerb_6 : decode cX3_readKerb 6 = .ok (.ifCond .ne 5, 3) := by decide +kernel
theorem dX3_readKerb_9 : decode cX3_readKerb 9 = .ok (.iconst 0, 1) := by decide +kernel
theorem dX3_readKerb_10 : decode cX3_readKerb 10 = .ok (.ireturn, 1) := by decide +kernel
theorem dX3_readKerb_11 : decode cX3_readKerb 11 = .ok (.aload_n 0, 1) := by decide +kernel
theorem dX3_readKerb_12 : decode cX3_readKerb 12 = .ok (.getfield 70, 3) := by decide +kernel
theorem dX3_readKerb_15 : decode cX3_readKerb 15 = .ok (.istore_n 2, 1) := by decide +kernel
theorem dX3_readKerb_16 : decode cX3_readKerb 16 = .ok (.aload_n 0, 1) := by decide +kernel
theorem dX3_readKerb_17 : decode cX3_readKerb 17 = .ok (.iconst 0, 1) := by decide +kernel
theorem dX3_readKerb_18 : decode cX3_readKerb 18 = .ok (.bipush 19, 2) := by decide +kernel
theorem dX3_readKerb_20 : decode cX3_readKerb 20 = .ok (.invokevirtual 66, 3) := by decide +kernel
theorem dX3_readKerb_23 : decode cX3_readKerb 23 = .ok (.ifCond .ne 5, 3) := by decide +kernel
theorem dX3_readKerb_26 : decode cX3_readKerb 26 = .ok (.iconst 0, 1) := by decide +kernel
theorem dX3_readKerb_27 : decode cX3_readKerb 27 = .ok (.ireturn, 1) := by decide +kernel
theorem dX3_readKerb_28 : decode cX3_readKerb 28 = .ok (.aload_n 1, 1) := by decide +kernel
theorem dX3_readKerb_29 : decode cX3_readKerb 29 = .ok (.iload_n 2, 1) := by decide +kernel
theorem dX3_readKerb_30 : decode cX3_readKerb 30 = .ok (.aload_n 0, 1) := by decide +kernel
theorem dX3_readKerb_31 : decode cX3_readKerb 31 = .ok (.getfield 70, 3) := by decide +kernel
theorem dX3_readKerb_34 : decode cX3_readKerb 34 = .ok (.invokevirtual 77, 3) := by decide +kernel
theorem dX3_readKerb_37 : decode cX3_readKerb 37 = .ok (.iconst 1, 1) := by decide +kernel
theorem dX3_readKerb_38 : decode cX3_readKerb 38 = .ok (.ireturn, 1) := by decide +kernel
def T_X3_readKerb : tk_Tb := [(0, tk_al 0 1), (1, tk_ic (0) 2), (2, tk_ic (1) 3), (3, tk_cv 3 M_X3_readNumber 2 6), (6, tk_br (fun x => x = 0) 9 11), (9, tk_ic (0) 10), (10, tk_rZ), (11, tk_al 0 12), (12, tk_gI 3 5 15), (15, tk_sI 2 16), (16, tk_al 0 17), (17, tk_ic (0) 18), (18, tk_ic (19) 20), (20, tk_cv 3 M_X3_readNumber 2 23), (23, tk_br (fun x => x = 0) 26 28), (26, tk_ic (0) 27), (27, tk_rZ), (28, tk_al 1 29), (29, tk_il 2 30), (30, tk_al 0 31), (31, tk_gI 3 5 34), (34, tk_cv 5 M_X5_addKerb 2 37), (37, tk_ic (1) 38), (38, tk_rZ)]
set_option maxRecDepth 100000 in
theorem hT_X3_readKerb (sc : Option (Nat × (Nat → Int32))) : ∀ x ∈ T_X3_readKerb, tk_So sc M_X3_readKerb x.1 x.2 := by
  unfold T_X3_readKerb
  refine List.forall_mem_cons.mpr ⟨so_aload_n dX3_readKerb_0 rfl rfl, ?_⟩
  refine List.forall_mem_cons.mpr ⟨so_iconst dX3_readKerb_1 (by decide) rfl, ?_⟩
  refine List.forall_mem_cons.mpr ⟨so_iconst dX3_readKerb_2 (by decide) rfl, ?_⟩
  refine List.forall_mem_cons.mpr ⟨so_cv (T := TX3) (N := 7) dX3_readKerb_3 mv_X3_readNumber wm_X3_66 (by decide) rfl ⟨rfl, rfl⟩ (by decide) rfl, ?_⟩
  refine List.forall_mem_cons.mpr ⟨so_if_ne dX3_readKerb_6 (by decide) rfl, ?_⟩
  refine List.forall_mem_cons.mpr ⟨so_iconst dX3_readKerb_9 (by decide) rfl, ?_⟩
  refine List.forall_mem_cons.mpr ⟨so_rZ dX3_readKerb_10 rfl, ?_⟩
  refine List.forall_mem_cons.mpr ⟨so_aload_n dX3_readKerb_11 rfl rfl, ?_⟩
  refine List.forall_mem_cons.mpr ⟨so_gI (C := RX3) (T := TX3) (N := 7) dX3_readKerb_12 (by decide) rfl rfl (by decide) rfl in_X3 wf_X3_70 rfl, ?_⟩
  refine List.forall_mem_cons.mpr ⟨so_istore_n dX3_readKerb_15 rfl rfl, ?_⟩
  refine List.forall_mem_cons.mpr ⟨so_aload_n dX3_readKerb_16 rfl rfl, ?_⟩
  refine List.forall_mem_cons.mpr ⟨so_iconst dX3_readKerb_17 (by decide) rfl, ?_⟩
  refine List.forall_mem_cons.mpr ⟨so_bipush dX3_readKerb_18 (by decide) rfl, ?_⟩
  refine List.forall_mem_cons.mpr ⟨so_cv (T := TX3) (N := 7) dX3_readKerb_20 mv_X3_readNumber wm_X3_66 (by decide) rfl ⟨rfl, rfl⟩ (by decide) rfl, ?_⟩
  refine List.forall_mem_cons.mpr ⟨so_if_ne dX3_readKerb_23 (by decide) rfl, ?_⟩
  refine List.forall_mem_cons.mpr ⟨so_iconst dX3_readKerb_26 (by decide) rfl, ?_⟩
  refine List.forall_mem_cons.mpr ⟨so_rZ dX3_readKerb_27 rfl, ?_⟩
  refine List.forall_mem_cons.mpr ⟨so_aload_n dX3_readKerb_28 rfl rfl, ?_⟩
  refine List.forall_mem_cons.mpr ⟨so_iload_n dX3_readKerb_29 rfl rfl, ?_⟩
  refine List.forall_mem_cons.mpr ⟨so_aload_n dX3_readKerb_30 rfl rfl, ?_⟩
  refine List.forall_mem_cons.mpr ⟨so_gI (C := RX3) (T := TX3) (N := 7) dX3_readKerb_31 (by decide) rfl rfl (by decide) rfl in_X3 wf_X3_70 rfl, ?_⟩
  refine List.forall_mem_cons.mpr ⟨so_cv (T := TX5) (N := 10) dX3_readKerb_34 mv_X5_addKerb wm_X3_77 (by decide) rfl ⟨rfl, rfl⟩ (by decide) rfl, ?_⟩
  refine List.forall_mem_cons.mpr ⟨so_iconst dX3_readKerb_37 (by decide) rfl, ?_⟩
  refine List.forall_mem_cons.mpr ⟨so_rZ dX3_readKerb_38 rfl, ?_⟩
  exact fun _ h => absurd h List.not_mem_nil
theorem dX5_setLevel_0 : decode cX5_setLevel 0 = .ok (.aload_n 0, 1) := by decide +kernel
theorem dX5_setLevel_1 : decode cX5_setLevel 1 = .ok (.iload_n 1, 1) := by decide +kernel
theorem dX5_setLevel_2 : decode cX5_setLevel 2 = .ok (.putfield 41, 3) := by decide +kernel
theorem dX5_setLevel_5 : decode cX5_setLevel 5 = .ok (.aload_n 0, 1) := by decide +kernel
theorem dX5_setLevel_6 : decode cX5_setLevel 6 = .ok (.iload_n 2, 1) := by decide +kernel
theorem dX5_setLevel_7 : decode cX5_setLevel 7 = .ok (.putfield 44, 3) := by decide +kernel
theorem dX5_setLevel_10 : decode cX5_setLevel 10 = .ok (.aload_n 0, 1) := by decide +kernel
theorem dX5_setLevel_11 : decode cX5_setLevel 11 = .ok (.iload_n 3, 1) := by decide +kernel
theorem dX5_setLevel_12 : decode cX5_setLevel 12 = .ok (.putfield 47, 3) := by decide +kernel
theorem dX5_setLevel_15 : decode cX5_setLevel 15 = .ok (.return_, 1) := by decide +kernel
def T_X5_setLevel : tk_Tb := [(0, tk_al 0 1), (1, tk_il 1 2), (2, tk_pI 5 0 5), (5, tk_al 0 6), (6, tk_il 2 7), (7, tk_pI 5 1 10), (10, tk_al 0 11), (11, tk_il 3 12), (12, tk_pI 5 2 15), (15, tk_rV)]
set_option maxRecDepth 100000 in
theorem hT_X5_setLevel (sc : Option (Nat × (Nat → Int32))) : ∀ x ∈ T_X5_setLevel, tk_So sc M_X5_setLevel x.1 x.2 := by
  unfold T_X5_setLevel
  refine List.forall_mem_cons.mpr ⟨so_aload_n dX5_setLevel_0 rfl rfl, ?_⟩
  refine List.forall_mem_cons.mpr ⟨so_iload_n dX5_setLevel_1 rfl rfl, ?_⟩
  refine List.forall_mem_cons.mpr ⟨so_pI (C := RX5) (T := TX5) (N := 10) dX5_setLevel_2 (by decide) rfl rfl (by decide) rfl in_X5 wf_X5_41 tyX5 tyX5_ok nmX5 rfl (by decide +kernel) rfl, ?_⟩
  refine List.forall_mem_cons.mpr ⟨so_aload_n dX5_setLevel_5 rfl rfl, ?_⟩
  refine List.forall_mem_cons.mpr ⟨so_iload_n dX5_setLevel_6 rfl rfl, ?_⟩
  refine List.forall_mem_cons.mpr ⟨so_pI (C := RX5) (T := TX5) (N := 10) dX5_setLevel_7 (by decide) rfl rfl (by decide) rfl in_X5 wf_X5_44 tyX5 tyX5_ok nmX5 rfl (by decide +kernel) rfl, ?_⟩
  refine List.forall_mem_cons.mpr ⟨so_aload_n dX5_setLevel_10 rfl rfl, ?_⟩
  refine List.forall_mem_cons.mpr ⟨so_iload_n dX5_setLevel_11 rfl rfl, ?_⟩
  refine List.forall_mem_cons.mpr ⟨so_pI (C := RX5) (T := TX5) (N := 10) dX5_setLevel_12 (by decide) rfl rfl (by decide) rfl in_X5 wf_X5_47 tyX5 tyX5_ok nmX5 rfl (by decide +kernel) rfl, ?_⟩
  refine List.forall_mem_cons.mpr ⟨so_rV dX5_setLevel_15 rfl, ?_⟩
  exact fun _ h => absurd h List.not_mem_nil
theorem dX3_readLevel_0 : decode cX3_readLevel 0 = .ok (.aload_n 0, 1) := by decide +kernel
theorem dX3_readLevel_1 : decode cX3_readLevel 1 = .ok (.iconst 2, 1) := by decide +kernel
theorem dX3_readLevel_2 : decode cX3_readLevel 2 = .ok (.bipush 20, 2) := by decide +kernel
theorem dX3_readLevel_4 : decode cX3_readLevel 4 = .ok (.invokevirtual 66, 3) := by decide +kernel
theorem dX3_readLevel_7 : decode cX3_readLevel 7 = .ok (.ifCond .ne 5, 3) := by decide +kernel
theorem dX3_readLevel_10 : decode cX3_readLevel 10 = .ok (.iconst 0, 1) := by decide +kernel
theorem dX3_readLevel_11 : decode cX3_readLevel 11 = .ok (.ireturn, 1) := by decide +kernel
theorem dX3_readLevel_12 : decode cX3_readLevel 12 = .ok (.aload_n 0, 1) := by decide +kernel
theorem dX3_readLevel_13 : decode cX3_readLevel 13 = .ok (.getfield 70, 3) := by decide +kernel
theorem dX3_readLevel_16 : decode cX3_readLevel 16 = .ok (.istore_n 2, 1) := by decide +kernel
theorem dX3_readLevel_17 : decode cX3_readLevel 17 = .ok (.aload_n 0, 1) := by decide +kernel
theorem dX3_readLevel_18 : decode cX3_readLevel 18 = .ok (.iconst 0, 1) := by decide +kernel
theorem dX3_readLevel_19 : decode cX3_readLevel 19 = .ok (.iload_n 2, 1) := by decide +kernel
theorem dX3_readLevel_20 : decode cX3_readLevel 20 = .ok (.iconst 1, 1) := by decide +kernel
theorem dX3_readLevel_21 : decode cX3_readLevel 21 = .ok (.isub, 1) := by decide +kernel
theorem dX3_readLevel_22 : decode cX3_readLevel 22 = .ok (.invokevirtual 66, 3) := by decide +kernel
theorem dX3_readLevel_25 : decode cX3_readLevel 25 = .ok (.ifCond .ne 5, 3) := by decide +kernel
theorem dX3_readLevel_28 : decode cX3_readLevel 28 = .ok (.iconst 0, 1) := by decide +kernel
theorem dX3_readLevel_29 : decode cX3_readLevel 29 = .ok (.ireturn, 1) := by decide +kernel
theorem dX3_readLevel_30 : decode cX3_readLevel 30 = .ok (.aload_n 0, 1) := by decide +kernel
theorem dX3_readLevel_31 : decode cX3_readLevel 31 = .ok (.getfield 70, 3) := by decide +kernel
theorem dX3_readLevel_34 : decode cX3_readLevel 34 = .ok (.istore_n 3, 1) := by decide +kernel
theorem dX3_readLevel_35 : decode cX3_readLevel 35 = .ok (.aload_n 0, 1) := by decide +kernel
theorem dX3_readLevel_36 : decode cX3_readLevel 36 = .ok (.iconst 0, 1) := by decide +kernel
theorem dX3_readLevel_37 : decode cX3_readLevel 37 = .ok (.iload_n 2, 1) := by decide +kernel
theorem dX3_readLevel_38 : decode cX3_readLevel 38 = .ok (.iconst 1, 1) := by decide +kernel
theorem dX3_readLevel_39 : decode cX3_readLevel 39 = .ok (.isub, 1) := by decide +kernel
theorem dX3_readLevel_40 : decode cX3_readLevel 40 = .ok (.invokevirtual 66, 3) := by decide +kernel
theorem dX3_readLevel_43 : decode cX3_readLevel 43 = .ok (.ifCond .ne 5, 3) := by decide +kernel
theorem dX3_readLevel_46 : decode cX3_readLevel 46 = .ok (.iconst 0, 1) := by decide +kernel
theorem dX3_readLevel_47 : decode cX3_readLevel 47 = .ok (.ireturn, 1) := by decide +kernel
theorem dX3_readLevel_48 : decode cX3_readLevel 48 = .ok (.aload_n 1, 1) := by decide +kernel
theorem dX3_readLevel_49 : decode cX3_readLevel 49 = .ok (.iload_n 2, 1) := by decide +kernel
theorem dX3_readLevel_50 : decode cX3_readLevel 50 = .ok (.iload_n 3, 1) := by decide +kernel
theorem dX3_readLevel_51 : decode cX3_readLevel 51 = .ok (.aload_n 0, 1) := by decide +kernel
theorem dX3_readLevel_52 : decode cX3_readLevel 52 = .ok (.getfield 70, 3) := by decide +kernel
theorem dX3_readLevel_55 : decode cX3_readLevel 55 = .ok (.invokevirtual 73, 3) := by decide +kernel
theorem dX3_readLevel_58 : decode cX3_readLevel 58 = .ok (.aload_n 0, 1) := by decide +kernel
theorem dX3_readLevel_59 : decode cX3_readLevel 59 = .ok (.iconst 1, 1) := by decide +kernel
theorem dX3_readLevel_60 : decode cX3_readLevel 60 = .ok (.putfield 24, 3) := by decide +kernel
theorem dX3_readLevel_63 : decode cX3_readLevel 63 = .ok (.iconst 1, 1) := by decide +kernel
theorem dX3_readLevel_64 : decode cX3_readLevel 64 = .ok (.ireturn, 1) := by decide +kernel
def T_X3_readLevel : tk_Tb := [(0, tk_al 0 1), (1, tk_ic (2) 2), (2, tk_ic (20) 4), (4, tk_cv 3 M_X3_readNumber 2 7), (7, tk_br (fun x => x = 0) 10 12), (10, tk_ic (0) 11), (11, tk_rZ), (12, tk_al 0 13), (13, tk_gI 3 5 16), (16, tk_sI 2 17), (17, tk_al 0 18), (18, tk_ic (0) 19), (19, tk_il 2 20), (20, tk_ic (1) 21), (21, tk_bi (fun x y => x - y) 22), (22, tk_cv 3 M_X3_readNumber 2 25), (25, tk_br (fun x => x = 0) 28 30), (28, tk_ic (0) 29), (29, tk_rZ), (30, tk_al 0 31), (31, tk_gI 3 5 34), (34, tk_sI 3 35), (35, tk_al 0 36), (36, tk_ic (0) 37), (37, tk_il 2 38), (38, tk_ic (1) 39), (39, tk_bi (fun x y => x - y) 40), (40, tk_cv 3 M_X3_readNumber 2 43), (43, tk_br (fun x => x = 0) 46 48), (46, tk_ic (0) 47), (47, tk_rZ), (48, tk_al 1 49), (49, tk_il 2 50), (50, tk_il 3 51), (51, tk_al 0 52), (52, tk_gI 3 5 55), (55, tk_cv 5 M_X5_setLevel 3 58), (58, tk_al 0 59), (59, tk_ic (1) 60), (60, tk_pZ 3 6 63), (63, tk_ic (1) 64), (64, tk_rZ)]
set_option maxRecDepth 100000 in
theorem hT_X3_readLevel (sc : Option (Nat × (Nat → Int32))) : ∀ x ∈ T_X3_readLevel, tk_So sc M_X3_readLevel x.1 x.2 := by
  unfold T_X3_readLevel
  refine List.forall_mem_cons.mpr ⟨so_aload_n dX3_readLevel_0 rfl rfl, ?_⟩
  refine List.forall_mem_cons.mpr ⟨so_iconst dX3_readLevel_1 (by decide) rfl, ?_⟩
  refine List.forall_mem_cons.mpr ⟨so_bipush dX3_readLevel_2 (by decide) rfl, ?_⟩
  refine List.forall_mem_cons.mpr ⟨so_cv (T := TX3) (N := 7) dX3_readLevel_4 mv_X3_readNumber wm_X3_66 (by decide) rfl ⟨rfl, rfl⟩ (by decide) rfl, ?_⟩
  refine List.forall_mem_cons.mpr ⟨so_if_ne dX3_readLevel_7 (by decide) rfl, ?_⟩
  refine List.forall_mem_cons.mpr ⟨so_iconst dX3_readLevel_10 (by decide) rfl, ?_⟩
  refine List.forall_mem_cons.mpr ⟨so_rZ dX3_readLevel_11 rfl, ?_⟩
  refine List.forall_mem_cons.mpr ⟨so_aload_n dX3_readLevel_12 rfl rfl, ?_⟩
  refine List.forall_mem_cons.mpr ⟨so_gI (C := RX3) (T := TX3) (N := 7) dX3_readLevel_13 (by decide) rfl rfl (by decide) rfl in_X3 wf_X3_70 rfl, ?_⟩
  refine List.forall_mem_cons.mpr ⟨so_istore_n dX3_readLevel_16 rfl rfl, ?_⟩
  refine List.forall_mem_cons.mpr ⟨so_aload_n dX3_readLevel_17 rfl rfl, ?_⟩
  refine List.forall_mem_cons.mpr ⟨so_iconst dX3_readLevel_18 (by decide) rfl, ?_⟩
  refine List.forall_mem_cons.mpr ⟨so_iload_n dX3_readLevel_19 rfl rfl, ?_⟩
  refine List.forall_mem_cons.mpr ⟨so_iconst dX3_readLevel_20 (by decide) rfl, ?_⟩
  refine List.forall_mem_cons.mpr ⟨so_isub dX3_readLevel_21 rfl, ?_⟩
  refine List.forall_mem_cons.mpr ⟨so_cv (T := TX3) (N := 7) dX3_readLevel_22 mv_X3_readNumber wm_X3_66 (by decide) rfl ⟨rfl, rfl⟩ (by decide) rfl, ?_⟩
  refine List.forall_mem_cons.mpr ⟨so_if_ne dX3_readLevel_25 (by decide) rfl, ?_⟩
  refine List.forall_mem_cons.mpr ⟨so_iconst dX3_readLevel_28 (by decide) rfl, ?_⟩
  refine List.forall_mem_cons.mpr ⟨so_rZ dX3_readLevel_29 rfl, ?_⟩
  refine List.forall_mem_cons.mpr ⟨so_aload_n dX3_readLevel_30 rfl rfl, ?_⟩
  refine List.forall_mem_cons.mpr ⟨so_gI (C := RX3) (T := TX3) (N := 7) dX3_readLevel_31 (by decide) rfl rfl (by decide) rfl in_X3 wf_X3_70 rfl, ?_⟩
  refine List.forall_mem_cons.mpr ⟨so_istore_n dX3_readLevel_34 rfl rfl, ?_⟩
  refine List.forall_mem_cons.mpr ⟨so_aload_n dX3_readLevel_35 rfl rfl, ?_⟩
  refine List.forall_mem_cons.mpr ⟨so_iconst dX3_readLevel_36 (by decide) rfl, ?_⟩
  refine List.forall_mem_cons.mpr ⟨so_iload_n dX3_readLevel_37 rfl rfl, ?_⟩
  refine List.forall_mem_cons.mpr ⟨so_iconst dX3_readLevel_38 (by decide) rfl, ?_⟩
  refine List.forall_mem_cons.mpr ⟨so_isub dX3_readLevel_39 rfl, ?_⟩
  refine List.forall_mem_cons.mpr ⟨so_cv (T := TX3) (N := 7) dX3_readLevel_40 mv_X3_readNumber wm_X3_66 (by decide) rfl ⟨rfl, rfl⟩ (by decide) rfl, ?_⟩
  refine List.forall_mem_cons.mpr ⟨so_if_ne dX3_readLevel_43 (by decide) rfl, ?_⟩
  refine List.forall_mem_cons.mpr ⟨so_iconst dX3_readLevel_46 (by decide) rfl, ?_⟩
  refine List.forall_mem_cons.mpr ⟨so_rZ dX3_readLevel_47 rfl, ?_⟩
  refine List.forall_mem_cons.mpr ⟨so_aload_n dX3_readLevel_48 rfl rfl, ?_⟩
  refine List.forall_mem_cons.mpr ⟨so_iload_n dX3_readLevel_49 rfl rfl, ?_⟩
  refine List.forall_mem_cons.mpr ⟨so_iload_n dX3_readLevel_50 rfl rfl, ?_⟩
  refine List.forall_mem_cons.mpr ⟨so_aload_n dX3_readLevel_51 rfl rfl, ?_⟩
  refine List.forall_mem_cons.mpr ⟨so_gI (C := RX3) (T := TX3) (N := 7) dX3_readLevel_52 (by decide) rfl rfl (by decide) rfl in_X3 wf_X3_70 rfl, ?_⟩
  refine List.forall_mem_cons.mpr ⟨so_cv (T := TX5) (N := 10) dX3_readLevel_55 mv_X5_setLevel wm_X3_73 (by decide) rfl ⟨rfl, rfl⟩ (by decide) rfl, ?_⟩
  refine List.forall_mem_cons.mpr ⟨so_aload_n dX3_readLevel_58 rfl rfl, ?_⟩
  refine List.forall_mem_cons.mpr ⟨so_iconst dX3_readLevel_59 (by decide) rfl, ?_⟩
  refine List.forall_mem_cons.mpr ⟨so_pZ (C := RX3) (T := TX3) (N := 7) dX3_readLevel_60 (by decide) rfl rfl (by decide) rfl in_X3 wf_X3_24 tyX3 tyX3_ok nmX3 rfl (by decide +kernel) rfl, ?_⟩
  refine List.forall_mem_cons.mpr ⟨so_iconst dX3_readLevel_63 (by decide) rfl, ?_⟩
  refine List.forall_mem_cons.mpr ⟨so_rZ dX3_readLevel_64 rfl, ?_⟩
  exact fun _ h => absurd h List.not_mem_nil
theorem dX5_hasRoomForThing_0 : decode cX5_hasRoomForThing 0 = .ok (.aload_n 0, 1) := by decide +kernel
theorem dX5_hasRoomForThing_1 : decode cX5_hasRoomForThing 1 = .ok (.getfield 38, 3) := by decide +kernel
theorem dX5_hasRoomForThing_4 : decode cX5_hasRoomForThing 4 = .ok (.iconst 5, 1) := by decide +kernel
theorem dX5_hasRoomForThing_5 : decode cX5_hasRoomForThing 5 = .ok (.if_icmp .ge 7, 3) := by decide +kernel
theorem dX5_hasRoomForThing_8 : decode cX5_hasRoomForThing 8 = .ok (.iconst 1, 1) := by decide +kernel
theorem dX5_hasRoomForThing_9 : decode cX5_hasRoomForThing 9 = .ok (.goto 4, 3) := by decide +kernel
theorem dX5_hasRoomForThing_12 : decode cX5_hasRoomForThing 12 = .ok (.iconst 0, 1) := by decide +kernel
theorem dX5_hasRoomForThing_13 : decode cX5_hasRoomForThing 13 = .ok (.ireturn, 1) := by decide +kernel
def T_X5_hasRoomForThing : tk_Tb := [(0, tk_al 0 1), (1, tk_gI 5 4 4), (4, tk_ic (5) 5), (5, tk_cm (fun x y => y ≤ x) 12 8), (8, tk_ic (1) 9), (9, tk_jmp 13), (12, tk_ic (0) 13), (13, tk_rZ)]
set_option maxRecDepth 100000 in
theorem hT_X5_hasRoomForThing (sc : Option (Nat × (Nat → Int32))) : ∀ x ∈ T_X5_hasRoomForThing, tk_So sc M_X5_hasRoomForThing x.1 x.2 := by
  unfold T_X5_hasRoomForThing
  refine List.forall_mem_cons.mpr ⟨so_aload_n dX5_hasRoomForThing_0 rfl rfl, ?_⟩
  refine List.forall_mem_cons.mpr ⟨so_gI (C := RX5) (T := TX5) (N := 10) dX5_hasRoomForThing_1 (by decide) rfl rfl (by decide) rfl in_X5 wf_X5_38 rfl, ?_⟩
  refine List.forall_mem_cons.mpr ⟨so_iconst dX5_hasRoomForThing_4 (by decide) rfl, ?_⟩
  refine List.forall_mem_cons.mpr ⟨so_icmp_ge dX5_hasRoomForThing_5 (by decide) rfl, ?_⟩
  refine List.forall_mem_cons.mpr ⟨so_iconst dX5_hasRoomForThing_8 (by decide) rfl, ?_⟩
  refine List.forall_mem_cons.mpr ⟨so_goto dX5_hasRoomForThing_9 (by decide), ?_⟩
  refine List.forall_mem_cons.mpr ⟨so_iconst dX5_hasRoomForThing_12 (by decide) rfl, ?_⟩
  refine List.forall_mem_cons.mpr ⟨so_rZ dX5_hasRoomForThing_13 rfl, ?_⟩
  exact fun _ h => absurd h List.not_mem_nil
theorem dX5_addThing_0 : decode cX5_addThing 0 = .ok (.aload_n 0, 1) := by decide +kernel
theorem dX5_addThing_1 : decode cX5_addThing 1 = .ok (.invokevirtual 54, 3) := by decide +kernel
theorem dX5_addThing_4 : decode cX5_addThing 4 = .ok (.ifCond .eq 23, 3) := by decide +kernel
theorem dX5_addThing_7 : decode cX5_addThing 7 = .ok (.aload_n 0, 1) := by decide +kernel
theorem dX5_addThing_8 : decode cX5_addThing 8 = .ok (.getfield 24, 3) := by decide +kernel
theorem dX5_addThing_11 : decode cX5_addThing 11 = .ok (.aload_n 0, 1) := by decide +kernel
theorem dX5_addThing_12 : decode cX5_addThing 12 = .ok (.getfield 38, 3) := by decide +kernel
theorem dX5_addThing_15 : decode cX5_addThing 15 = .ok (.iload_n 1, 1) := by decide +kernel
theorem dX5_addThing_16 : decode cX5_addThing 16 = .ok (.iastore, 1) := by decide +kernel
theorem dX5_addThing_17 : decode cX5_addThing 17 = .ok (.aload_n 0, 1) := by decide +kernel
theorem dX5_addThing_18 : decode cX5_addThing 18 = .ok (.dup, 1) := by decide +kernel
theorem dX5_addThing_19 : decode cX5_addThing 19 = .ok (.getfield 38, 3) := by decide +kernel
theorem dX5_addThing_22 : decode cX5_addThing 22 = .ok (.iconst 1, 1) := by decide +kernel
theorem dX5_addThing_23 : decode cX5_addThing 23 = .ok (.iadd, 1) := by decide +kernel
theorem dX5_addThing_24 : decode cX5_addThing 24 = .ok (.putfield 38, 3) := by decide +kernel
theorem dX5_addThing_27 : decode cX5_addThing 27 = .ok (.return_, 1) := by decide +kernel
def T_X5_addThing : tk_Tb := [(0, tk_al 0 1), (1, tk_cv 5 M_X5_hasRoomForThing 0 4), (4, tk_br (fun x => x = 0) 27 7), (7, tk_al 0 8), (8, tk_gR 5 9 11), (11, tk_al 0 12), (12, tk_gI 5 4 15), (15, tk_il 1 16), (16, tk_si 9 (fun x => x) 17), (17, tk_al 0 18), (18, tk_dup 19), (19, tk_gI 5 4 22), (22, tk_ic (1) 23), (23, tk_bi (fun x y => x + y) 24), (24, tk_pI 5 4 27), (27, tk_rV)]
set_option maxRecDepth 100000 in
theorem hT_X5_addThing (sc : Option (Nat × (Nat → Int32))) : ∀ x ∈ T_X5_addThing, tk_So sc M_X5_addThing x.1 x.2 := by
  unfold T_X5_addThing
  refine List.forall_mem_cons.mpr ⟨so_aload_n dX5_addThing_0 rfl rfl, ?_⟩
  refine List.forall_mem_cons.mpr ⟨so_cv (T := TX5) (N := 10) dX5_addThing_1 mv_X5_hasRoomForThing wm_X5_54 (by decide) rfl ⟨rfl, rfl⟩ (by decide) rfl, ?_⟩
  refine List.forall_mem_cons.mpr ⟨so_if_eq dX5_addThing_4 (by decide) rfl, ?_⟩
  refine List.forall_mem_cons.mpr ⟨so_aload_n dX5_addThing_7 rfl rfl, ?_⟩
  refine List.forall_mem_cons.mpr ⟨so_gR (C := RX5) (T := TX5) (N := 10) dX5_addThing_8 (by decide) rfl rfl (by decide) rfl in_X5 wf_X5_24 rfl, ?_⟩
  refine List.forall_mem_cons.mpr ⟨so_aload_n dX5_addThing_11 rfl rfl, ?_⟩
  refine List.forall_mem_cons.mpr ⟨so_gI (C := RX5) (T := TX5) (N := 10) dX5_addThing_12 (by decide) rfl rfl (by decide) rfl in_X5 wf_X5_38 rfl, ?_⟩
  refine List.forall_mem_cons.mpr ⟨so_iload_n dX5_addThing_15 rfl rfl, ?_⟩
  refine List.forall_mem_cons.mpr ⟨so_iastore dX5_addThing_16 rfl, ?_⟩
  refine List.forall_mem_cons.mpr ⟨so_aload_n dX5_addThing_17 rfl rfl, ?_⟩
  refine List.forall_mem_cons.mpr ⟨so_dup dX5_addThing_18 rfl, ?_⟩
  refine List.forall_mem_cons.mpr ⟨so_gI (C := RX5) (T := TX5) (N := 10) dX5_addThing_19 (by decide) rfl rfl (by decide) rfl in_X5 wf_X5_38 rfl, ?_⟩
  refine List.forall_mem_cons.mpr ⟨so_iconst dX5_addThing_22 (by decide) rfl, ?_⟩
  refine List.forall_mem_cons.mpr ⟨so_iadd dX5_addThing_23 rfl, ?_⟩
  refine List.forall_mem_cons.mpr ⟨so_pI (C := RX5) (T := TX5) (N := 10) dX5_addThing_24 (by decide) rfl rfl (by decide) rfl in_X5 wf_X5_38 tyX5 tyX5_ok nmX5 rfl (by decide +kernel) rfl, ?_⟩
  refine List.forall_mem_cons.mpr ⟨so_rV dX5_addThing_27 rfl, ?_⟩
  exact fun _ h => absurd h List.not_mem_nil
theorem dX3_readThing_0 : decode cX3_readThing 0 = .ok (.aload_n 0, 1) := by decide +kernel
theorem dX3_readThing_1 : decode cX3_readThing 1 = .ok (.iconst 0, 1) := by decide +kernel
theorem dX3_readThing_2 : decode cX3_readThing 2 = .ok (.aload_n 1, 1) := by decide +kernel
theorem dX3_readThing_3 : decode cX3_readThing 3 = .ok (.getfield 81, 3) := by decide +kernel
theorem dX3_readThing_6 : decode cX3_readThing 6 = .ok (.iconst 1, 1) := by decide +kernel
theorem dX3_readThing_7 : decode cX3_readThing 7 = .ok (.isub, 1) := by decide +kernel
theorem dX3_readThing_8 : decode cX3_readThing 8 = .ok (.invokevirtual 66, 3) := by decide +kernel
theorem dX3_readThing_11 : decode cX3_readThing 11 = .ok (.ifCond .ne 5, 3) := by decide +kernel
theorem dX3_readThing_14 : decode cX3_readThing 14 = .ok (.iconst 0, 1) := by decide +kernel
theorem dX3_readThing_15 : decode cX3_readThing 15 = .ok (.ireturn, 1) := by decide +kernel
theorem dX3_readThing_16 : decode cX3_readThing 16 = .ok (.aload_n 1, 1) := by decide +kernel
theorem dX3_readThing_17 : decode cX3_readThing 17 = .ok (.aload_n 0, 1) := by decide +kernel
theorem dX3_readThing_18 : decode cX3_readThing 18 = .ok (.getfield 70, 3) := by decide +kernel
theorem dX3_readThing_21 : decode cX3_readThing 21 = .ok (.invokevirtual 91, 3) := by decide +kernel
theorem dX3_readThing_24 : decode cX3_readThing 24 = .ok (.iconst 1, 1) := by decide +kernel
theorem dX3_readThing_25 : decode cX3_readThing 25 = .ok (.ireturn, 1) := by decide +kernel
def T_X3_readThing : tk_Tb := [(0, tk_al 0 1), (1, tk_ic (0) 2), (2, tk_al 1 3), (3, tk_gI 5 3 6), (6, tk_ic (1) 7), (7, tk_bi (fun x y => x - y) 8), (8, tk_cv 3 M_X3_readNumber 2 11), (11, tk_br (fun x => x = 0) 14 16), (14, tk_ic (0) 15), (15, tk_rZ), (16, tk_al 1 17), (17, tk_al 0 18), (18, tk_gI 3 5 21), (21, tk_cv 5 M_X5_addThing 1 24), (24, tk_ic (1) 25), (25, tk_rZ)]
set_option maxRecDepth 100000 in
theorem hT_X3_readThing (sc : Option (Nat × (Nat → Int32))) : ∀ x ∈ T_X3_readThing, tk_So sc M_X3_readThing x.1 x.2 := by
  unfold T_X3_readThing
  refine List.forall_mem_cons.mpr ⟨so_aload_n dX3_readThing_0 rfl rfl, ?_⟩
  refine List.forall_mem_cons.mpr ⟨so_iconst dX3_readThing_1 (by decide) rfl, ?_⟩
  refine List.forall_mem_cons.mpr ⟨so_aload_n dX3_readThing_2 rfl rfl, ?_⟩
  refine List.forall_mem_cons.mpr ⟨so_gI (C := RX5) (T := TX5) (N := 10) dX3_readThing_3 (by decide) rfl rfl (by decide) rfl in_X5 wf_X3_81 rfl, ?_⟩
  refine List.forall_mem_cons.mpr ⟨so_iconst dX3_readThing_6 (by decide) rfl, ?_⟩
  refine List.forall_mem_cons.mpr ⟨so_isub dX3_readThing_7 rfl, ?_⟩
  refine List.forall_mem_cons.mpr ⟨so_cv (T := TX3) (N := 7) dX3_readThing_8 mv_X3_readNumber wm_X3_66 (by decide) rfl ⟨rfl, rfl⟩ (by decide) rfl, ?_⟩
  refine List.forall_mem_cons.mpr ⟨so_if_ne dX3_readThing_11 (by decide) rfl, ?_⟩
  refine List.forall_mem_cons.mpr ⟨so_iconst dX3_readThing_14 (by decide) rfl, ?_⟩
  refine List.forall_mem_cons.mpr ⟨so_rZ dX3_readThing_15 rfl, ?_⟩
  refine List.forall_mem_cons.mpr ⟨so_aload_n dX3_readThing_16 rfl rfl, ?_⟩
  refine List.forall_mem_cons.mpr ⟨so_aload_n dX3_readThing_17 rfl rfl, ?_⟩
  refine List.forall_mem_cons.mpr ⟨so_gI (C := RX3) (T := TX3) (N := 7) dX3_readThing_18 (by decide) rfl rfl (by decide) rfl in_X3 wf_X3_70 rfl, ?_⟩
  refine List.forall_mem_cons.mpr ⟨so_cv (T := TX5) (N := 10) dX3_readThing_21 mv_X5_addThing wm_X3_91 (by decide) rfl ⟨rfl, rfl⟩ (by decide) rfl, ?_⟩
  refine List.forall_mem_cons.mpr ⟨so_iconst dX3_readThing_24 (by decide) rfl, ?_⟩
  refine List.forall_mem_cons.mpr ⟨so_rZ dX3_readThing_25 rfl, ?_⟩
  exact fun _ h => absurd h List.not_mem_nil
theorem dX3_readItem_0 : decode cX3_readItem 0 = .ok (.aload_n 0, 1) := by decide +kernel
theorem dX3_readItem_1 : decode cX3_readItem 1 = .ok (.getfield 34, 3) := by decide +kernel
theorem dX3_readItem_4 : decode cX3_readItem 4 = .ok (.lookupswitch 149 #[(100, 100), (107, 72), (109, 44), (116, 121)], 44) := by decide +kernel
theorem dX3_readItem_48 : decode cX3_readItem 48 = .ok (.aload_n 0, 1) := by decide +kernel
theorem dX3_readItem_49 : decode cX3_readItem 49 = .ok (.getfield 24, 3) := by decide +kernel
theorem dX3_readItem_52 : decode cX3_readItem 52 = .ok (.ifCond .ne 22, 3) := by decide +kernel
theorem dX3_readItem_55 : decode cX3_readItem 55 = .ok (.aload_n 0, 1) := by decide +kernel
theorem dX3_readItem_56 : decode cX3_readItem 56 = .ok (.aload_n 1, 1) := by decide +kernel
theorem dX3_readItem_57 : decode cX3_readItem 57 = .ok (.invokevirtual 44, 3) := by decide +kernel
theorem dX3_readItem_60 : decode cX3_readItem 60 = .ok (.ifCond .eq 14, 3) := by decide +kernel
theorem dX3_readItem_63 : decode cX3_readItem 63 = .ok (.aload_n 0, 1) := by decide +kernel
theorem dX3_readItem_64 : decode cX3_readItem 64 = .ok (.invokevirtual 47, 3) := by decide +kernel
theorem dX3_readItem_67 : decode cX3_readItem 67 = .ok (.ifCond .eq 7, 3) := by decide +kernel
theorem dX3_readItem_70 : decode cX3_readItem 70 = .ok (.iconst 1, 1) := by decide +kernel
theorem dX3_readItem_71 : decode cX3_readItem 71 = .ok (.goto 4, 3) := by decide +kernel
theorem dX3_readItem_74 : decode cX3_readItem 74 = .ok (.iconst 0, 1) := by decide +kernel
theorem dX3_readItem_75 : decode cX3_readItem 75 = .ok (.ireturn, 1) := by decide +kernel
theorem dX3_readItem_76 : decode cX3_readItem 76 = .ok (.aload_n 1, 1) := by decide +kernel
theorem dX3_readItem_77 : decode cX3_readItem 77 = .ok (.invokevirtual 51, 3) := by decide +kernel
theorem dX3_readItem_80 : decode cX3_readItem 80 = .ok (.ifCond .eq 22, 3) := by decide +kernel
theorem dX3_readItem_83 : decode cX3_readItem 83 = .ok (.aload_n 0, 1) := by decide +kernel
theorem dX3_readItem_84 : decode cX3_readItem 84 = .ok (.aload_n 1, 1) := by decide +kernel
theorem dX3_readItem_85 : decode cX3_readItem 85 = .ok (.invokevirtual 54, 3) := by decide +kernel
theorem dX3_readItem_88 : decode cX3_readItem 88 = .ok (.ifCond .eq 14, 3) := by decide +kernel
theorem dX3_readItem_91 : decode cX3_readItem 91 = .ok (.aload_n 0, 1) := by decide +kernel
theorem dX3_readItem_92 : decode cX3_readItem 92 = .ok (.invokevirtual 47, 3) := by decide +kernel
theorem dX3_readItem_95 : decode cX3_readItem 95 = .ok (.ifCond .eq 7, 3) := by decide +kernel
theorem dX3_readItem_98 : decode cX3_readItem 98 = .ok (.iconst 1, 1) := by decide +kernel
theorem dX3_readItem_99 : decode cX3_readItem 99 = .ok (.goto 4, 3) := by decide +kernel
theorem dX3_readItem_102 : decode cX3_readItem 102 = .ok (.iconst 0, 1) := by decide +kernel
theorem dX3_readItem_103 : decode cX3_readItem 103 = .ok (.ireturn, 1) := by decide +kernel
theorem dX3_readItem_104 : decode cX3_readItem 104 = .ok (.aload_n 0, 1) := by decide +kernel
theorem dX3_readItem_105 : decode cX3_readItem 105 = .ok (.aload_n 1, 1) := by decide +kernel
theorem dX3_readItem_106 : decode cX3_readItem 106 = .ok (.invokevirtual 57, 3) := by decide +kernel
theorem dX3_readItem_109 : decode cX3_readItem 109 = .ok (.ifCond .eq 14, 3) := by decide +kernel
theorem dX3_readItem_112 : decode cX3_readItem 112 = .ok (.aload_n 0, 1) := by decide +kernel
theorem dX3_readItem_113 : decode cX3_readItem 113 = .ok (.invokevirtual 47, 3) := by decide +kernel
theorem dX3_readItem_116 : decode cX3_readItem 116 = .ok (.ifCond .eq 7, 3) := by decide +kernel
theorem dX3_readItem_119 : decode cX3_readItem 119 = .ok (.iconst 1, 1) := by decide +kernel
theorem dX3_readItem_120 : decode cX3_readItem 120 = .ok (.goto 4, 3) := by decide +kernel
theorem dX3_readItem_123 : decode cX3_readItem 123 = .ok (.iconst 0, 1) := by decide +kernel
theorem dX3_readItem_124 : decode cX3_readItem 124 = .ok (.ireturn, 1) := by decide +kernel
theorem dX3_readItem_125 : decode cX3_readItem 125 = .ok (.aload_n 1, 1) := by decide +kernel
theorem dX3_readItem_126 : decode cX3_readItem 126 = .ok (.invokevirtual 60, 3) := by decide +kernel
theorem dX3_readItem_129 : decode cX3_readItem 129 = .ok (.ifCond .eq 22, 3) := by decide +kernel
theorem dX3_readItem_132 : decode cX3_readItem 132 = .ok (.aload_n 0, 1) := by decide +kernel
theorem dX3_readItem_133 : decode cX3_readItem 133 = .ok (.aload_n 1, 1) := by decide +kernel
theorem dX3_readItem_134 : decode cX3_readItem 134 = .ok (.invokevirtual 63, 3) := by decide +kernel
theorem dX3_readItem_137 : decode cX3_readItem 137 = .ok (.ifCond .eq 14, 3) := by decide +kernel
theorem dX3_readItem_140 : decode cX3_readItem 140 = .ok (.aload_n 0, 1) := by decide +kernel
theorem dX3_readItem_141 : decode cX3_readItem 141 = .ok (.invokevirtual 47, 3) := by decide +kernel
theorem dX3_readItem_144 : decode cX3_readItem 144 = .ok (.ifCond .eq 7, 3) := by decide +kernel
theorem dX3_readItem_147 : decode cX3_readItem 147 = .ok (.iconst 1, 1) := by decide +kernel
theorem dX3_readItem_148 : decode cX3_readItem 148 = .ok (.goto 4, 3) := by decide +kernel
theorem dX3_readItem_151 : decode cX3_readItem 151 = .ok (.iconst 0, 1) := by decide +kernel
theorem dX3_readItem_152 : decode cX3_readItem 152 = .ok (.ireturn, 1) := by decide +kernel
theorem dX3_readItem_153 : decode cX3_readItem 153 = .ok (.iconst 0, 1) := by decide +kernel
theorem dX3_readItem_154 : decode cX3_readItem 154 = .ok (.ireturn, 1) := by decide +kernel
def T_X3_readItem : tk_Tb := [(0, tk_al 0 1), (1, tk_gI 3 3 4), (4, tk_sw [(100, 104), (107, 76), (109, 48), (116, 125)] 153), (48, tk_al 0 49), (49, tk_gI 3 6 52), (52, tk_br (fun x => x = 0) 55 74), (55, tk_al 0 56), (56, tk_al 1 57), (57, tk_cv 3 M_X3_readLevel 1 60), (60, tk_br (fun x => x = 0) 74 63), (63, tk_al 0 64), (64, tk_cv 3 M_X3_readItemEnd 0 67), (67, tk_br (fun x => x = 0) 74 70), (70, tk_ic (1) 71), (71, tk_jmp 75), (74, tk_ic (0) 75), (75, tk_rZ), (76, tk_al 1 77), (77, tk_cv 5 M_X5_hasRoomForKerb 0 80), (80, tk_br (fun x => x = 0) 102 83), (83, tk_al 0 84), (84, tk_al 1 85), (85, tk_cv 3 M_X3_readKerb 1 88), (88, tk_br (fun x => x = 0) 102 91), (91, tk_al 0 92), (92, tk_cv 3 M_X3_readItemEnd 0 95), (95, tk_br (fun x => x = 0) 102 98), (98, tk_ic (1) 99), (99, tk_jmp 103), (102, tk_ic (0) 103), (103, tk_rZ), (104, tk_al 0 105), (105, tk_al 1 106), (106, tk_cv 3 M_X3_readDrain 1 109), (109, tk_br (fun x => x = 0) 123 112), (112, tk_al 0 113), (113, tk_cv 3 M_X3_readItemEnd 0 116), (116, tk_br (fun x => x = 0) 123 119), (119, tk_ic (1) 120), (120, tk_jmp 124), (123, tk_ic (0) 124), (124, tk_rZ), (125, tk_al 1 126), (126, tk_cv 5 M_X5_hasRoomForThing 0 129), (129, tk_br (fun x => x = 0) 151 132), (132, tk_al 0 133), (133, tk_al 1 134), (134, tk_cv 3 M_X3_readThing 1 137), (137, tk_br (fun x => x = 0) 151 140), (140, tk_al 0 141), (141, tk_cv 3 M_X3_readItemEnd 0 144), (144, tk_br (fun x => x = 0) 151 147), (147, tk_ic (1) 148), (148, tk_jmp 152), (151, tk_ic (0) 152), (152, tk_rZ), (153, tk_ic (0) 154), (154, tk_rZ)]
set_option maxRecDepth 100000 in
theorem hT_X3_readItem (sc : Option (Nat × (Nat → Int32))) : ∀ x ∈ T_X3_readItem, tk_So sc M_X3_readItem x.1 x.2 := by
  unfold T_X3_readItem
  refine List.forall_mem_cons.mpr ⟨so_aload_n dX3_readItem_0 rfl rfl, ?_⟩
  refine List.forall_mem_cons.mpr ⟨so_gI (C := RX3) (T := TX3) (N := 7) dX3_readItem_1 (by decide) rfl rfl (by decide) rfl in_X3 wf_X3_34 rfl, ?_⟩
  refine List.forall_mem_cons.mpr ⟨so_lookup dX3_readItem_4 (by decide +kernel) (by decide) (by decide +kernel), ?_⟩
  refine List.forall_mem_cons.mpr ⟨so_aload_n dX3_readItem_48 rfl rfl, ?_⟩
  refine List.forall_mem_cons.mpr ⟨so_gI (C := RX3) (T := TX3) (N := 7) dX3_readItem_49 (by decide) rfl rfl (by decide) rfl in_X3 wf_X3_24 rfl, ?_⟩
  refine List.forall_mem_cons.mpr ⟨so_if_ne dX3_readItem_52 (by decide) rfl, ?_⟩
  refine List.forall_mem_cons.mpr ⟨so_aload_n dX3_readItem_55 rfl rfl, ?_⟩
  refine List.forall_mem_cons.mpr ⟨so_aload_n dX3_readItem_56 rfl rfl, ?_⟩
  refine List.forall_mem_cons.mpr ⟨so_cv (T := TX3) (N := 7) dX3_readItem_57 mv_X3_readLevel wm_X3_44 (by decide) rfl ⟨rfl, rfl⟩ (by decide) rfl, ?_⟩
  refine List.forall_mem_cons.mpr ⟨so_if_eq dX3_readItem_60 (by decide) rfl, ?_⟩
  refine List.forall_mem_cons.mpr ⟨so_aload_n dX3_readItem_63 rfl rfl, ?_⟩
  refine List.forall_mem_cons.mpr ⟨so_cv (T := TX3) (N := 7) dX3_readItem_64 mv_X3_readItemEnd wm_X3_47 (by decide) rfl ⟨rfl, rfl⟩ (by decide) rfl, ?_⟩
  refine List.forall_mem_cons.mpr ⟨so_if_eq dX3_readItem_67 (by decide) rfl, ?_⟩
  refine List.forall_mem_cons.mpr ⟨so_iconst dX3_readItem_70 (by decide) rfl, ?_⟩
  refine List.forall_mem_cons.mpr ⟨so_goto dX3_readItem_71 (by decide), ?_⟩
  refine List.forall_mem_cons.mpr ⟨so_iconst dX3_readItem_74 (by decide) rfl, ?_⟩
  refine List.forall_mem_cons.mpr ⟨so_rZ dX3_readItem_75 rfl, ?_⟩
  refine List.forall_mem_cons.mpr ⟨so_aload_n dX3_readItem_76 rfl rfl, ?_⟩
  refine List.forall_mem_cons.mpr ⟨so_cv (T := TX5) (N := 10) dX3_readItem_77 mv_X5_hasRoomForKerb wm_X3_51 (by decide) rfl ⟨rfl, rfl⟩ (by decide) rfl, ?_⟩
  refine List.forall_mem_cons.mpr ⟨so_if_eq dX3_readItem_80 (by decide) rfl, ?_⟩
  refine List.forall_mem_cons.mpr ⟨so_aload_n dX3_readItem_83 rfl rfl, ?_⟩
  refine List.forall_mem_cons.mpr ⟨so_aload_n dX3_readItem_84 rfl rfl, ?_⟩
  refine List.forall_mem_cons.mpr ⟨so_cv (T := TX3) (N := 7) dX3_readItem_85 mv_X3_readKerb wm_X3_54 (by decide) rfl ⟨rfl, rfl⟩ (by decide) rfl, ?_⟩
  refine List.forall_mem_cons.mpr ⟨so_if_eq dX3_readItem_88 (by decide) rfl, ?_⟩
  refine List.forall_mem_cons.mpr ⟨so_aload_n dX3_readItem_91 rfl rfl, ?_⟩
  refine List.forall_mem_cons.mpr ⟨so_cv (T := TX3) (N := 7) dX3_readItem_92 mv_X3_readItemEnd wm_X3_47 (by decide) rfl ⟨rfl, rfl⟩ (by decide) rfl, ?_⟩
  refine List.forall_mem_cons.mpr ⟨so_if_eq dX3_readItem_95 (by decide) rfl, ?_⟩
  refine List.forall_mem_cons.mpr ⟨so_iconst dX3_readItem_98 (by decide) rfl, ?_⟩
  refine List.forall_mem_cons.mpr ⟨so_goto dX3_readItem_99 (by decide), ?_⟩
  refine List.forall_mem_cons.mpr ⟨so_iconst dX3_readItem_102 (by decide) rfl, ?_⟩
  refine List.forall_mem_cons.mpr ⟨so_rZ dX3_readItem_103 rfl, ?_⟩
  refine List.forall_mem_cons.mpr ⟨so_aload_n dX3_readItem_104 rfl rfl, ?_⟩
  refine List.forall_mem_cons.mpr ⟨so_aload_n dX3_readItem_105 rfl rfl, ?_⟩
  refine List.forall_mem_cons.mpr ⟨so_cv (T := TX3) (N := 7) dX3_readItem_106 mv_X3_readDrain wm_X3_57 (by decide) rfl ⟨rfl, rfl⟩ (by decide) rfl, ?_⟩
  refine List.forall_mem_cons.mpr ⟨so_if_eq dX3_readItem_109 (by decide) rfl, ?_⟩
  refine List.forall_mem_cons.mpr ⟨so_aload_n dX3_readItem_112 rfl rfl, ?_⟩
  refine List.forall_mem_cons.mpr ⟨so_cv (T := TX3) (N := 7) dX3_readItem_113 mv_X3_readItemEnd wm_X3_47 (by decide) rfl ⟨rfl, rfl⟩ (by decide) rfl, ?_⟩
  refine List.forall_mem_cons.mpr ⟨so_if_eq dX3_readItem_116 (by decide) rfl, ?_⟩
  refine List.forall_mem_cons.mpr ⟨so_iconst dX3_readItem_119 (by decide) rfl, ?_⟩
  refine List.forall_mem_cons.mpr ⟨so_goto dX3_readItem_120 (by decide), ?_⟩
  refine List.forall_mem_cons.mpr ⟨so_iconst dX3_readItem_123 (by decide) rfl, ?_⟩
  refine List.forall_mem_cons.mpr ⟨so_rZ dX3_readItem_124 rfl, ?_⟩
  refine List.forall_mem_cons.mpr ⟨so_aload_n dX3_readItem_125 rfl rfl, ?_⟩
  refine List.forall_mem_cons.mpr ⟨so_cv (T := TX5) (N := 10) dX3_readItem_126 mv_X5_hasRoomForThing wm_X3_60 (by decide) rfl ⟨rfl, rfl⟩ (by decide) rfl, ?_⟩
  refine List.forall_mem_cons.mpr ⟨so_if_eq dX3_readItem_129 (by decide) rfl, ?_⟩
  refine List.forall_mem_cons.mpr ⟨so_aload_n dX3_readItem_132 rfl rfl, ?_⟩
  refine List.forall_mem_cons.mpr ⟨so_aload_n dX3_readItem_133 rfl rfl, ?_⟩
  refine List.forall_mem_cons.mpr ⟨so_cv (T := TX3) (N := 7) dX3_readItem_134 mv_X3_readThing wm_X3_63 (by decide) rfl ⟨rfl, rfl⟩ (by decide) rfl, ?_⟩
  refine List.forall_mem_cons.mpr ⟨so_if_eq dX3_readItem_137 (by decide) rfl, ?_⟩
  refine List.forall_mem_cons.mpr ⟨so_aload_n dX3_readItem_140 rfl rfl, ?_⟩
  refine List.forall_mem_cons.mpr ⟨so_cv (T := TX3) (N := 7) dX3_readItem_141 mv_X3_readItemEnd wm_X3_47 (by decide) rfl ⟨rfl, rfl⟩ (by decide) rfl, ?_⟩
  refine List.forall_mem_cons.mpr ⟨so_if_eq dX3_readItem_144 (by decide) rfl, ?_⟩
  refine List.forall_mem_cons.mpr ⟨so_iconst dX3_readItem_147 (by decide) rfl, ?_⟩
  refine List.forall_mem_cons.mpr ⟨so_goto dX3_readItem_148 (by decide), ?_⟩
  refine List.forall_mem_cons.mpr ⟨so_iconst dX3_readItem_151 (by decide) rfl, ?_⟩
  refine List.forall_mem_cons.mpr ⟨so_rZ dX3_readItem_152 rfl, ?_⟩
  refine List.forall_mem_cons.mpr ⟨so_iconst dX3_readItem_153 (by decide) rfl, ?_⟩
  refine List.forall_mem_cons.mpr ⟨so_rZ dX3_readItem_154 rfl, ?_⟩
  exact fun _ h => absurd h List.not_mem_nil
theorem dX5_reset_0 : decode cX5_reset 0 = .ok (.aload_n 0, 1) := by decide +kernel
theorem dX5_reset_1 : decode cX5_reset 1 = .ok (.bipush 10, 2) := by decide +kernel
theorem dX5_reset_3 : decode cX5_reset 3 = .ok (.iconst 3, 1) := by decide +kernel
theorem dX5_reset_4 : decode cX5_reset 4 = .ok (.iconst 0, 1) := by decide +kernel
theorem dX5_reset_5 : decode cX5_reset 5 = .ok (.invokevirtual 30, 3) := by decide +kernel
theorem dX5_reset_8 : decode cX5_reset 8 = .ok (.aload_n 0, 1) := by decide +kernel
theorem dX5_reset_9 : decode cX5_reset 9 = .ok (.iconst 0, 1) := by decide +kernel
theorem dX5_reset_10 : decode cX5_reset 10 = .ok (.putfield 34, 3) := by decide +kernel
theorem dX5_reset_13 : decode cX5_reset 13 = .ok (.aload_n 0, 1) := by decide +kernel
theorem dX5_reset_14 : decode cX5_reset 14 = .ok (.iconst 0, 1) := by decide +kernel
theorem dX5_reset_15 : decode cX5_reset 15 = .ok (.putfield 38, 3) := by decide +kernel
theorem dX5_reset_18 : decode cX5_reset 18 = .ok (.return_, 1) := by decide +kernel
def T_X5_reset : tk_Tb := [(0, tk_al 0 1), (1, tk_ic (10) 3), (3, tk_ic (3) 4), (4, tk_ic (0) 5), (5, tk_cv 5 M_X5_setLevel 3 8), (8, tk_al 0 9), (9, tk_ic (0) 10), (10, tk_pI 5 3 13), (13, tk_al 0 14), (14, tk_ic (0) 15), (15, tk_pI 5 4 18), (18, tk_rV)]
set_option maxRecDepth 100000 in
theorem hT_X5_reset (sc : Option (Nat × (Nat → Int32))) : ∀ x ∈ T_X5_reset, tk_So sc M_X5_reset x.1 x.2 := by
  unfold T_X5_reset
  refine List.forall_mem_cons.mpr ⟨so_aload_n dX5_reset_0 rfl rfl, ?_⟩
  refine List.forall_mem_cons.mpr ⟨so_bipush dX5_reset_1 (by decide) rfl, ?_⟩
  refine List.forall_mem_cons.mpr ⟨so_iconst dX5_reset_3 (by decide) rfl, ?_⟩
  refine List.forall_mem_cons.mpr ⟨so_iconst dX5_reset_4 (by decide) rfl, ?_⟩
  refine List.forall_mem_cons.mpr ⟨so_cv (T := TX5) (N := 10) dX5_reset_5 mv_X5_setLevel wm_X5_30 (by decide) rfl ⟨rfl, rfl⟩ (by decide) rfl, ?_⟩
  refine List.forall_mem_cons.mpr ⟨so_aload_n dX5_reset_8 rfl rfl, ?_⟩
  refine List.forall_mem_cons.mpr ⟨so_iconst dX5_reset_9 (by decide) rfl, ?_⟩
  refine List.forall_mem_cons.mpr ⟨so_pI (C := RX5) (T := TX5) (N := 10) dX5_reset_10 (by decide) rfl rfl (by decide) rfl in_X5 wf_X5_34 tyX5 tyX5_ok nmX5 rfl (by decide +kernel) rfl, ?_⟩
  refine List.forall_mem_cons.mpr ⟨so_aload_n dX5_reset_13 rfl rfl, ?_⟩
  refine List.forall_mem_cons.mpr ⟨so_iconst dX5_reset_14 (by decide) rfl, ?_⟩
  refine List.forall_mem_cons.mpr ⟨so_pI (C := RX5) (T := TX5) (N := 10) dX5_reset_15 (by decide) rfl rfl (by decide) rfl in_X5 wf_X5_38 tyX5 tyX5_ok nmX5 rfl (by decide +kernel) rfl, ?_⟩
  refine List.forall_mem_cons.mpr ⟨so_rV dX5_reset_18 rfl, ?_⟩
  exact fun _ h => absurd h List.not_mem_nil
theorem dX3_readInto_0 : decode cX3_readInto 0 = .ok (.aload_n 1, 1) := by decide +kernel
theorem dX3_readInto_1 : decode cX3_readInto 1 = .ok (.invokevirtual 19, 3) := by decide +kernel
theorem dX3_readInto_4 : decode cX3_readInto 4 = .ok (.aload_n 0, 1) := by decide +kernel
theorem dX3_readInto_5 : decode cX3_readInto 5 = .ok (.iconst 0, 1) := by decide +kernel
theorem dX3_readInto_6 : decode cX3_readInto 6 = .ok (.putfield 24, 3) := by decide +kernel
theorem dX3_readInto_9 : decode cX3_readInto 9 = .ok (.aload_n 0, 1) := by decide +kernel
theorem dX3_readInto_10 : decode cX3_readInto 10 = .ok (.iconst 0, 1) := by decide +kernel
theorem dX3_readInto_11 : decode cX3_readInto 11 = .ok (.putfield 28, 3) := by decide +kernel
theorem dX3_readInto_14 : decode cX3_readInto 14 = .ok (.iconst 0, 1) := by decide +kernel
theorem dX3_readInto_15 : decode cX3_readInto 15 = .ok (.istore_n 2, 1) := by decide +kernel
theorem dX3_readInto_16 : decode cX3_readInto 16 = .ok (.aload_n 0, 1) := by decide +kernel
theorem dX3_readInto_17 : decode cX3_readInto 17 = .ok (.invokevirtual 31, 3) := by decide +kernel
theorem dX3_readInto_20 : decode cX3_readInto 20 = .ok (.aload_n 0, 1) := by decide +kernel
theorem dX3_readInto_21 : decode cX3_readInto 21 = .ok (.getfield 34, 3) := by decide +kernel
theorem dX3_readInto_24 : decode cX3_readInto 24 = .ok (.iconst (-1), 1) := by decide +kernel
theorem dX3_readInto_25 : decode cX3_readInto 25 = .ok (.if_icmp .eq 36, 3) := by decide +kernel
theorem dX3_readInto_28 : decode cX3_readInto 28 = .ok (.iload_n 2, 1) := by decide +kernel
theorem dX3_readInto_29 : decode cX3_readInto 29 = .ok (.sipush 150, 3) := by decide +kernel
theorem dX3_readInto_32 : decode cX3_readInto 32 = .ok (.if_icmp .ge 29, 3) := by decide +kernel
theorem dX3_readInto_35 : decode cX3_readInto 35 = .ok (.aload_n 0, 1) := by decide +kernel
theorem dX3_readInto_36 : decode cX3_readInto 36 = .ok (.aload_n 1, 1) := by decide +kernel
theorem dX3_readInto_37 : decode cX3_readInto 37 = .ok (.invokevirtual 37, 3) := by decide +kernel
theorem dX3_readInto_40 : decode cX3_readInto 40 = .ok (.ifCond .ne 11, 3) := by decide +kernel
theorem dX3_readInto_43 : decode cX3_readInto 43 = .ok (.bipush (-10), 2) := by decide +kernel
theorem dX3_readInto_45 : decode cX3_readInto 45 = .ok (.aload_n 0, 1) := by decide +kernel
theorem dX3_readInto_46 : decode cX3_readInto 46 = .ok (.getfield 41, 3) := by decide +kernel
theorem dX3_readInto_49 : decode cX3_readInto 49 = .ok (.isub, 1) := by decide +kernel
theorem dX3_readInto_50 : decode cX3_readInto 50 = .ok (.ireturn, 1) := by decide +kernel
theorem dX3_readInto_51 : decode cX3_readInto 51 = .ok (.iinc 2 1, 3) := by decide +kernel
theorem dX3_readInto_54 : decode cX3_readInto 54 = .ok (.aload_n 0, 1) := by decide +kernel
theorem dX3_readInto_55 : decode cX3_readInto 55 = .ok (.invokevirtual 31, 3) := by decide +kernel
theorem dX3_readInto_58 : decode cX3_readInto 58 = .ok (.goto (-38), 3) := by decide +kernel
theorem dX3_readInto_61 : decode cX3_readInto 61 = .ok (.iload_n 2, 1) := by decide +kernel
theorem dX3_readInto_62 : decode cX3_readInto 62 = .ok (.ireturn, 1) := by decide +kernel
def T_X3_readInto : tk_Tb := [(0, tk_al 1 1), (1, tk_cv 5 M_X5_reset 0 4), (4, tk_al 0 5), (5, tk_ic (0) 6), (6, tk_pZ 3 6 9), (9, tk_al 0 10), (10, tk_ic (0) 11), (11, tk_pI 3 2 14), (14, tk_ic (0) 15), (15, tk_sI 2 16), (16, tk_al 0 17), (17, tk_cv 3 M_X3_readToken 0 20), (20, tk_al 0 21), (21, tk_gI 3 3 24), (24, tk_ic (-1) 25), (25, tk_cm (fun x y => x = y) 61 28), (28, tk_il 2 29), (29, tk_ic (150) 32), (32, tk_cm (fun x y => y ≤ x) 61 35), (35, tk_al 0 36), (36, tk_al 1 37), (37, tk_cv 3 M_X3_readItem 1 40), (40, tk_br (fun x => x = 0) 43 51), (43, tk_ic (-10) 45), (45, tk_al 0 46), (46, tk_gI 3 4 49), (49, tk_bi (fun x y => x - y) 50), (50, tk_rI), (51, tk_inc 2 (1) 54), (54, tk_al 0 55), (55, tk_cv 3 M_X3_readToken 0 58), (58, tk_jmp 20), (61, tk_il 2 62), (62, tk_rI)]
set_option maxRecDepth 100000 in
theorem hT_X3_readInto (sc : Option (Nat × (Nat → Int32))) : ∀ x ∈ T_X3_readInto, tk_So sc M_X3_readInto x.1 x.2 := by
  unfold T_X3_readInto
  refine List.forall_mem_cons.mpr ⟨so_aload_n dX3_readInto_0 rfl rfl, ?_⟩
  refine List.forall_mem_cons.mpr ⟨so_cv (T := TX5) (N := 10) dX3_readInto_1 mv_X5_reset wm_X3_19 (by decide) rfl ⟨rfl, rfl⟩ (by decide) rfl, ?_⟩
  refine List.forall_mem_cons.mpr ⟨so_aload_n dX3_readInto_4 rfl rfl, ?_⟩
  refine List.forall_mem_cons.mpr ⟨so_iconst dX3_readInto_5 (by decide) rfl, ?_⟩
  refine List.forall_mem_cons.mpr ⟨so_pZ (C := RX3) (T := TX3) (N := 7) dX3_readInto_6 (by decide) rfl rfl (by decide) rfl in_X3 wf_X3_24 tyX3 tyX3_ok nmX3 rfl (by decide +kernel) rfl, ?_⟩
  refine List.forall_mem_cons.mpr ⟨so_aload_n dX3_readInto_9 rfl rfl, ?_⟩
  refine List.forall_mem_cons.mpr ⟨so_iconst dX3_readInto_10 (by decide) rfl, ?_⟩
  refine List.forall_mem_cons.mpr ⟨so_pI (C := RX3) (T := TX3) (N := 7) dX3_readInto_11 (by decide) rfl rfl (by decide) rfl in_X3 wf_X3_28 tyX3 tyX3_ok nmX3 rfl (by decide +kernel) rfl, ?_⟩
  refine List.forall_mem_cons.mpr ⟨so_iconst dX3_readInto_14 (by decide) rfl, ?_⟩
  refine List.forall_mem_cons.mpr ⟨so_istore_n dX3_readInto_15 rfl rfl, ?_⟩
  refine List.forall_mem_cons.mpr ⟨so_aload_n dX3_readInto_16 rfl rfl, ?_⟩
  refine List.forall_mem_cons.mpr ⟨so_cv (T := TX3) (N := 7) dX3_readInto_17 mv_X3_readToken wm_X3_31 (by decide) rfl ⟨rfl, rfl⟩ (by decide) rfl, ?_⟩
  refine List.forall_mem_cons.mpr ⟨so_aload_n dX3_readInto_20 rfl rfl, ?_⟩
  refine List.forall_mem_cons.mpr ⟨so_gI (C := RX3) (T := TX3) (N := 7) dX3_readInto_21 (by decide) rfl rfl (by decide) rfl in_X3 wf_X3_34 rfl, ?_⟩
  refine List.forall_mem_cons.mpr ⟨so_iconst dX3_readInto_24 (by decide) rfl, ?_⟩
  refine List.forall_mem_cons.mpr ⟨so_icmp_eq dX3_readInto_25 (by decide) rfl, ?_⟩
  refine List.forall_mem_cons.mpr ⟨so_iload_n dX3_readInto_28 rfl rfl, ?_⟩
  refine List.forall_mem_cons.mpr ⟨so_sipush dX3_readInto_29 (by decide) rfl, ?_⟩
  refine List.forall_mem_cons.mpr ⟨so_icmp_ge dX3_readInto_32 (by decide) rfl, ?_⟩
  refine List.forall_mem_cons.mpr ⟨so_aload_n dX3_readInto_35 rfl rfl, ?_⟩
  refine List.forall_mem_cons.mpr ⟨so_aload_n dX3_readInto_36 rfl rfl, ?_⟩
  refine List.forall_mem_cons.mpr ⟨so_cv (T := TX3) (N := 7) dX3_readInto_37 mv_X3_readItem wm_X3_37 (by decide) rfl ⟨rfl, rfl⟩ (by decide) rfl, ?_⟩
  refine List.forall_mem_cons.mpr ⟨so_if_ne dX3_readInto_40 (by decide) rfl, ?_⟩
  refine List.forall_mem_cons.mpr ⟨so_bipush dX3_readInto_43 (by decide) rfl, ?_⟩
  refine List.forall_mem_cons.mpr ⟨so_aload_n dX3_readInto_45 rfl rfl, ?_⟩
  refine List.forall_mem_cons.mpr ⟨so_gI (C := RX3) (T := TX3) (N := 7) dX3_readInto_46 (by decide) rfl rfl (by decide) rfl in_X3 wf_X3_41 rfl, ?_⟩
  refine List.forall_mem_cons.mpr ⟨so_isub dX3_readInto_49 rfl, ?_⟩
  refine List.forall_mem_cons.mpr ⟨so_rI dX3_readInto_50 rfl, ?_⟩
  refine List.forall_mem_cons.mpr ⟨so_iinc dX3_readInto_51 (by decide) rfl, ?_⟩
  refine List.forall_mem_cons.mpr ⟨so_aload_n dX3_readInto_54 rfl rfl, ?_⟩
  refine List.forall_mem_cons.mpr ⟨so_cv (T := TX3) (N := 7) dX3_readInto_55 mv_X3_readToken wm_X3_31 (by decide) rfl ⟨rfl, rfl⟩ (by decide) rfl, ?_⟩
  refine List.forall_mem_cons.mpr ⟨so_goto dX3_readInto_58 (by decide), ?_⟩
  refine List.forall_mem_cons.mpr ⟨so_iload_n dX3_readInto_61 rfl rfl, ?_⟩
  refine List.forall_mem_cons.mpr ⟨so_rI dX3_readInto_62 rfl, ?_⟩
  exact fun _ h => absurd h List.not_mem_nil
theorem dX4_becomes_0 : decode cX4_becomes 0 = .ok (.aload_n 0, 1) := by decide +kernel
theorem dX4_becomes_1 : decode cX4_becomes 1 = .ok (.aload_n 1, 1) := by decide +kernel
theorem dX4_becomes_2 : decode cX4_becomes 2 = .ok (.getfield 9, 3) := by decide +kernel
theorem dX4_becomes_5 : decode cX4_becomes 5 = .ok (.putfield 9, 3) := by decide +kernel
theorem dX4_becomes_8 : decode cX4_becomes 8 = .ok (.aload_n 0, 1) := by decide +kernel
theorem dX4_becomes_9 : decode cX4_becomes 9 = .ok (.aload_n 1, 1) := by decide +kernel
theorem dX4_becomes_10 : decode cX4_becomes 10 = .ok (.getfield 15, 3) := by decide +kernel
theorem dX4_becomes_13 : decode cX4_becomes 13 = .ok (.putfield 15, 3) := by decide +kernel
theorem dX4_becomes_16 : decode cX4_becomes 16 = .ok (.aload_n 0, 1) := by decide +kernel
theorem dX4_becomes_17 : decode cX4_becomes 17 = .ok (.aload_n 1, 1) := by decide +kernel
theorem dX4_becomes_18 : decode cX4_becomes 18 = .ok (.getfield 18, 3) := by decide +kernel
theorem dX4_becomes_21 : decode cX4_becomes 21 = .ok (.putfield 18, 3) := by decide +kernel
theorem dX4_becomes_24 : decode cX4_becomes 24 = .ok (.return_, 1) := by decide +kernel
def T_X4_becomes : tk_Tb := [(0, tk_al 0 1), (1, tk_al 1 2), (2, tk_gI 4 0 5), (5, tk_pI 4 0 8), (8, tk_al 0 9), (9, tk_al 1 10), (10, tk_gI 4 1 13), (13, tk_pI 4 1 16), (16, tk_al 0 17), (17, tk_al 1 18), (18, tk_gI 4 2 21), (21, tk_pZ 4 2 24), (24, tk_rV)]
set_option maxRecDepth 100000 in
theorem hT_X4_becomes (sc : Option (Nat × (Nat → Int32))) : ∀ x ∈ T_X4_becomes, tk_So sc M_X4_becomes x.1 x.2 := by
  unfold T_X4_becomes
  refine List.forall_mem_cons.mpr ⟨so_aload_n dX4_becomes_0 rfl rfl, ?_⟩
  refine List.forall_mem_cons.mpr ⟨so_aload_n dX4_becomes_1 rfl rfl, ?_⟩
  refine List.forall_mem_cons.mpr ⟨so_gI (C := RX4) (T := TX4) (N := 3) dX4_becomes_2 (by decide) rfl rfl (by decide) rfl in_X4 wf_X4_9 rfl, ?_⟩
  refine List.forall_mem_cons.mpr ⟨so_pI (C := RX4) (T := TX4) (N := 3) dX4_becomes_5 (by decide) rfl rfl (by decide) rfl in_X4 wf_X4_9 tyX4 tyX4_ok nmX4 rfl (by decide +kernel) rfl, ?_⟩
  refine List.forall_mem_cons.mpr ⟨so_aload_n dX4_becomes_8 rfl rfl, ?_⟩
  refine List.forall_mem_cons.mpr ⟨so_aload_n dX4_becomes_9 rfl rfl, ?_⟩
  refine List.forall_mem_cons.mpr ⟨so_gI (C := RX4) (T := TX4) (N := 3) dX4_becomes_10 (by decide) rfl rfl (by decide) rfl in_X4 wf_X4_15 rfl, ?_⟩
  refine List.forall_mem_cons.mpr ⟨so_pI (C := RX4) (T := TX4) (N := 3) dX4_becomes_13 (by decide) rfl rfl (by decide) rfl in_X4 wf_X4_15 tyX4 tyX4_ok nmX4 rfl (by decide +kernel) rfl, ?_⟩
  refine List.forall_mem_cons.mpr ⟨so_aload_n dX4_becomes_16 rfl rfl, ?_⟩
  refine List.forall_mem_cons.mpr ⟨so_aload_n dX4_becomes_17 rfl rfl, ?_⟩
  refine List.forall_mem_cons.mpr ⟨so_gI (C := RX4) (T := TX4) (N := 3) dX4_becomes_18 (by decide) rfl rfl (by decide) rfl in_X4 wf_X4_18 rfl, ?_⟩
  refine List.forall_mem_cons.mpr ⟨so_pZ (C := RX4) (T := TX4) (N := 3) dX4_becomes_21 (by decide) rfl rfl (by decide) rfl in_X4 wf_X4_18 tyX4 tyX4_ok nmX4 rfl (by decide +kernel) rfl, ?_⟩
  refine List.forall_mem_cons.mpr ⟨so_rV dX4_becomes_24 rfl, ?_⟩
  exact fun _ h => absurd h List.not_mem_nil
theorem dX4_isAs_0 : decode cX4_isAs 0 = .ok (.aload_n 0, 1) := by decide +kernel
theorem dX4_isAs_1 : decode cX4_isAs 1 = .ok (.getfield 9, 3) := by decide +kernel
theorem dX4_isAs_4 : decode cX4_isAs 4 = .ok (.aload_n 1, 1) := by decide +kernel
theorem dX4_isAs_5 : decode cX4_isAs 5 = .ok (.getfield 9, 3) := by decide +kernel
theorem dX4_isAs_8 : decode cX4_isAs 8 = .ok (.if_icmp .ne 18, 3) := by decide +kernel
theorem dX4_isAs_11 : decode cX4_isAs 11 = .ok (.aload_n 0, 1) := by decide +kernel
theorem dX4_isAs_12 : decode cX4_isAs 12 = .ok (.getfield 15, 3) := by decide +kernel
theorem dX4_isAs_15 : decode cX4_isAs 15 = .ok (.aload_n 1, 1) := by decide +kernel
theorem dX4_isAs_16 : decode cX4_isAs 16 = .ok (.getfield 15, 3) := by decide +kernel
theorem dX4_isAs_19 : decode cX4_isAs 19 = .ok (.if_icmp .ne 7, 3) := by decide +kernel
theorem dX4_isAs_22 : decode cX4_isAs 22 = .ok (.iconst 1, 1) := by decide +kernel
theorem dX4_isAs_23 : decode cX4_isAs 23 = .ok (.goto 4, 3) := by decide +kernel
theorem dX4_isAs_26 : decode cX4_isAs 26 = .ok (.iconst 0, 1) := by decide +kernel
theorem dX4_isAs_27 : decode cX4_isAs 27 = .ok (.ireturn, 1) := by decide +kernel
def T_X4_isAs : tk_Tb := [(0, tk_al 0 1), (1, tk_gI 4 0 4), (4, tk_al 1 5), (5, tk_gI 4 0 8), (8, tk_cm (fun x y => x = y) 11 26), (11, tk_al 0 12), (12, tk_gI 4 1 15), (15, tk_al 1 16), (16, tk_gI 4 1 19), (19, tk_cm (fun x y => x = y) 22 26), (22, tk_ic (1) 23), (23, tk_jmp 27), (26, tk_ic (0) 27), (27, tk_rZ)]
set_option maxRecDepth 100000 in
theorem hT_X4_isAs (sc : Option (Nat × (Nat → Int32))) : ∀ x ∈ T_X4_isAs, tk_So sc M_X4_isAs x.1 x.2 := by
  unfold T_X4_isAs
  refine List.forall_mem_cons.mpr ⟨so_aload_n dX4_isAs_0 rfl rfl, ?_⟩
  refine List.forall_mem_cons.mpr ⟨so_gI (C := RX4) (T := TX4) (N := 3) dX4_isAs_1 (by decide) rfl rfl (by decide) rfl in_X4 wf_X4_9 rfl, ?_⟩
  refine List.forall_mem_cons.mpr ⟨so_aload_n dX4_isAs_4 rfl rfl, ?_⟩
  refine List.forall_mem_cons.mpr ⟨so_gI (C := RX4) (T := TX4) (N := 3) dX4_isAs_5 (by decide) rfl rfl (by decide) rfl in_X4 wf_X4_9 rfl, ?_⟩
  refine List.forall_mem_cons.mpr ⟨so_icmp_ne dX4_isAs_8 (by decide) rfl, ?_⟩
  refine List.forall_mem_cons.mpr ⟨so_aload_n dX4_isAs_11 rfl rfl, ?_⟩
  refine List.forall_mem_cons.mpr ⟨so_gI (C := RX4) (T := TX4) (N := 3) dX4_isAs_12 (by decide) rfl rfl (by decide) rfl in_X4 wf_X4_15 rfl, ?_⟩
  refine List.forall_mem_cons.mpr ⟨so_aload_n dX4_isAs_15 rfl rfl, ?_⟩
  refine List.forall_mem_cons.mpr ⟨so_gI (C := RX4) (T := TX4) (N := 3) dX4_isAs_16 (by decide) rfl rfl (by decide) rfl in_X4 wf_X4_15 rfl, ?_⟩
  refine List.forall_mem_cons.mpr ⟨so_icmp_ne dX4_isAs_19 (by decide) rfl, ?_⟩
  refine List.forall_mem_cons.mpr ⟨so_iconst dX4_isAs_22 (by decide) rfl, ?_⟩
  refine List.forall_mem_cons.mpr ⟨so_goto dX4_isAs_23 (by decide), ?_⟩
  refine List.forall_mem_cons.mpr ⟨so_iconst dX4_isAs_26 (by decide) rfl, ?_⟩
  refine List.forall_mem_cons.mpr ⟨so_rZ dX4_isAs_27 rfl, ?_⟩
  exact fun _ h => absurd h List.not_mem_nil
theorem dX4_place_0 : decode cX4_place 0 = .ok (.aload_n 0, 1) := by decide +kernel
theorem dX4_place_1 : decode cX4_place 1 = .ok (.invokevirtual 22, 3) := by decide +kernel
theorem dX4_place_4 : decode cX4_place 4 = .ok (.ifCond .eq 10, 3) := by decide +kernel
theorem dX4_place_7 : decode cX4_place 7 = .ok (.aload_n 0, 1) := by decide +kernel
theorem dX4_place_8 : decode cX4_place 8 = .ok (.getfield 9, 3) := by decide +kernel
theorem dX4_place_11 : decode cX4_place 11 = .ok (.goto 5, 3) := by decide +kernel
theorem dX4_place_14 : decode cX4_place 14 = .ok (.bipush (-9), 2) := by decide +kernel
theorem dX4_place_16 : decode cX4_place 16 = .ok (.ireturn, 1) := by decide +kernel
def T_X4_place : tk_Tb := [(0, tk_al 0 1), (1, tk_cv 4 M_X4_lies 0 4), (4, tk_br (fun x => x = 0) 14 7), (7, tk_al 0 8), (8, tk_gI 4 0 11), (11, tk_jmp 16), (14, tk_ic (-9) 16), (16, tk_rI)]
set_option maxRecDepth 100000 in
theorem hT_X4_place (sc : Option (Nat × (Nat → Int32))) : ∀ x ∈ T_X4_place, tk_So sc M_X4_place x.1 x.2 := by
  unfold T_X4_place
  refine List.forall_mem_cons.mpr ⟨so_aload_n dX4_place_0 rfl rfl, ?_⟩
  refine List.forall_mem_cons.mpr ⟨so_cv (T := TX4) (N := 3) dX4_place_1 mv_X4_lies wm_X4_22 (by decide) rfl ⟨rfl, rfl⟩ (by decide) rfl, ?_⟩
  refine List.forall_mem_cons.mpr ⟨so_if_eq dX4_place_4 (by decide) rfl, ?_⟩
  refine List.forall_mem_cons.mpr ⟨so_aload_n dX4_place_7 rfl rfl, ?_⟩
  refine List.forall_mem_cons.mpr ⟨so_gI (C := RX4) (T := TX4) (N := 3) dX4_place_8 (by decide) rfl rfl (by decide) rfl in_X4 wf_X4_9 rfl, ?_⟩
  refine List.forall_mem_cons.mpr ⟨so_goto dX4_place_11 (by decide), ?_⟩
  refine List.forall_mem_cons.mpr ⟨so_bipush dX4_place_14 (by decide) rfl, ?_⟩
  refine List.forall_mem_cons.mpr ⟨so_rI dX4_place_16 rfl, ?_⟩
  exact fun _ h => absurd h List.not_mem_nil
theorem dX5_init_0 : decode cX5_init 0 = .ok (.aload_n 0, 1) := by decide +kernel
theorem dX5_init_1 : decode cX5_init 1 = .ok (.invokespecial 3, 3) := by decide +kernel
theorem dX5_init_4 : decode cX5_init 4 = .ok (.aload_n 0, 1) := by decide +kernel
theorem dX5_init_5 : decode cX5_init 5 = .ok (.bipush 8, 2) := by decide +kernel
theorem dX5_init_7 : decode cX5_init 7 = .ok (.newarray .int, 2) := by decide +kernel
theorem dX5_init_9 : decode cX5_init 9 = .ok (.putfield 9, 3) := by decide +kernel
theorem dX5_init_12 : decode cX5_init 12 = .ok (.aload_n 0, 1) := by decide +kernel
theorem dX5_init_13 : decode cX5_init 13 = .ok (.bipush 8, 2) := by decide +kernel
theorem dX5_init_15 : decode cX5_init 15 = .ok (.newarray .int, 2) := by decide +kernel
theorem dX5_init_17 : decode cX5_init 17 = .ok (.putfield 15, 3) := by decide +kernel
theorem dX5_init_20 : decode cX5_init 20 = .ok (.aload_n 0, 1) := by decide +kernel
theorem dX5_init_21 : decode cX5_init 21 = .ok (.bipush 8, 2) := by decide +kernel
theorem dX5_init_23 : decode cX5_init 23 = .ok (.newarray .int, 2) := by decide +kernel
theorem dX5_init_25 : decode cX5_init 25 = .ok (.putfield 18, 3) := by decide +kernel
theorem dX5_init_28 : decode cX5_init 28 = .ok (.aload_n 0, 1) := by decide +kernel
theorem dX5_init_29 : decode cX5_init 29 = .ok (.bipush 8, 2) := by decide +kernel
theorem dX5_init_31 : decode cX5_init 31 = .ok (.newarray .int, 2) := by decide +kernel
theorem dX5_init_33 : decode cX5_init 33 = .ok (.putfield 21, 3) := by decide +kernel
theorem dX5_init_36 : decode cX5_init 36 = .ok (.aload_n 0, 1) := by decide +kernel
theorem dX5_init_37 : decode cX5_init 37 = .ok (.iconst 5, 1) := by decide +kernel
theorem dX5_init_38 : decode cX5_init 38 = .ok (.newarray .int, 2) := by decide +kernel
theorem dX5_init_40 : decode cX5_init 40 = .ok (.putfield 24, 3) := by decide +kernel
theorem dX5_init_43 : decode cX5_init 43 = .ok (.aload_n 0, 1) := by decide +kernel
theorem dX5_init_44 : decode cX5_init 44 = .ok (.invokevirtual 27, 3) := by decide +kernel
theorem dX5_init_47 : decode cX5_init 47 = .ok (.return_, 1) := by decide +kernel
def T_X5_init : tk_Tb := [(0, tk_al 0 1), (1, tk_oi 4), (4, tk_al 0 5), (5, tk_ic (8) 7), (7, tk_nwa 9 9 5 37), (9, tk_pR 5 5 12), (12, tk_al 0 13), (13, tk_ic (8) 15), (15, tk_nwa 9 17 5 37), (17, tk_pR 5 6 20), (20, tk_al 0 21), (21, tk_ic (8) 23), (23, tk_nwa 9 25 5 37), (25, tk_pR 5 7 28), (28, tk_al 0 29), (29, tk_ic (8) 31), (31, tk_nwa 9 33 5 37), (33, tk_pR 5 8 36), (36, tk_al 0 37), (37, tk_ic (5) 38), (38, tk_nwa 9 40 5 37), (40, tk_pR 5 9 43), (43, tk_al 0 44), (44, tk_cv 5 M_X5_reset 0 47), (47, tk_rV)]
set_option maxRecDepth 100000 in
theorem hT_X5_init (sc : Option (Nat × (Nat → Int32))) : ∀ x ∈ T_X5_init, tk_So sc M_X5_init x.1 x.2 := by
  unfold T_X5_init
  refine List.forall_mem_cons.mpr ⟨so_aload_n dX5_init_0 rfl rfl, ?_⟩
  refine List.forall_mem_cons.mpr ⟨so_oi dX5_init_1 wm_X5_3 wo_1 wo_2 (by decide) rfl, ?_⟩
  refine List.forall_mem_cons.mpr ⟨so_aload_n dX5_init_4 rfl rfl, ?_⟩
  refine List.forall_mem_cons.mpr ⟨so_bipush dX5_init_5 (by decide) rfl, ?_⟩
  refine List.forall_mem_cons.mpr ⟨so_nwI dX5_init_7 rfl wa_int rfl rfl rfl, ?_⟩
  refine List.forall_mem_cons.mpr ⟨so_pRF (ty := .array .int) (C := RX5) (T := TX5) (N := 10) dX5_init_9 (by decide) rfl rfl (by decide) rfl in_X5 wf_X5_9 tyX5 tyX5_ok nmX5 rfl rfl rfl (by decide +kernel) (fun _ => rfl) (fun _ => rfl) rfl, ?_⟩
  refine List.forall_mem_cons.mpr ⟨so_aload_n dX5_init_12 rfl rfl, ?_⟩
  refine List.forall_mem_cons.mpr ⟨so_bipush dX5_init_13 (by decide) rfl, ?_⟩
  refine List.forall_mem_cons.mpr ⟨so_nwI dX5_init_15 rfl wa_int rfl rfl rfl, ?_⟩
  refine List.forall_mem_cons.mpr ⟨so_pRF (ty := .array .int) (C := RX5) (T := TX5) (N := 10) dX5_init_17 (by decide) rfl rfl (by decide) rfl in_X5 wf_X5_15 tyX5 tyX5_ok nmX5 rfl rfl rfl (by decide +kernel) (fun _ => rfl) (fun _ => rfl) rfl, ?_⟩
  refine List.forall_mem_cons.mpr ⟨so_aload_n dX5_init_20 rfl rfl, ?_⟩
  refine List.forall_mem_cons.mpr ⟨so_bipush dX5_init_21 (by decide) rfl, ?_⟩
  refine List.forall_mem_cons.mpr ⟨so_nwI dX5_init_23 rfl wa_int rfl rfl rfl, ?_⟩
  refine List.forall_mem_cons.mpr ⟨so_pRF (ty := .array .int) (C := RX5) (T := TX5) (N := 10) dX5_init_25 (by decide) rfl rfl (by decide) rfl in_X5 wf_X5_18 tyX5 tyX5_ok nmX5 rfl rfl rfl (by decide +kernel) (fun _ => rfl) (fun _ => rfl) rfl, ?_⟩
  refine List.forall_mem_cons.mpr ⟨so_aload_n dX5_init_28 rfl rfl, ?_⟩
  refine List.forall_mem_cons.mpr ⟨so_bipush dX5_init_29 (by decide) rfl, ?_⟩
  refine List.forall_mem_cons.mpr ⟨so_nwI dX5_init_31 rfl wa_int rfl rfl rfl, ?_⟩
  refine List.forall_mem_cons.mpr ⟨so_pRF (ty := .array .int) (C := RX5) (T := TX5) (N := 10) dX5_init_33 (by decide) rfl rfl (by decide) rfl in_X5 wf_X5_21 tyX5 tyX5_ok nmX5 rfl rfl rfl (by decide +kernel) (fun _ => rfl) (fun _ => rfl) rfl, ?_⟩
  refine List.forall_mem_cons.mpr ⟨so_aload_n dX5_init_36 rfl rfl, ?_⟩
  refine List.forall_mem_cons.mpr ⟨so_iconst dX5_init_37 (by decide) rfl, ?_⟩
  refine List.forall_mem_cons.mpr ⟨so_nwI dX5_init_38 rfl wa_int rfl rfl rfl, ?_⟩
  refine List.forall_mem_cons.mpr ⟨so_pRF (ty := .array .int) (C := RX5) (T := TX5) (N := 10) dX5_init_40 (by decide) rfl rfl (by decide) rfl in_X5 wf_X5_24 tyX5 tyX5_ok nmX5 rfl rfl rfl (by decide +kernel) (fun _ => rfl) (fun _ => rfl) rfl, ?_⟩
  refine List.forall_mem_cons.mpr ⟨so_aload_n dX5_init_43 rfl rfl, ?_⟩
  refine List.forall_mem_cons.mpr ⟨so_cv (T := TX5) (N := 10) dX5_init_44 mv_X5_reset wm_X5_27 (by decide) rfl ⟨rfl, rfl⟩ (by decide) rfl, ?_⟩
  refine List.forall_mem_cons.mpr ⟨so_rV dX5_init_47 rfl, ?_⟩
  exact fun _ h => absurd h List.not_mem_nil
theorem dX5_isThing_0 : decode cX5_isThing 0 = .ok (.iload_n 1, 1) := by decide +kernel
theorem dX5_isThing_1 : decode cX5_isThing 1 = .ok (.ifCond .lt 15, 3) := by decide +kernel
theorem dX5_isThing_4 : decode cX5_isThing 4 = .ok (.iload_n 1, 1) := by decide +kernel
theorem dX5_isThing_5 : decode cX5_isThing 5 = .ok (.aload_n 0, 1) := by decide +kernel
theorem dX5_isThing_6 : decode cX5_isThing 6 = .ok (.getfield 38, 3) := by decide +kernel
theorem dX5_isThing_9 : decode cX5_isThing 9 = .ok (.if_icmp .ge 7, 3) := by decide +kernel
theorem dX5_isThing_12 : decode cX5_isThing 12 = .ok (.iconst 1, 1) := by decide +kernel
theorem dX5_isThing_13 : decode cX5_isThing 13 = .ok (.goto 4, 3) := by decide +kernel
theorem dX5_isThing_16 : decode cX5_isThing 16 = .ok (.iconst 0, 1) := by decide +kernel
theorem dX5_isThing_17 : decode cX5_isThing 17 = .ok (.ireturn, 1) := by decide +kernel
def T_X5_isThing : tk_Tb := [(0, tk_il 1 1), (1, tk_br (fun x => x < 0) 16 4), (4, tk_il 1 5), (5, tk_al 0 6), (6, tk_gI 5 4 9), (9, tk_cm (fun x y => y ≤ x) 16 12), (12, tk_ic (1) 13), (13, tk_jmp 17), (16, tk_ic (0) 17), (17, tk_rZ)]
set_option maxRecDepth 100000 in
theorem hT_X5_isThing (sc : Option (Nat × (Nat → Int32))) : ∀ x ∈ T_X5_isThing, tk_So sc M_X5_isThing x.1 x.2 := by
  unfold T_X5_isThing
  refine List.forall_mem_cons.mpr ⟨so_iload_n dX5_isThing_0 rfl rfl, ?_⟩
  refine List.forall_mem_cons.mpr ⟨so_if_lt dX5_isThing_1 (by decide) rfl, ?_⟩
  refine List.forall_mem_cons.mpr ⟨so_iload_n dX5_isThing_4 rfl rfl, ?_⟩
  refine List.forall_mem_cons.mpr ⟨so_aload_n dX5_isThing_5 rfl rfl, ?_⟩
  refine List.forall_mem_cons.mpr ⟨so_gI (C := RX5) (T := TX5) (N := 10) dX5_isThing_6 (by decide) rfl rfl (by decide) rfl in_X5 wf_X5_38 rfl, ?_⟩
  refine List.forall_mem_cons.mpr ⟨so_icmp_ge dX5_isThing_9 (by decide) rfl, ?_⟩
  refine List.forall_mem_cons.mpr ⟨so_iconst dX5_isThing_12 (by decide) rfl, ?_⟩
  refine List.forall_mem_cons.mpr ⟨so_goto dX5_isThing_13 (by decide), ?_⟩
  refine List.forall_mem_cons.mpr ⟨so_iconst dX5_isThing_16 (by decide) rfl, ?_⟩
  refine List.forall_mem_cons.mpr ⟨so_rZ dX5_isThing_17 rfl, ?_⟩
  exact fun _ h => absurd h List.not_mem_nil
theorem dX5_areOfOneTown_0 : decode cX5_areOfOneTown 0 = .ok (.aload_n 0, 1) := by decide +kernel
theorem dX5_areOfOneTown_1 : decode cX5_areOfOneTown 1 = .ok (.iload_n 1, 1) := by decide +kernel
theorem dX5_areOfOneTown_2 : decode cX5_areOfOneTown 2 = .ok (.invokevirtual 57, 3) := by decide +kernel
theorem dX5_areOfOneTown_5 : decode cX5_areOfOneTown 5 = .ok (.ifCond .eq 30, 3) := by decide +kernel
theorem dX5_areOfOneTown_8 : decode cX5_areOfOneTown 8 = .ok (.aload_n 0, 1) := by decide +kernel
theorem dX5_areOfOneTown_9 : decode cX5_areOfOneTown 9 = .ok (.iload_n 2, 1) := by decide +kernel
theorem dX5_areOfOneTown_10 : decode cX5_areOfOneTown 10 = .ok (.invokevirtual 57, 3) := by decide +kernel
theorem dX5_areOfOneTown_13 : decode cX5_areOfOneTown 13 = .ok (.ifCond .eq 22, 3) := by decide +kernel
theorem dX5_areOfOneTown_16 : decode cX5_areOfOneTown 16 = .ok (.aload_n 0, 1) := by decide +kernel
theorem dX5_areOfOneTown_17 : decode cX5_areOfOneTown 17 = .ok (.getfield 9, 3) := by decide +kernel
theorem dX5_areOfOneTown_20 : decode cX5_areOfOneTown 20 = .ok (.iload_n 1, 1) := by decide +kernel
theorem dX5_areOfOneTown_21 : decode cX5_areOfOneTown 21 = .ok (.iaload, 1) := by decide +kernel
theorem dX5_areOfOneTown_22 : decode cX5_areOfOneTown 22 = .ok (.aload_n 0, 1) := by decide +kernel
theorem dX5_areOfOneTown_23 : decode cX5_areOfOneTown 23 = .ok (.getfield 9, 3) := by decide +kernel
theorem dX5_areOfOneTown_26 : decode cX5_areOfOneTown 26 = .ok (.iload_n 2, 1) := by decide +kernel
theorem dX5_areOfOneTown_27 : decode cX5_areOfOneTown 27 = .ok (.iaload, 1) := by decide +kernel
theorem dX5_areOfOneTown_28 : decode cX5_areOfOneTown 28 = .ok (.if_icmp .ne 7, 3) := by decide +kernel
theorem dX5_areOfOneTown_31 : decode cX5_areOfOneTown 31 = .ok (.iconst 1, 1) := by decide +kernel
theorem dX5_areOfOneTown_32 : decode cX5_areOfOneTown 32 = .ok (.goto 4, 3) := by decide +kernel
theorem dX5_areOfOneTown_35 : decode cX5_areOfOneTown 35 = .ok (.iconst 0, 1) := by decide +kernel
theorem dX5_areOfOneTown_36 : decode cX5_areOfOneTown 36 = .ok (.ireturn, 1) := by decide +kernel
def T_X5_areOfOneTown : tk_Tb := [(0, tk_al 0 1), (1, tk_il 1 2), (2, tk_cv 5 M_X5_isKerb 1 5), (5, tk_br (fun x => x = 0) 35 8), (8, tk_al 0 9), (9, tk_il 2 10), (10, tk_cv 5 M_X5_isKerb 1 13), (13, tk_br (fun x => x = 0) 35 16), (16, tk_al 0 17), (17, tk_gR 5 5 20), (20, tk_il 1 21), (21, tk_ai 9 22), (22, tk_al 0 23), (23, tk_gR 5 5 26), (26, tk_il 2 27), (27, tk_ai 9 28), (28, tk_cm (fun x y => x = y) 31 35), (31, tk_ic (1) 32), (32, tk_jmp 36), (35, tk_ic (0) 36), (36, tk_rZ)]
set_option maxRecDepth 100000 in
theorem hT_X5_areOfOneTown (sc : Option (Nat × (Nat → Int32))) : ∀ x ∈ T_X5_areOfOneTown, tk_So sc M_X5_areOfOneTown x.1 x.2 := by
  unfold T_X5_areOfOneTown
  refine List.forall_mem_cons.mpr ⟨so_aload_n dX5_areOfOneTown_0 rfl rfl, ?_⟩
  refine List.forall_mem_cons.mpr ⟨so_iload_n dX5_areOfOneTown_1 rfl rfl, ?_⟩
  refine List.forall_mem_cons.mpr ⟨so_cv (T := TX5) (N := 10) dX5_areOfOneTown_2 mv_X5_isKerb wm_X5_57 (by decide) rfl ⟨rfl, rfl⟩ (by decide) rfl, ?_⟩
  refine List.forall_mem_cons.mpr ⟨so_if_eq dX5_areOfOneTown_5 (by decide) rfl, ?_⟩
  refine List.forall_mem_cons.mpr ⟨so_aload_n dX5_areOfOneTown_8 rfl rfl, ?_⟩
  refine List.forall_mem_cons.mpr ⟨so_iload_n dX5_areOfOneTown_9 rfl rfl, ?_⟩
  refine List.forall_mem_cons.mpr ⟨so_cv (T := TX5) (N := 10) dX5_areOfOneTown_10 mv_X5_isKerb wm_X5_57 (by decide) rfl ⟨rfl, rfl⟩ (by decide) rfl, ?_⟩
  refine List.forall_mem_cons.mpr ⟨so_if_eq dX5_areOfOneTown_13 (by decide) rfl, ?_⟩
  refine List.forall_mem_cons.mpr ⟨so_aload_n dX5_areOfOneTown_16 rfl rfl, ?_⟩
  refine List.forall_mem_cons.mpr ⟨so_gR (C := RX5) (T := TX5) (N := 10) dX5_areOfOneTown_17 (by decide) rfl rfl (by decide) rfl in_X5 wf_X5_9 rfl, ?_⟩
  refine List.forall_mem_cons.mpr ⟨so_iload_n dX5_areOfOneTown_20 rfl rfl, ?_⟩
  refine List.forall_mem_cons.mpr ⟨so_iaload dX5_areOfOneTown_21 rfl, ?_⟩
  refine List.forall_mem_cons.mpr ⟨so_aload_n dX5_areOfOneTown_22 rfl rfl, ?_⟩
  refine List.forall_mem_cons.mpr ⟨so_gR (C := RX5) (T := TX5) (N := 10) dX5_areOfOneTown_23 (by decide) rfl rfl (by decide) rfl in_X5 wf_X5_9 rfl, ?_⟩
  refine List.forall_mem_cons.mpr ⟨so_iload_n dX5_areOfOneTown_26 rfl rfl, ?_⟩
  refine List.forall_mem_cons.mpr ⟨so_iaload dX5_areOfOneTown_27 rfl, ?_⟩
  refine List.forall_mem_cons.mpr ⟨so_icmp_ne dX5_areOfOneTown_28 (by decide) rfl, ?_⟩
  refine List.forall_mem_cons.mpr ⟨so_iconst dX5_areOfOneTown_31 (by decide) rfl, ?_⟩
  refine List.forall_mem_cons.mpr ⟨so_goto dX5_areOfOneTown_32 (by decide), ?_⟩
  refine List.forall_mem_cons.mpr ⟨so_iconst dX5_areOfOneTown_35 (by decide) rfl, ?_⟩
  refine List.forall_mem_cons.mpr ⟨so_rZ dX5_areOfOneTown_36 rfl, ?_⟩
  exact fun _ h => absurd h List.not_mem_nil
theorem dX5_floodedBy_0 : decode cX5_floodedBy 0 = .ok (.iconst 0, 1) := by decide +kernel
theorem dX5_floodedBy_1 : decode cX5_floodedBy 1 = .ok (.istore_n 2, 1) := by decide +kernel
theorem dX5_floodedBy_2 : decode cX5_floodedBy 2 = .ok (.iconst 0, 1) := by decide +kernel
theorem dX5_floodedBy_3 : decode cX5_floodedBy 3 = .ok (.istore_n 3, 1) := by decide +kernel
theorem dX5_floodedBy_4 : decode cX5_floodedBy 4 = .ok (.iload_n 3, 1) := by decide +kernel
theorem dX5_floodedBy_5 : decode cX5_floodedBy 5 = .ok (.aload_n 0, 1) := by decide +kernel
theorem dX5_floodedBy_6 : decode cX5_floodedBy 6 = .ok (.getfield 34, 3) := by decide +kernel
theorem dX5_floodedBy_9 : decode cX5_floodedBy 9 = .ok (.if_icmp .ge 24, 3) := by decide +kernel
theorem dX5_floodedBy_12 : decode cX5_floodedBy 12 = .ok (.aload_n 0, 1) := by decide +kernel
theorem dX5_floodedBy_13 : decode cX5_floodedBy 13 = .ok (.iload_n 3, 1) := by decide +kernel
theorem dX5_floodedBy_14 : decode cX5_floodedBy 14 = .ok (.iload_n 1, 1) := by decide +kernel
theorem dX5_floodedBy_15 : decode cX5_floodedBy 15 = .ok (.invokevirtual 65, 3) := by decide +kernel
theorem dX5_floodedBy_18 : decode cX5_floodedBy 18 = .ok (.ifCond .eq 9, 3) := by decide +kernel
theorem dX5_floodedBy_21 : decode cX5_floodedBy 21 = .ok (.iload_n 2, 1) := by decide +kernel
theorem dX5_floodedBy_22 : decode cX5_floodedBy 22 = .ok (.iconst 1, 1) := by decide +kernel
theorem dX5_floodedBy_23 : decode cX5_floodedBy 23 = .ok (.iload_n 3, 1) := by decide +kernel
theorem dX5_floodedBy_24 : decode cX5_floodedBy 24 = .ok (.ishl, 1) := by decide +kernel
theorem dX5_floodedBy_25 : decode cX5_floodedBy 25 = .ok (.ior, 1) := by decide +kernel
theorem dX5_floodedBy_26 : decode cX5_floodedBy 26 = .ok (.istore_n 2, 1) := by decide +kernel
theorem dX5_floodedBy_27 : decode cX5_floodedBy 27 = .ok (.iinc 3 1, 3) := by decide +kernel
theorem dX5_floodedBy_30 : decode cX5_floodedBy 30 = .ok (.goto (-26), 3) := by decide +kernel
theorem dX5_floodedBy_33 : decode cX5_floodedBy 33 = .ok (.iload_n 2, 1) := by decide +kernel
theorem dX5_floodedBy_34 : decode cX5_floodedBy 34 = .ok (.ireturn, 1) := by decide +kernel
def T_X5_floodedBy : tk_Tb := [(0, tk_ic (0) 1), (1, tk_sI 2 2), (2, tk_ic (0) 3), (3, tk_sI 3 4), (4, tk_il 3 5), (5, tk_al 0 6), (6, tk_gI 5 3 9), (9, tk_cm (fun x y => y ≤ x) 33 12), (12, tk_al 0 13), (13, tk_il 3 14), (14, tk_il 1 15), (15, tk_cv 5 M_X5_isFlooded 2 18), (18, tk_br (fun x => x = 0) 27 21), (21, tk_il 2 22), (22, tk_ic (1) 23), (23, tk_il 3 24), (24, tk_bi (fun x y => x <<< (y &&& 31)) 25), (25, tk_bi (fun x y => x ||| y) 26), (26, tk_sI 2 27), (27, tk_inc 3 (1) 30), (30, tk_jmp 4), (33, tk_il 2 34), (34, tk_rI)]
set_option maxRecDepth 100000 in
theorem hT_X5_floodedBy (sc : Option (Nat × (Nat → Int32))) : ∀ x ∈ T_X5_floodedBy, tk_So sc M_X5_floodedBy x.1 x.2 := by
  unfold T_X5_floodedBy
  refine List.forall_mem_cons.mpr ⟨so_iconst dX5_floodedBy_0 (by decide) rfl, ?_⟩
  refine List.forall_mem_cons.mpr ⟨so_istore_n dX5_floodedBy_1 rfl rfl, ?_⟩
  refine List.forall_mem_cons.mpr ⟨so_iconst dX5_floodedBy_2 (by decide) rfl, ?_⟩
  refine List.forall_mem_cons.mpr ⟨so_istore_n dX5_floodedBy_3 rfl rfl, ?_⟩
  refine List.forall_mem_cons.mpr ⟨so_iload_n dX5_floodedBy_4 rfl rfl, ?_⟩
  refine List.forall_mem_cons.mpr ⟨so_aload_n dX5_floodedBy_5 rfl rfl, ?_⟩
  refine List.forall_mem_cons.mpr ⟨so_gI (C := RX5) (T := TX5) (N := 10) dX5_floodedBy_6 (by decide) rfl rfl (by decide) rfl in_X5 wf_X5_34 rfl, ?_⟩
  refine List.forall_mem_cons.mpr ⟨so_icmp_ge dX5_floodedBy_9 (by decide) rfl, ?_⟩
  refine List.forall_mem_cons.mpr ⟨so_aload_n dX5_floodedBy_12 rfl rfl, ?_⟩
  refine List.forall_mem_cons.mpr ⟨so_iload_n dX5_floodedBy_13 rfl rfl, ?_⟩
  refine List.forall_mem_cons.mpr ⟨so_iload_n dX5_floodedBy_14 rfl rfl, ?_⟩
  refine List.forall_mem_cons.mpr ⟨so_cv (T := TX5) (N := 10) dX5_floodedBy_15 mv_X5_isFlooded wm_X5_65 (by decide) rfl ⟨rfl, rfl⟩ (by decide) rfl, ?_⟩
  refine List.forall_mem_cons.mpr ⟨so_if_eq dX5_floodedBy_18 (by decide) rfl, ?_⟩
  refine List.forall_mem_cons.mpr ⟨so_iload_n dX5_floodedBy_21 rfl rfl, ?_⟩
  refine List.forall_mem_cons.mpr ⟨so_iconst dX5_floodedBy_22 (by decide) rfl, ?_⟩
  refine List.forall_mem_cons.mpr ⟨so_iload_n dX5_floodedBy_23 rfl rfl, ?_⟩
  refine List.forall_mem_cons.mpr ⟨so_ishl dX5_floodedBy_24 rfl, ?_⟩
  refine List.forall_mem_cons.mpr ⟨so_ior dX5_floodedBy_25 rfl, ?_⟩
  refine List.forall_mem_cons.mpr ⟨so_istore_n dX5_floodedBy_26 rfl rfl, ?_⟩
  refine List.forall_mem_cons.mpr ⟨so_iinc dX5_floodedBy_27 (by decide) rfl, ?_⟩
  refine List.forall_mem_cons.mpr ⟨so_goto dX5_floodedBy_30 (by decide), ?_⟩
  refine List.forall_mem_cons.mpr ⟨so_iload_n dX5_floodedBy_33 rfl rfl, ?_⟩
  refine List.forall_mem_cons.mpr ⟨so_rI dX5_floodedBy_34 rfl, ?_⟩
  exact fun _ h => absurd h List.not_mem_nil
theorem dX6_init_0 : decode cX6_init 0 = .ok (.aload_n 0, 1) := by decide +kernel
theorem dX6_init_1 : decode cX6_init 1 = .ok (.invokespecial 1, 3) := by decide +kernel
theorem dX6_init_4 : decode cX6_init 4 = .ok (.aload_n 0, 1) := by decide +kernel
theorem dX6_init_5 : decode cX6_init 5 = .ok (.new 7, 3) := by decide +kernel
theorem dX6_init_8 : decode cX6_init 8 = .ok (.dup, 1) := by decide +kernel
theorem dX6_init_9 : decode cX6_init 9 = .ok (.invokespecial 9, 3) := by decide +kernel
theorem dX6_init_12 : decode cX6_init 12 = .ok (.putfield 10, 3) := by decide +kernel
theorem dX6_init_15 : decode cX6_init 15 = .ok (.aload_n 0, 1) := by decide +kernel
theorem dX6_init_16 : decode cX6_init 16 = .ok (.new 16, 3) := by decide +kernel
theorem dX6_init_19 : decode cX6_init 19 = .ok (.dup, 1) := by decide +kernel
theorem dX6_init_20 : decode cX6_init 20 = .ok (.invokespecial 18, 3) := by decide +kernel
theorem dX6_init_23 : decode cX6_init 23 = .ok (.putfield 19, 3) := by decide +kernel
theorem dX6_init_26 : decode cX6_init 26 = .ok (.aload_n 0, 1) := by decide +kernel
theorem dX6_init_27 : decode cX6_init 27 = .ok (.new 16, 3) := by decide +kernel
theorem dX6_init_30 : decode cX6_init 30 = .ok (.dup, 1) := by decide +kernel
theorem dX6_init_31 : decode cX6_init 31 = .ok (.invokespecial 18, 3) := by decide +kernel
theorem dX6_init_34 : decode cX6_init 34 = .ok (.putfield 23, 3) := by decide +kernel
theorem dX6_init_37 : decode cX6_init 37 = .ok (.aload_n 0, 1) := by decide +kernel
theorem dX6_init_38 : decode cX6_init 38 = .ok (.new 26, 3) := by decide +kernel
theorem dX6_init_41 : decode cX6_init 41 = .ok (.dup, 1) := by decide +kernel
theorem dX6_init_42 : decode cX6_init 42 = .ok (.invokespecial 28, 3) := by decide +kernel
theorem dX6_init_45 : decode cX6_init 45 = .ok (.putfield 29, 3) := by decide +kernel
theorem dX6_init_48 : decode cX6_init 48 = .ok (.aload_n 0, 1) := by decide +kernel
theorem dX6_init_49 : decode cX6_init 49 = .ok (.new 33, 3) := by decide +kernel
theorem dX6_init_52 : decode cX6_init 52 = .ok (.dup, 1) := by decide +kernel
theorem dX6_init_53 : decode cX6_init 53 = .ok (.invokespecial 35, 3) := by decide +kernel
theorem dX6_init_56 : decode cX6_init 56 = .ok (.putfield 36, 3) := by decide +kernel
theorem dX6_init_59 : decode cX6_init 59 = .ok (.aload_n 0, 1) := by decide +kernel
theorem dX6_init_60 : decode cX6_init 60 = .ok (.iconst 2, 1) := by decide +kernel
theorem dX6_init_61 : decode cX6_init 61 = .ok (.bipush 17, 2) := by decide +kernel
theorem dX6_init_63 : decode cX6_init 63 = .ok (.multianewarray 40 2, 4) := by decide +kernel
theorem dX6_init_67 : decode cX6_init 67 = .ok (.putfield 42, 3) := by decide +kernel
theorem dX6_init_70 : decode cX6_init 70 = .ok (.aload_n 0, 1) := by decide +kernel
theorem dX6_init_71 : decode cX6_init 71 = .ok (.iconst 2, 1) := by decide +kernel
theorem dX6_init_72 : decode cX6_init 72 = .ok (.newarray .boolean, 2) := by decide +kernel
theorem dX6_init_74 : decode cX6_init 74 = .ok (.putfield 45, 3) := by decide +kernel
theorem dX6_init_77 : decode cX6_init 77 = .ok (.aload_n 0, 1) := by decide +kernel
theorem dX6_init_78 : decode cX6_init 78 = .ok (.new 49, 3) := by decide +kernel
theorem dX6_init_81 : decode cX6_init 81 = .ok (.dup, 1) := by decide +kernel
theorem dX6_init_82 : decode cX6_init 82 = .ok (.invokespecial 51, 3) := by decide +kernel
theorem dX6_init_85 : decode cX6_init 85 = .ok (.putfield 52, 3) := by decide +kernel
theorem dX6_init_88 : decode cX6_init 88 = .ok (.aload_n 0, 1) := by decide +kernel
theorem dX6_init_89 : decode cX6_init 89 = .ok (.new 49, 3) := by decide +kernel
theorem dX6_init_92 : decode cX6_init 92 = .ok (.dup, 1) := by decide +kernel
theorem dX6_init_93 : decode cX6_init 93 = .ok (.invokespecial 51, 3) := by decide +kernel
theorem dX6_init_96 : decode cX6_init 96 = .ok (.putfield 56, 3) := by decide +kernel
theorem dX6_init_99 : decode cX6_init 99 = .ok (.aload_n 0, 1) := by decide +kernel
theorem dX6_init_100 : decode cX6_init 100 = .ok (.new 59, 3) := by decide +kernel
theorem dX6_init_103 : decode cX6_init 103 = .ok (.dup, 1) := by decide +kernel
theorem dX6_init_104 : decode cX6_init 104 = .ok (.invokespecial 61, 3) := by decide +kernel
theorem dX6_init_107 : decode cX6_init 107 = .ok (.putfield 62, 3) := by decide +kernel
theorem dX6_init_110 : decode cX6_init 110 = .ok (.aload_n 0, 1) := by decide +kernel
theorem dX6_init_111 : decode cX6_init 111 = .ok (.new 59, 3) := by decide +kernel
theorem dX6_init_114 : decode cX6_init 114 = .ok (.dup, 1) := by decide +kernel
theorem dX6_init_115 : decode cX6_init 115 = .ok (.invokespecial 61, 3) := by decide +kernel
theorem dX6_init_118 : decode cX6_init 118 = .ok (.putfield 66, 3) := by decide +kernel
theorem dX6_init_121 : decode cX6_init 121 = .ok (.return_, 1) := by decide +kernel
def T_X6_init : tk_Tb := [(0, tk_al 0 1), (1, tk_oi 4), (4, tk_al 0 5), (5, tk_new 3 8 45 531), (8, tk_dup 9), (9, tk_ci M_X3_init 0 12 45 531), (12, tk_pR 6 0 15), (15, tk_al 0 16), (16, tk_new 5 19 45 531), (19, tk_dup 20), (20, tk_ci M_X5_init 0 23 45 531), (23, tk_pR 6 1 26), (26, tk_al 0 27), (27, tk_new 5 30 45 531), (30, tk_dup 31), (31, tk_ci M_X5_init 0 34 45 531), (34, tk_pR 6 2 37), (37, tk_al 0 38), (38, tk_new 1 41 45 531), (41, tk_dup 42), (42, tk_ci M_X1_init 0 45 45 531), (45, tk_pR 6 3 48), (48, tk_al 0 49), (49, tk_new 2 52 45 531), (52, tk_dup 53), (53, tk_ci M_X2_init 0 56 45 531), (56, tk_pR 6 4 59), (59, tk_al 0 60), (60, tk_ic (2) 61), (61, tk_ic (17) 63), (63, tk_mna 67 45 531), (67, tk_pR 6 5 70), (70, tk_al 0 71), (71, tk_ic (2) 72), (72, tk_nwa 10 74 45 531), (74, tk_pR 6 6 77), (77, tk_al 0 78), (78, tk_new 0 81 45 531), (81, tk_dup 82), (82, tk_ci M_X0_init 0 85 45 531), (85, tk_pR 6 7 88), (88, tk_al 0 89), (89, tk_new 0 92 45 531), (92, tk_dup 93), (93, tk_ci M_X0_init 0 96 45 531), (96, tk_pR 6 8 99), (99, tk_al 0 100), (100, tk_new 4 103 45 531), (103, tk_dup 104), (104, tk_ci M_X4_init 0 107 45 531), (107, tk_pR 6 9 110), (110, tk_al 0 111), (111, tk_new 4 114 45 531), (114, tk_dup 115), (115, tk_ci M_X4_init 0 118 45 531), (118, tk_pR 6 10 121), (121, tk_rV)]
set_option maxRecDepth 100000 in
theorem hT_X6_init (sc : Option (Nat × (Nat → Int32))) : ∀ x ∈ T_X6_init, tk_So sc M_X6_init x.1 x.2 := by
  unfold T_X6_init
  refine List.forall_mem_cons.mpr ⟨so_aload_n dX6_init_0 rfl rfl, ?_⟩
  refine List.forall_mem_cons.mpr ⟨so_oi dX6_init_1 wm_X6_1 wo_1 wo_2 (by decide) rfl, ?_⟩
  refine List.forall_mem_cons.mpr ⟨so_aload_n dX6_init_4 rfl rfl, ?_⟩
  refine List.forall_mem_cons.mpr ⟨so_new (C := RX3) (T := TX3) (N := 7) dX6_init_5 (by decide) rfl rfl in_X3 tyX3 tyX3_ok wk_X6_7 wi_X3 wn_X3 (by decide +kernel) rfl rfl rfl, ?_⟩
  refine List.forall_mem_cons.mpr ⟨so_dup dX6_init_8 rfl, ?_⟩
  refine List.forall_mem_cons.mpr ⟨so_ciN dX6_init_9 mv_X3_init wm_X6_9 rfl rfl (by decide) rfl, ?_⟩
  refine List.forall_mem_cons.mpr ⟨so_pRF (ty := .object "TwoKerbs$Text") (C := RX6) (T := TX6) (N := 12) dX6_init_12 (by decide) rfl rfl (by decide) rfl in_X6 wf_X6_10 tyX6 tyX6_ok nmX6 rfl rfl rfl (by decide +kernel) (fun _ => rfl) (fun _ => rfl) rfl, ?_⟩
  refine List.forall_mem_cons.mpr ⟨so_aload_n dX6_init_15 rfl rfl, ?_⟩
  refine List.forall_mem_cons.mpr ⟨so_new (C := RX5) (T := TX5) (N := 10) dX6_init_16 (by decide) rfl rfl in_X5 tyX5 tyX5_ok wk_X6_16 wi_X5 wn_X5 (by decide +kernel) rfl rfl rfl, ?_⟩
  refine List.forall_mem_cons.mpr ⟨so_dup dX6_init_19 rfl, ?_⟩
  refine List.forall_mem_cons.mpr ⟨so_ci dX6_init_20 mv_X5_init wm_X6_18 rfl rfl (by decide) rfl, ?_⟩
  refine List.forall_mem_cons.mpr ⟨so_pR (ty := .object "TwoKerbs$Towns") (C := RX6) (T := TX6) (N := 12) dX6_init_23 (by decide) rfl rfl (by decide) rfl in_X6 wf_X6_19 tyX6 tyX6_ok nmX6 rfl (by decide +kernel) (fun _ => rfl) (fun _ => rfl) rfl, ?_⟩
  refine List.forall_mem_cons.mpr ⟨so_aload_n dX6_init_26 rfl rfl, ?_⟩
  refine List.forall_mem_cons.mpr ⟨so_new (C := RX5) (T := TX5) (N := 10) dX6_init_27 (by decide) rfl rfl in_X5 tyX5 tyX5_ok wk_X6_16 wi_X5 wn_X5 (by decide +kernel) rfl rfl rfl, ?_⟩
  refine List.forall_mem_cons.mpr ⟨so_dup dX6_init_30 rfl, ?_⟩
  refine List.forall_mem_cons.mpr ⟨so_ci dX6_init_31 mv_X5_init wm_X6_18 rfl rfl (by decide) rfl, ?_⟩
  refine List.forall_mem_cons.mpr ⟨so_pR (ty := .object "TwoKerbs$Towns") (C := RX6) (T := TX6) (N := 12) dX6_init_34 (by decide) rfl rfl (by decide) rfl in_X6 wf_X6_23 tyX6 tyX6_ok nmX6 rfl (by decide +kernel) (fun _ => rfl) (fun _ => rfl) rfl, ?_⟩
  refine List.forall_mem_cons.mpr ⟨so_aload_n dX6_init_37 rfl rfl, ?_⟩
  refine List.forall_mem_cons.mpr ⟨so_new (C := RX1) (T := TX1) (N := 3) dX6_init_38 (by decide) rfl rfl in_X1 tyX1 tyX1_ok wk_X6_26 wi_X1 wn_X1 (by decide +kernel) rfl rfl rfl, ?_⟩
  refine List.forall_mem_cons.mpr ⟨so_dup dX6_init_41 rfl, ?_⟩
  refine List.forall_mem_cons.mpr ⟨so_ci dX6_init_42 mv_X1_init wm_X6_28 rfl rfl (by decide) rfl, ?_⟩
  refine List.forall_mem_cons.mpr ⟨so_pRF (ty := .object "TwoKerbs$Now") (C := RX6) (T := TX6) (N := 12) dX6_init_45 (by decide) rfl rfl (by decide) rfl in_X6 wf_X6_29 tyX6 tyX6_ok nmX6 rfl rfl rfl (by decide +kernel) (fun _ => rfl) (fun _ => rfl) rfl, ?_⟩
  refine List.forall_mem_cons.mpr ⟨so_aload_n dX6_init_48 rfl rfl, ?_⟩
  refine List.forall_mem_cons.mpr ⟨so_new (C := RX2) (T := TX2) (N := 3) dX6_init_49 (by decide) rfl rfl in_X2 tyX2 tyX2_ok wk_X6_33 wi_X2 wn_X2 (by decide +kernel) rfl rfl rfl, ?_⟩
  refine List.forall_mem_cons.mpr ⟨so_dup dX6_init_52 rfl, ?_⟩
  refine List.forall_mem_cons.mpr ⟨so_ciN dX6_init_53 mv_X2_init wm_X6_35 rfl rfl (by decide) rfl, ?_⟩
  refine List.forall_mem_cons.mpr ⟨so_pRF (ty := .object "TwoKerbs$Past") (C := RX6) (T := TX6) (N := 12) dX6_init_56 (by decide) rfl rfl (by decide) rfl in_X6 wf_X6_36 tyX6 tyX6_ok nmX6 rfl rfl rfl (by decide +kernel) (fun _ => rfl) (fun _ => rfl) rfl, ?_⟩
  refine List.forall_mem_cons.mpr ⟨so_aload_n dX6_init_59 rfl rfl, ?_⟩
  refine List.forall_mem_cons.mpr ⟨so_iconst dX6_init_60 (by decide) rfl, ?_⟩
  refine List.forall_mem_cons.mpr ⟨so_bipush dX6_init_61 (by decide) rfl, ?_⟩
  refine List.forall_mem_cons.mpr ⟨so_mna dX6_init_63 wk_X6_40 wa_int rfl rfl rfl, ?_⟩
  refine List.forall_mem_cons.mpr ⟨so_pRF (ty := .array (.array .int)) (C := RX6) (T := TX6) (N := 12) dX6_init_67 (by decide) rfl rfl (by decide) rfl in_X6 wf_X6_42 tyX6 tyX6_ok nmX6 rfl rfl rfl (by decide +kernel) (fun _ => rfl) (fun _ => rfl) rfl, ?_⟩
  refine List.forall_mem_cons.mpr ⟨so_aload_n dX6_init_70 rfl rfl, ?_⟩
  refine List.forall_mem_cons.mpr ⟨so_iconst dX6_init_71 (by decide) rfl, ?_⟩
  refine List.forall_mem_cons.mpr ⟨so_nwZ dX6_init_72 rfl wa_boolean rfl rfl rfl, ?_⟩
  refine List.forall_mem_cons.mpr ⟨so_pRF (ty := .array .boolean) (C := RX6) (T := TX6) (N := 12) dX6_init_74 (by decide) rfl rfl (by decide) rfl in_X6 wf_X6_45 tyX6 tyX6_ok nmX6 rfl rfl rfl (by decide +kernel) (fun _ => rfl) (fun _ => rfl) rfl, ?_⟩
  refine List.forall_mem_cons.mpr ⟨so_aload_n dX6_init_77 rfl rfl, ?_⟩
  refine List.forall_mem_cons.mpr ⟨so_new (C := RX0) (T := TX0) (N := 3) dX6_init_78 (by decide) rfl rfl in_X0 tyX0 tyX0_ok wk_X6_49 wi_X0 wn_X0 (by decide +kernel) rfl rfl rfl, ?_⟩
  refine List.forall_mem_cons.mpr ⟨so_dup dX6_init_81 rfl, ?_⟩
  refine List.forall_mem_cons.mpr ⟨so_ciN dX6_init_82 mv_X0_init wm_X6_51 rfl rfl (by decide) rfl, ?_⟩
  refine List.forall_mem_cons.mpr ⟨so_pRF (ty := .object "TwoKerbs$Notes") (C := RX6) (T := TX6) (N := 12) dX6_init_85 (by decide) rfl rfl (by decide) rfl in_X6 wf_X6_52 tyX6 tyX6_ok nmX6 rfl rfl rfl (by decide +kernel) (fun _ => rfl) (fun _ => rfl) rfl, ?_⟩
  refine List.forall_mem_cons.mpr ⟨so_aload_n dX6_init_88 rfl rfl, ?_⟩
  refine List.forall_mem_cons.mpr ⟨so_new (C := RX0) (T := TX0) (N := 3) dX6_init_89 (by decide) rfl rfl in_X0 tyX0 tyX0_ok wk_X6_49 wi_X0 wn_X0 (by decide +kernel) rfl rfl rfl, ?_⟩
  refine List.forall_mem_cons.mpr ⟨so_dup dX6_init_92 rfl, ?_⟩
  refine List.forall_mem_cons.mpr ⟨so_ciN dX6_init_93 mv_X0_init wm_X6_51 rfl rfl (by decide) rfl, ?_⟩
  refine List.forall_mem_cons.mpr ⟨so_pRF (ty := .object "TwoKerbs$Notes") (C := RX6) (T := TX6) (N := 12) dX6_init_96 (by decide) rfl rfl (by decide) rfl in_X6 wf_X6_56 tyX6 tyX6_ok nmX6 rfl rfl rfl (by decide +kernel) (fun _ => rfl) (fun _ => rfl) rfl, ?_⟩
  refine List.forall_mem_cons.mpr ⟨so_aload_n dX6_init_99 rfl rfl, ?_⟩
  refine List.forall_mem_cons.mpr ⟨so_new (C := RX4) (T := TX4) (N := 3) dX6_init_100 (by decide) rfl rfl in_X4 tyX4 tyX4_ok wk_X6_59 wi_X4 wn_X4 (by decide +kernel) rfl rfl rfl, ?_⟩
  refine List.forall_mem_cons.mpr ⟨so_dup dX6_init_103 rfl, ?_⟩
  refine List.forall_mem_cons.mpr ⟨so_ciN dX6_init_104 mv_X4_init wm_X6_61 rfl rfl (by decide) rfl, ?_⟩
  refine List.forall_mem_cons.mpr ⟨so_pRF (ty := .object "TwoKerbs$Thing") (C := RX6) (T := TX6) (N := 12) dX6_init_107 (by decide) rfl rfl (by decide) rfl in_X6 wf_X6_62 tyX6 tyX6_ok nmX6 rfl rfl rfl (by decide +kernel) (fun _ => rfl) (fun _ => rfl) rfl, ?_⟩
  refine List.forall_mem_cons.mpr ⟨so_aload_n dX6_init_110 rfl rfl, ?_⟩
  refine List.forall_mem_cons.mpr ⟨so_new (C := RX4) (T := TX4) (N := 3) dX6_init_111 (by decide) rfl rfl in_X4 tyX4 tyX4_ok wk_X6_59 wi_X4 wn_X4 (by decide +kernel) rfl rfl rfl, ?_⟩
  refine List.forall_mem_cons.mpr ⟨so_dup dX6_init_114 rfl, ?_⟩
  refine List.forall_mem_cons.mpr ⟨so_ciN dX6_init_115 mv_X4_init wm_X6_61 rfl rfl (by decide) rfl, ?_⟩
  refine List.forall_mem_cons.mpr ⟨so_pRF (ty := .object "TwoKerbs$Thing") (C := RX6) (T := TX6) (N := 12) dX6_init_118 (by decide) rfl rfl (by decide) rfl in_X6 wf_X6_66 tyX6 tyX6_ok nmX6 rfl rfl rfl (by decide +kernel) (fun _ => rfl) (fun _ => rfl) rfl, ?_⟩
  refine List.forall_mem_cons.mpr ⟨so_rV dX6_init_121 rfl, ?_⟩
  exact fun _ h => absurd h List.not_mem_nil
theorem dX6_type_0 : decode cX6_type 0 = .ok (.iload_n 1, 1) := by decide +kernel
theorem dX6_type_1 : decode cX6_type 1 = .ok (.iconst 0, 1) := by decide +kernel
theorem dX6_type_2 : decode cX6_type 2 = .ok (.sipush 255, 3) := by decide +kernel
theorem dX6_type_5 : decode cX6_type 5 = .ok (.invokestatic 69, 3) := by decide +kernel
theorem dX6_type_8 : decode cX6_type 8 = .ok (.ifCond .ne 5, 3) := by decide +kernel
theorem dX6_type_11 : decode cX6_type 11 = .ok (.iconst (-1), 1) := by decide +kernel
theorem dX6_type_12 : decode cX6_type 12 = .ok (.ireturn, 1) := by decide +kernel
theorem dX6_type_13 : decode cX6_type 13 = .ok (.aload_n 0, 1) := by decide +kernel
theorem dX6_type_14 : decode cX6_type 14 = .ok (.getfield 10, 3) := by decide +kernel
theorem dX6_type_17 : decode cX6_type 17 = .ok (.iload_n 1, 1) := by decide +kernel
theorem dX6_type_18 : decode cX6_type 18 = .ok (.invokevirtual 73, 3) := by decide +kernel
theorem dX6_type_21 : decode cX6_type 21 = .ok (.ireturn, 1) := by decide +kernel
def T_X6_type : tk_Tb := [(0, tk_il 1 1), (1, tk_ic (0) 2), (2, tk_ic (255) 5), (5, tk_cs M_X6_isWithin 3 8), (8, tk_br (fun x => x = 0) 11 13), (11, tk_ic (-1) 12), (12, tk_rI), (13, tk_al 0 14), (14, tk_gR 6 0 17), (17, tk_il 1 18), (18, tk_cv 3 M_X3_add 1 21), (21, tk_rI)]
set_option maxRecDepth 100000 in
theorem hT_X6_type (sc : Option (Nat × (Nat → Int32))) : ∀ x ∈ T_X6_type, tk_So sc M_X6_type x.1 x.2 := by
  unfold T_X6_type
  refine List.forall_mem_cons.mpr ⟨so_iload_n dX6_type_0 rfl rfl, ?_⟩
  refine List.forall_mem_cons.mpr ⟨so_iconst dX6_type_1 (by decide) rfl, ?_⟩
  refine List.forall_mem_cons.mpr ⟨so_sipush dX6_type_2 (by decide) rfl, ?_⟩
  refine List.forall_mem_cons.mpr ⟨so_cs dX6_type_5 mv_X6_isWithin wm_X6_69 ⟨rfl, rfl⟩ (by decide) rfl, ?_⟩
  refine List.forall_mem_cons.mpr ⟨so_if_ne dX6_type_8 (by decide) rfl, ?_⟩
  refine List.forall_mem_cons.mpr ⟨so_iconst dX6_type_11 (by decide) rfl, ?_⟩
  refine List.forall_mem_cons.mpr ⟨so_rI dX6_type_12 rfl, ?_⟩
  refine List.forall_mem_cons.mpr ⟨so_aload_n dX6_type_13 rfl rfl, ?_⟩
  refine List.forall_mem_cons.mpr ⟨so_gR (C := RX6) (T := TX6) (N := 12) dX6_type_14 (by decide) rfl rfl (by decide) rfl in_X6 wf_X6_10 rfl, ?_⟩
  refine List.forall_mem_cons.mpr ⟨so_iload_n dX6_type_17 rfl rfl, ?_⟩
  refine List.forall_mem_cons.mpr ⟨so_cv (T := TX3) (N := 7) dX6_type_18 mv_X3_add wm_X6_73 (by decide) rfl ⟨rfl, rfl⟩ (by decide) rfl, ?_⟩
  refine List.forall_mem_cons.mpr ⟨so_rI dX6_type_21 rfl, ?_⟩
  exact fun _ h => absurd h List.not_mem_nil
theorem dX6_clear_0 : decode cX6_clear 0 = .ok (.aload_n 0, 1) := by decide +kernel
theorem dX6_clear_1 : decode cX6_clear 1 = .ok (.getfield 10, 3) := by decide +kernel
theorem dX6_clear_4 : decode cX6_clear 4 = .ok (.invokevirtual 77, 3) := by decide +kernel
theorem dX6_clear_7 : decode cX6_clear 7 = .ok (.ireturn, 1) := by decide +kernel
def T_X6_clear : tk_Tb := [(0, tk_al 0 1), (1, tk_gR 6 0 4), (4, tk_cv 3 M_X3_empty 0 7), (7, tk_rI)]
set_option maxRecDepth 100000 in
theorem hT_X6_clear (sc : Option (Nat × (Nat → Int32))) : ∀ x ∈ T_X6_clear, tk_So sc M_X6_clear x.1 x.2 := by
  unfold T_X6_clear
  refine List.forall_mem_cons.mpr ⟨so_aload_n dX6_clear_0 rfl rfl, ?_⟩
  refine List.forall_mem_cons.mpr ⟨so_gR (C := RX6) (T := TX6) (N := 12) dX6_clear_1 (by decide) rfl rfl (by decide) rfl in_X6 wf_X6_10 rfl, ?_⟩
  refine List.forall_mem_cons.mpr ⟨so_cv (T := TX3) (N := 7) dX6_clear_4 mv_X3_empty wm_X6_77 (by decide) rfl ⟨rfl, rfl⟩ (by decide) rfl, ?_⟩
  refine List.forall_mem_cons.mpr ⟨so_rI dX6_clear_7 rfl, ?_⟩
  exact fun _ h => absurd h List.not_mem_nil
theorem dX6_towns_0 : decode cX6_towns 0 = .ok (.aload_n 0, 1) := by decide +kernel
theorem dX6_towns_1 : decode cX6_towns 1 = .ok (.getfield 10, 3) := by decide +kernel
theorem dX6_towns_4 : decode cX6_towns 4 = .ok (.aload_n 0, 1) := by decide +kernel
theorem dX6_towns_5 : decode cX6_towns 5 = .ok (.getfield 23, 3) := by decide +kernel
theorem dX6_towns_8 : decode cX6_towns 8 = .ok (.invokevirtual 81, 3) := by decide +kernel
theorem dX6_towns_11 : decode cX6_towns 11 = .ok (.istore_n 1, 1) := by decide +kernel
theorem dX6_towns_12 : decode cX6_towns 12 = .ok (.iload_n 1, 1) := by decide +kernel
theorem dX6_towns_13 : decode cX6_towns 13 = .ok (.ifCond .ge 5, 3) := by decide +kernel
theorem dX6_towns_16 : decode cX6_towns 16 = .ok (.iload_n 1, 1) := by decide +kernel
theorem dX6_towns_17 : decode cX6_towns 17 = .ok (.ireturn, 1) := by decide +kernel
theorem dX6_towns_18 : decode cX6_towns 18 = .ok (.aload_n 0, 1) := by decide +kernel
theorem dX6_towns_19 : decode cX6_towns 19 = .ok (.getfield 19, 3) := by decide +kernel
theorem dX6_towns_22 : decode cX6_towns 22 = .ok (.astore_n 2, 1) := by decide +kernel
theorem dX6_towns_23 : decode cX6_towns 23 = .ok (.aload_n 0, 1) := by decide +kernel
theorem dX6_towns_24 : decode cX6_towns 24 = .ok (.aload_n 0, 1) := by decide +kernel
theorem dX6_towns_25 : decode cX6_towns 25 = .ok (.getfield 23, 3) := by decide +kernel
theorem dX6_towns_28 : decode cX6_towns 28 = .ok (.putfield 19, 3) := by decide +kernel
theorem dX6_towns_31 : decode cX6_towns 31 = .ok (.aload_n 0, 1) := by decide +kernel
theorem dX6_towns_32 : decode cX6_towns 32 = .ok (.aload_n 2, 1) := by decide +kernel
theorem dX6_towns_33 : decode cX6_towns 33 = .ok (.putfield 23, 3) := by decide +kernel
theorem dX6_towns_36 : decode cX6_towns 36 = .ok (.aload_n 0, 1) := by decide +kernel
theorem dX6_towns_37 : decode cX6_towns 37 = .ok (.getfield 10, 3) := by decide +kernel
theorem dX6_towns_40 : decode cX6_towns 40 = .ok (.invokevirtual 77, 3) := by decide +kernel
theorem dX6_towns_43 : decode cX6_towns 43 = .ok (.pop, 1) := by decide +kernel
theorem dX6_towns_44 : decode cX6_towns 44 = .ok (.aload_n 0, 1) := by decide +kernel
theorem dX6_towns_45 : decode cX6_towns 45 = .ok (.getfield 29, 3) := by decide +kernel
theorem dX6_towns_48 : decode cX6_towns 48 = .ok (.aload_n 0, 1) := by decide +kernel
theorem dX6_towns_49 : decode cX6_towns 49 = .ok (.getfield 19, 3) := by decide +kernel
theorem dX6_towns_52 : decode cX6_towns 52 = .ok (.invokevirtual 85, 3) := by decide +kernel
theorem dX6_towns_55 : decode cX6_towns 55 = .ok (.aload_n 0, 1) := by decide +kernel
theorem dX6_towns_56 : decode cX6_towns 56 = .ok (.getfield 36, 3) := by decide +kernel
theorem dX6_towns_59 : decode cX6_towns 59 = .ok (.invokevirtual 89, 3) := by decide +kernel
theorem dX6_towns_62 : decode cX6_towns 62 = .ok (.aload_n 0, 1) := by decide +kernel
theorem dX6_towns_63 : decode cX6_towns 63 = .ok (.getfield 52, 3) := by decide +kernel
theorem dX6_towns_66 : decode cX6_towns 66 = .ok (.invokevirtual 92, 3) := by decide +kernel
theorem dX6_towns_69 : decode cX6_towns 69 = .ok (.pop, 1) := by decide +kernel
theorem dX6_towns_70 : decode cX6_towns 70 = .ok (.aload_n 0, 1) := by decide +kernel
theorem dX6_towns_71 : decode cX6_towns 71 = .ok (.getfield 56, 3) := by decide +kernel
theorem dX6_towns_74 : decode cX6_towns 74 = .ok (.invokevirtual 92, 3) := by decide +kernel
theorem dX6_towns_77 : decode cX6_towns 77 = .ok (.pop, 1) := by decide +kernel
theorem dX6_towns_78 : decode cX6_towns 78 = .ok (.iconst 0, 1) := by decide +kernel
theorem dX6_towns_79 : decode cX6_towns 79 = .ok (.istore_n 3, 1) := by decide +kernel
theorem dX6_towns_80 : decode cX6_towns 80 = .ok (.iload_n 3, 1) := by decide +kernel
theorem dX6_towns_81 : decode cX6_towns 81 = .ok (.iconst 2, 1) := by decide +kernel
theorem dX6_towns_82 : decode cX6_towns 82 = .ok (.if_icmp .ge 16, 3) := by decide +kernel
theorem dX6_towns_85 : decode cX6_towns 85 = .ok (.aload_n 0, 1) := by decide +kernel
theorem dX6_towns_86 : decode cX6_towns 86 = .ok (.getfield 45, 3) := by decide +kernel
theorem dX6_towns_89 : decode cX6_towns 89 = .ok (.iload_n 3, 1) := by decide +kernel
theorem dX6_towns_90 : decode cX6_towns 90 = .ok (.iconst 0, 1) := by decide +kernel
theorem dX6_towns_91 : decode cX6_towns 91 = .ok (.bastore, 1) := by decide +kernel
theorem dX6_towns_92 : decode cX6_towns 92 = .ok (.iinc 3 1, 3) := by decide +kernel
theorem dX6_towns_95 : decode cX6_towns 95 = .ok (.goto (-15), 3) := by decide +kernel
theorem dX6_towns_98 : decode cX6_towns 98 = .ok (.iload_n 1, 1) := by decide +kernel
theorem dX6_towns_99 : decode cX6_towns 99 = .ok (.ireturn, 1) := by decide +kernel
def T_X6_towns : tk_Tb := [(0, tk_al 0 1), (1, tk_gR 6 0 4), (4, tk_al 0 5), (5, tk_gR 6 2 8), (8, tk_cv 3 M_X3_readInto 1 11), (11, tk_sI 1 12), (12, tk_il 1 13), (13, tk_br (fun x => 0 ≤ x) 18 16), (16, tk_il 1 17), (17, tk_rI), (18, tk_al 0 19), (19, tk_gR 6 1 22), (22, tk_sA 2 23), (23, tk_al 0 24), (24, tk_al 0 25), (25, tk_gR 6 2 28), (28, tk_pR 6 1 31), (31, tk_al 0 32), (32, tk_al 2 33), (33, tk_pR 6 2 36), (36, tk_al 0 37), (37, tk_gR 6 0 40), (40, tk_cv 3 M_X3_empty 0 43), (43, tk_pp 44), (44, tk_al 0 45), (45, tk_gR 6 3 48), (48, tk_al 0 49), (49, tk_gR 6 1 52), (52, tk_cv 1 M_X1_begin 1 55), (55, tk_al 0 56), (56, tk_gR 6 4 59), (59, tk_cv 2 M_X2_lose 0 62), (62, tk_al 0 63), (63, tk_gR 6 7 66), (66, tk_cv 0 M_X0_lose 0 69), (69, tk_pp 70), (70, tk_al 0 71), (71, tk_gR 6 8 74), (74, tk_cv 0 M_X0_lose 0 77), (77, tk_pp 78), (78, tk_ic (0) 79), (79, tk_sI 3 80), (80, tk_il 3 81), (81, tk_ic (2) 82), (82, tk_cm (fun x y => y ≤ x) 98 85), (85, tk_al 0 86), (86, tk_gR 6 6 89), (89, tk_il 3 90), (90, tk_ic (0) 91), (91, tk_si 10 (vp_nar .boolean) 92), (92, tk_inc 3 (1) 95), (95, tk_jmp 80), (98, tk_il 1 99), (99, tk_rI)]
set_option maxRecDepth 100000 in
theorem hT_X6_towns (sc : Option (Nat × (Nat → Int32))) : ∀ x ∈ T_X6_towns, tk_So sc M_X6_towns x.1 x.2 := by
  unfold T_X6_towns
  refine List.forall_mem_cons.mpr ⟨so_aload_n dX6_towns_0 rfl rfl, ?_⟩
  refine List.forall_mem_cons.mpr ⟨so_gR (C := RX6) (T := TX6) (N := 12) dX6_towns_1 (by decide) rfl rfl (by decide) rfl in_X6 wf_X6_10 rfl, ?_⟩
  refine List.forall_mem_cons.mpr ⟨so_aload_n dX6_towns_4 rfl rfl, ?_⟩
  refine List.forall_mem_cons.mpr ⟨so_gR (C := RX6) (T := TX6) (N := 12) dX6_towns_5 (by decide) rfl rfl (by decide) rfl in_X6 wf_X6_23 rfl, ?_⟩
  refine List.forall_mem_cons.mpr ⟨so_cv (T := TX3) (N := 7) dX6_towns_8 mv_X3_readInto wm_X6_81 (by decide) rfl ⟨rfl, rfl⟩ (by decide) rfl, ?_⟩
  refine List.forall_mem_cons.mpr ⟨so_istore_n dX6_towns_11 rfl rfl, ?_⟩
  refine List.forall_mem_cons.mpr ⟨so_iload_n dX6_towns_12 rfl rfl, ?_⟩
  refine List.forall_mem_cons.mpr ⟨so_if_ge dX6_towns_13 (by decide) rfl, ?_⟩
  refine List.forall_mem_cons.mpr ⟨so_iload_n dX6_towns_16 rfl rfl, ?_⟩
  refine List.forall_mem_cons.mpr ⟨so_rI dX6_towns_17 rfl, ?_⟩
  refine List.forall_mem_cons.mpr ⟨so_aload_n dX6_towns_18 rfl rfl, ?_⟩
  refine List.forall_mem_cons.mpr ⟨so_gR (C := RX6) (T := TX6) (N := 12) dX6_towns_19 (by decide) rfl rfl (by decide) rfl in_X6 wf_X6_19 rfl, ?_⟩
  refine List.forall_mem_cons.mpr ⟨so_astore_n dX6_towns_22 rfl rfl, ?_⟩
  refine List.forall_mem_cons.mpr ⟨so_aload_n dX6_towns_23 rfl rfl, ?_⟩
  refine List.forall_mem_cons.mpr ⟨so_aload_n dX6_towns_24 rfl rfl, ?_⟩
  refine List.forall_mem_cons.mpr ⟨so_gR (C := RX6) (T := TX6) (N := 12) dX6_towns_25 (by decide) rfl rfl (by decide) rfl in_X6 wf_X6_23 rfl, ?_⟩
  refine List.forall_mem_cons.mpr ⟨so_pR (ty := .object "TwoKerbs$Towns") (C := RX6) (T := TX6) (N := 12) dX6_towns_28 (by decide) rfl rfl (by decide) rfl in_X6 wf_X6_19 tyX6 tyX6_ok nmX6 rfl (by decide +kernel) (fun _ => rfl) (fun _ => rfl) rfl, ?_⟩
  refine List.forall_mem_cons.mpr ⟨so_aload_n dX6_towns_31 rfl rfl, ?_⟩
  refine List.forall_mem_cons.mpr ⟨so_aload_n dX6_towns_32 rfl rfl, ?_⟩
  refine List.forall_mem_cons.mpr ⟨so_pR (ty := .object "TwoKerbs$Towns") (C := RX6) (T := TX6) (N := 12) dX6_towns_33 (by decide) rfl rfl (by decide) rfl in_X6 wf_X6_23 tyX6 tyX6_ok nmX6 rfl (by decide +kernel) (fun _ => rfl) (fun _ => rfl) rfl, ?_⟩
  refine List.forall_mem_cons.mpr ⟨so_aload_n dX6_towns_36 rfl rfl, ?_⟩
  refine List.forall_mem_cons.mpr ⟨so_gR (C := RX6) (T := TX6) (N := 12) dX6_towns_37 (by decide) rfl rfl (by decide) rfl in_X6 wf_X6_10 rfl, ?_⟩
  refine List.forall_mem_cons.mpr ⟨so_cv (T := TX3) (N := 7) dX6_towns_40 mv_X3_empty wm_X6_77 (by decide) rfl ⟨rfl, rfl⟩ (by decide) rfl, ?_⟩
  refine List.forall_mem_cons.mpr ⟨so_pop dX6_towns_43 rfl, ?_⟩
  refine List.forall_mem_cons.mpr ⟨so_aload_n dX6_towns_44 rfl rfl, ?_⟩
  refine List.forall_mem_cons.mpr ⟨so_gR (C := RX6) (T := TX6) (N := 12) dX6_towns_45 (by decide) rfl rfl (by decide) rfl in_X6 wf_X6_29 rfl, ?_⟩
  refine List.forall_mem_cons.mpr ⟨so_aload_n dX6_towns_48 rfl rfl, ?_⟩
  refine List.forall_mem_cons.mpr ⟨so_gR (C := RX6) (T := TX6) (N := 12) dX6_towns_49 (by decide) rfl rfl (by decide) rfl in_X6 wf_X6_19 rfl, ?_⟩
  refine List.forall_mem_cons.mpr ⟨so_cv (T := TX1) (N := 3) dX6_towns_52 mv_X1_begin wm_X6_85 (by decide) rfl ⟨rfl, rfl⟩ (by decide) rfl, ?_⟩
  refine List.forall_mem_cons.mpr ⟨so_aload_n dX6_towns_55 rfl rfl, ?_⟩
  refine List.forall_mem_cons.mpr ⟨so_gR (C := RX6) (T := TX6) (N := 12) dX6_towns_56 (by decide) rfl rfl (by decide) rfl in_X6 wf_X6_36 rfl, ?_⟩
  refine List.forall_mem_cons.mpr ⟨so_cv (T := TX2) (N := 3) dX6_towns_59 mv_X2_lose wm_X6_89 (by decide) rfl ⟨rfl, rfl⟩ (by decide) rfl, ?_⟩
  refine List.forall_mem_cons.mpr ⟨so_aload_n dX6_towns_62 rfl rfl, ?_⟩
  refine List.forall_mem_cons.mpr ⟨so_gR (C := RX6) (T := TX6) (N := 12) dX6_towns_63 (by decide) rfl rfl (by decide) rfl in_X6 wf_X6_52 rfl, ?_⟩
  refine List.forall_mem_cons.mpr ⟨so_cv (T := TX0) (N := 3) dX6_towns_66 mv_X0_lose wm_X6_92 (by decide) rfl ⟨rfl, rfl⟩ (by decide) rfl, ?_⟩
  refine List.forall_mem_cons.mpr ⟨so_pop dX6_towns_69 rfl, ?_⟩
  refine List.forall_mem_cons.mpr ⟨so_aload_n dX6_towns_70 rfl rfl, ?_⟩
  refine List.forall_mem_cons.mpr ⟨so_gR (C := RX6) (T := TX6) (N := 12) dX6_towns_71 (by decide) rfl rfl (by decide) rfl in_X6 wf_X6_56 rfl, ?_⟩
  refine List.forall_mem_cons.mpr ⟨so_cv (T := TX0) (N := 3) dX6_towns_74 mv_X0_lose wm_X6_92 (by decide) rfl ⟨rfl, rfl⟩ (by decide) rfl, ?_⟩
  refine List.forall_mem_cons.mpr ⟨so_pop dX6_towns_77 rfl, ?_⟩
  refine List.forall_mem_cons.mpr ⟨so_iconst dX6_towns_78 (by decide) rfl, ?_⟩
  refine List.forall_mem_cons.mpr ⟨so_istore_n dX6_towns_79 rfl rfl, ?_⟩
  refine List.forall_mem_cons.mpr ⟨so_iload_n dX6_towns_80 rfl rfl, ?_⟩
  refine List.forall_mem_cons.mpr ⟨so_iconst dX6_towns_81 (by decide) rfl, ?_⟩
  refine List.forall_mem_cons.mpr ⟨so_icmp_ge dX6_towns_82 (by decide) rfl, ?_⟩
  refine List.forall_mem_cons.mpr ⟨so_aload_n dX6_towns_85 rfl rfl, ?_⟩
  refine List.forall_mem_cons.mpr ⟨so_gR (C := RX6) (T := TX6) (N := 12) dX6_towns_86 (by decide) rfl rfl (by decide) rfl in_X6 wf_X6_45 rfl, ?_⟩
  refine List.forall_mem_cons.mpr ⟨so_iload_n dX6_towns_89 rfl rfl, ?_⟩
  refine List.forall_mem_cons.mpr ⟨so_iconst dX6_towns_90 (by decide) rfl, ?_⟩
  refine List.forall_mem_cons.mpr ⟨so_bastore dX6_towns_91 rfl, ?_⟩
  refine List.forall_mem_cons.mpr ⟨so_iinc dX6_towns_92 (by decide) rfl, ?_⟩
  refine List.forall_mem_cons.mpr ⟨so_goto dX6_towns_95 (by decide), ?_⟩
  refine List.forall_mem_cons.mpr ⟨so_iload_n dX6_towns_98 rfl rfl, ?_⟩
  refine List.forall_mem_cons.mpr ⟨so_rI dX6_towns_99 rfl, ?_⟩
  exact fun _ h => absurd h List.not_mem_nil
theorem dX6_kerb_0 : decode cX6_kerb 0 = .ok (.aload_n 0, 1) := by decide +kernel
theorem dX6_kerb_1 : decode cX6_kerb 1 = .ok (.getfield 19, 3) := by decide +kernel
theorem dX6_kerb_4 : decode cX6_kerb 4 = .ok (.iload_n 1, 1) := by decide +kernel
theorem dX6_kerb_5 : decode cX6_kerb 5 = .ok (.invokevirtual 94, 3) := by decide +kernel
theorem dX6_kerb_8 : decode cX6_kerb 8 = .ok (.ifCond .ne 5, 3) := by decide +kernel
theorem dX6_kerb_11 : decode cX6_kerb 11 = .ok (.iconst (-1), 1) := by decide +kernel
theorem dX6_kerb_12 : decode cX6_kerb 12 = .ok (.ireturn, 1) := by decide +kernel
theorem dX6_kerb_13 : decode cX6_kerb 13 = .ok (.iload_n 2, 1) := by decide +kernel
theorem dX6_kerb_14 : decode cX6_kerb 14 = .ok (.tableswitch 90 0 4 #[34, 44, 54, 64, 74], 34) := by decide +kernel
theorem dX6_kerb_48 : decode cX6_kerb 48 = .ok (.aload_n 0, 1) := by decide +kernel
theorem dX6_kerb_49 : decode cX6_kerb 49 = .ok (.getfield 19, 3) := by decide +kernel
theorem dX6_kerb_52 : decode cX6_kerb 52 = .ok (.getfield 98, 3) := by decide +kernel
theorem dX6_kerb_55 : decode cX6_kerb 55 = .ok (.iload_n 1, 1) := by decide +kernel
theorem dX6_kerb_56 : decode cX6_kerb 56 = .ok (.iaload, 1) := by decide +kernel
theorem dX6_kerb_57 : decode cX6_kerb 57 = .ok (.ireturn, 1) := by decide +kernel
theorem dX6_kerb_58 : decode cX6_kerb 58 = .ok (.aload_n 0, 1) := by decide +kernel
theorem dX6_kerb_59 : decode cX6_kerb 59 = .ok (.getfield 19, 3) := by decide +kernel
theorem dX6_kerb_62 : decode cX6_kerb 62 = .ok (.getfield 102, 3) := by decide +kernel
theorem dX6_kerb_65 : decode cX6_kerb 65 = .ok (.iload_n 1, 1) := by decide +kernel
theorem dX6_kerb_66 : decode cX6_kerb 66 = .ok (.iaload, 1) := by decide +kernel
theorem dX6_kerb_67 : decode cX6_kerb 67 = .ok (.ireturn, 1) := by decide +kernel
theorem dX6_kerb_68 : decode cX6_kerb 68 = .ok (.aload_n 0, 1) := by decide +kernel
theorem dX6_kerb_69 : decode cX6_kerb 69 = .ok (.getfield 19, 3) := by decide +kernel
theorem dX6_kerb_72 : decode cX6_kerb 72 = .ok (.getfield 105, 3) := by decide +kernel
theorem dX6_kerb_75 : decode cX6_kerb 75 = .ok (.iload_n 1, 1) := by decide +kernel
theorem dX6_kerb_76 : decode cX6_kerb 76 = .ok (.iaload, 1) := by decide +kernel
theorem dX6_kerb_77 : decode cX6_kerb 77 = .ok (.ireturn, 1) := by decide +kernel
theorem dX6_kerb_78 : decode cX6_kerb 78 = .ok (.aload_n 0, 1) := by decide +kernel
theorem dX6_kerb_79 : decode cX6_kerb 79 = .ok (.getfield 19, 3) := by decide +kernel
theorem dX6_kerb_82 : decode cX6_kerb 82 = .ok (.getfield 108, 3) := by decide +kernel
theorem dX6_kerb_85 : decode cX6_kerb 85 = .ok (.iload_n 1, 1) := by decide +kernel
theorem dX6_kerb_86 : decode cX6_kerb 86 = .ok (.iaload, 1) := by decide +kernel
theorem dX6_kerb_87 : decode cX6_kerb 87 = .ok (.ireturn, 1) := by decide +kernel
theorem dX6_kerb_88 : decode cX6_kerb 88 = .ok (.aload_n 0, 1) := by decide +kernel
theorem dX6_kerb_89 : decode cX6_kerb 89 = .ok (.getfield 29, 3) := by decide +kernel
theorem dX6_kerb_92 : decode cX6_kerb 92 = .ok (.iload_n 1, 1) := by decide +kernel
theorem dX6_kerb_93 : decode cX6_kerb 93 = .ok (.aload_n 0, 1) := by decide +kernel
theorem dX6_kerb_94 : decode cX6_kerb 94 = .ok (.getfield 19, 3) := by decide +kernel
theorem dX6_kerb_97 : decode cX6_kerb 97 = .ok (.getfield 111, 3) := by decide +kernel
theorem dX6_kerb_100 : decode cX6_kerb 100 = .ok (.invokevirtual 115, 3) := by decide +kernel
theorem dX6_kerb_103 : decode cX6_kerb 103 = .ok (.ireturn, 1) := by decide +kernel
theorem dX6_kerb_104 : decode cX6_kerb 104 = .ok (.iconst (-1), 1) := by decide +kernel
theorem dX6_kerb_105 : decode cX6_kerb 105 = .ok (.ireturn, 1) := by decide +kernel
def T_X6_kerb : tk_Tb := [(0, tk_al 0 1), (1, tk_gR 6 1 4), (4, tk_il 1 5), (5, tk_cv 5 M_X5_isKerb 1 8), (8, tk_br (fun x => x = 0) 11 13), (11, tk_ic (-1) 12), (12, tk_rI), (13, tk_il 2 14), (14, tk_sw [(0, 48), (1, 58), (2, 68), (3, 78), (4, 88)] 104), (48, tk_al 0 49), (49, tk_gR 6 1 52), (52, tk_gR 5 5 55), (55, tk_il 1 56), (56, tk_ai 9 57), (57, tk_rI), (58, tk_al 0 59), (59, tk_gR 6 1 62), (62, tk_gR 5 6 65), (65, tk_il 1 66), (66, tk_ai 9 67), (67, tk_rI), (68, tk_al 0 69), (69, tk_gR 6 1 72), (72, tk_gR 5 7 75), (75, tk_il 1 76), (76, tk_ai 9 77), (77, tk_rI), (78, tk_al 0 79), (79, tk_gR 6 1 82), (82, tk_gR 5 8 85), (85, tk_il 1 86), (86, tk_ai 9 87), (87, tk_rI), (88, tk_al 0 89), (89, tk_gR 6 3 92), (92, tk_il 1 93), (93, tk_al 0 94), (94, tk_gR 6 1 97), (97, tk_gI 5 4 100), (100, tk_cv 1 M_X1_lyingOn 2 103), (103, tk_rI), (104, tk_ic (-1) 105), (105, tk_rI)]
set_option maxRecDepth 100000 in
theorem hT_X6_kerb (sc : Option (Nat × (Nat → Int32))) : ∀ x ∈ T_X6_kerb, tk_So sc M_X6_kerb x.1 x.2 := by
  unfold T_X6_kerb
  refine List.forall_mem_cons.mpr ⟨so_aload_n dX6_kerb_0 rfl rfl, ?_⟩
  refine List.forall_mem_cons.mpr ⟨so_gR (C := RX6) (T := TX6) (N := 12) dX6_kerb_1 (by decide) rfl rfl (by decide) rfl in_X6 wf_X6_19 rfl, ?_⟩
  refine List.forall_mem_cons.mpr ⟨so_iload_n dX6_kerb_4 rfl rfl, ?_⟩
  refine List.forall_mem_cons.mpr ⟨so_cv (T := TX5) (N := 10) dX6_kerb_5 mv_X5_isKerb wm_X6_94 (by decide) rfl ⟨rfl, rfl⟩ (by decide) rfl, ?_⟩
  refine List.forall_mem_cons.mpr ⟨so_if_ne dX6_kerb_8 (by decide) rfl, ?_⟩
  refine List.forall_mem_cons.mpr ⟨so_iconst dX6_kerb_11 (by decide) rfl, ?_⟩
  refine List.forall_mem_cons.mpr ⟨so_rI dX6_kerb_12 rfl, ?_⟩
  refine List.forall_mem_cons.mpr ⟨so_iload_n dX6_kerb_13 rfl rfl, ?_⟩
  refine List.forall_mem_cons.mpr ⟨so_table (n := 4) dX6_kerb_14 (by decide) (by decide +kernel) (by decide +kernel), ?_⟩
  refine List.forall_mem_cons.mpr ⟨so_aload_n dX6_kerb_48 rfl rfl, ?_⟩
  refine List.forall_mem_cons.mpr ⟨so_gR (C := RX6) (T := TX6) (N := 12) dX6_kerb_49 (by decide) rfl rfl (by decide) rfl in_X6 wf_X6_19 rfl, ?_⟩
  refine List.forall_mem_cons.mpr ⟨so_gR (C := RX5) (T := TX5) (N := 10) dX6_kerb_52 (by decide) rfl rfl (by decide) rfl in_X5 wf_X6_98 rfl, ?_⟩
  refine List.forall_mem_cons.mpr ⟨so_iload_n dX6_kerb_55 rfl rfl, ?_⟩
  refine List.forall_mem_cons.mpr ⟨so_iaload dX6_kerb_56 rfl, ?_⟩
  refine List.forall_mem_cons.mpr ⟨so_rI dX6_kerb_57 rfl, ?_⟩
  refine List.forall_mem_cons.mpr ⟨so_aload_n dX6_kerb_58 rfl rfl, ?_⟩
  refine List.forall_mem_cons.mpr ⟨so_gR (C := RX6) (T := TX6) (N := 12) dX6_kerb_59 (by decide) rfl rfl (by decide) rfl in_X6 wf_X6_19 rfl, ?_⟩
  refine List.forall_mem_cons.mpr ⟨so_gR (C := RX5) (T := TX5) (N := 10) dX6_kerb_62 (by decide) rfl rfl (by decide) rfl in_X5 wf_X6_102 rfl, ?_⟩
  refine List.forall_mem_cons.mpr ⟨so_iload_n dX6_kerb_65 rfl rfl, ?_⟩
  refine List.forall_mem_cons.mpr ⟨so_iaload dX6_kerb_66 rfl, ?_⟩
  refine List.forall_mem_cons.mpr ⟨so_rI dX6_kerb_67 rfl, ?_⟩
  refine List.forall_mem_cons.mpr ⟨so_aload_n dX6_kerb_68 rfl rfl, ?_⟩
  refine List.forall_mem_cons.mpr ⟨so_gR (C := RX6) (T := TX6) (N := 12) dX6_kerb_69 (by decide) rfl rfl (by decide) rfl in_X6 wf_X6_19 rfl, ?_⟩
  refine List.forall_mem_cons.mpr ⟨so_gR (C := RX5) (T := TX5) (N := 10) dX6_kerb_72 (by decide) rfl rfl (by decide) rfl in_X5 wf_X6_105 rfl, ?_⟩
  refine List.forall_mem_cons.mpr ⟨so_iload_n dX6_kerb_75 rfl rfl, ?_⟩
  refine List.forall_mem_cons.mpr ⟨so_iaload dX6_kerb_76 rfl, ?_⟩
  refine List.forall_mem_cons.mpr ⟨so_rI dX6_kerb_77 rfl, ?_⟩
  refine List.forall_mem_cons.mpr ⟨so_aload_n dX6_kerb_78 rfl rfl, ?_⟩
  refine List.forall_mem_cons.mpr ⟨so_gR (C := RX6) (T := TX6) (N := 12) dX6_kerb_79 (by decide) rfl rfl (by decide) rfl in_X6 wf_X6_19 rfl, ?_⟩
  refine List.forall_mem_cons.mpr ⟨so_gR (C := RX5) (T := TX5) (N := 10) dX6_kerb_82 (by decide) rfl rfl (by decide) rfl in_X5 wf_X6_108 rfl, ?_⟩
  refine List.forall_mem_cons.mpr ⟨so_iload_n dX6_kerb_85 rfl rfl, ?_⟩
  refine List.forall_mem_cons.mpr ⟨so_iaload dX6_kerb_86 rfl, ?_⟩
  refine List.forall_mem_cons.mpr ⟨so_rI dX6_kerb_87 rfl, ?_⟩
  refine List.forall_mem_cons.mpr ⟨so_aload_n dX6_kerb_88 rfl rfl, ?_⟩
  refine List.forall_mem_cons.mpr ⟨so_gR (C := RX6) (T := TX6) (N := 12) dX6_kerb_89 (by decide) rfl rfl (by decide) rfl in_X6 wf_X6_29 rfl, ?_⟩
  refine List.forall_mem_cons.mpr ⟨so_iload_n dX6_kerb_92 rfl rfl, ?_⟩
  refine List.forall_mem_cons.mpr ⟨so_aload_n dX6_kerb_93 rfl rfl, ?_⟩
  refine List.forall_mem_cons.mpr ⟨so_gR (C := RX6) (T := TX6) (N := 12) dX6_kerb_94 (by decide) rfl rfl (by decide) rfl in_X6 wf_X6_19 rfl, ?_⟩
  refine List.forall_mem_cons.mpr ⟨so_gI (C := RX5) (T := TX5) (N := 10) dX6_kerb_97 (by decide) rfl rfl (by decide) rfl in_X5 wf_X6_111 rfl, ?_⟩
  refine List.forall_mem_cons.mpr ⟨so_cv (T := TX1) (N := 3) dX6_kerb_100 mv_X1_lyingOn wm_X6_115 (by decide) rfl ⟨rfl, rfl⟩ (by decide) rfl, ?_⟩
  refine List.forall_mem_cons.mpr ⟨so_rI dX6_kerb_103 rfl, ?_⟩
  refine List.forall_mem_cons.mpr ⟨so_iconst dX6_kerb_104 (by decide) rfl, ?_⟩
  refine List.forall_mem_cons.mpr ⟨so_rI dX6_kerb_105 rfl, ?_⟩
  exact fun _ h => absurd h List.not_mem_nil
theorem dX6_thing_0 : decode cX6_thing 0 = .ok (.aload_n 0, 1) := by decide +kernel
theorem dX6_thing_1 : decode cX6_thing 1 = .ok (.getfield 19, 3) := by decide +kernel
theorem dX6_thing_4 : decode cX6_thing 4 = .ok (.iload_n 1, 1) := by decide +kernel
theorem dX6_thing_5 : decode cX6_thing 5 = .ok (.invokevirtual 119, 3) := by decide +kernel
theorem dX6_thing_8 : decode cX6_thing 8 = .ok (.ifCond .ne 5, 3) := by decide +kernel
theorem dX6_thing_11 : decode cX6_thing 11 = .ok (.iconst (-1), 1) := by decide +kernel
theorem dX6_thing_12 : decode cX6_thing 12 = .ok (.ireturn, 1) := by decide +kernel
theorem dX6_thing_13 : decode cX6_thing 13 = .ok (.aload_n 0, 1) := by decide +kernel
theorem dX6_thing_14 : decode cX6_thing 14 = .ok (.getfield 29, 3) := by decide +kernel
theorem dX6_thing_17 : decode cX6_thing 17 = .ok (.getfield 122, 3) := by decide +kernel
theorem dX6_thing_20 : decode cX6_thing 20 = .ok (.iload_n 1, 1) := by decide +kernel
theorem dX6_thing_21 : decode cX6_thing 21 = .ok (.aaload, 1) := by decide +kernel
theorem dX6_thing_22 : decode cX6_thing 22 = .ok (.astore_n 3, 1) := by decide +kernel
theorem dX6_thing_23 : decode cX6_thing 23 = .ok (.iload_n 2, 1) := by decide +kernel
theorem dX6_thing_24 : decode cX6_thing 24 = .ok (.tableswitch 60 0 3 #[32, 37, 42, 47], 32) := by decide +kernel
theorem dX6_thing_56 : decode cX6_thing 56 = .ok (.aload_n 3, 1) := by decide +kernel
theorem dX6_thing_57 : decode cX6_thing 57 = .ok (.invokevirtual 125, 3) := by decide +kernel
theorem dX6_thing_60 : decode cX6_thing 60 = .ok (.ireturn, 1) := by decide +kernel
theorem dX6_thing_61 : decode cX6_thing 61 = .ok (.aload_n 3, 1) := by decide +kernel
theorem dX6_thing_62 : decode cX6_thing 62 = .ok (.getfield 128, 3) := by decide +kernel
theorem dX6_thing_65 : decode cX6_thing 65 = .ok (.ireturn, 1) := by decide +kernel
theorem dX6_thing_66 : decode cX6_thing 66 = .ok (.aload_n 3, 1) := by decide +kernel
theorem dX6_thing_67 : decode cX6_thing 67 = .ok (.getfield 131, 3) := by decide +kernel
theorem dX6_thing_70 : decode cX6_thing 70 = .ok (.ireturn, 1) := by decide +kernel
theorem dX6_thing_71 : decode cX6_thing 71 = .ok (.aload_n 3, 1) := by decide +kernel
theorem dX6_thing_72 : decode cX6_thing 72 = .ok (.getfield 134, 3) := by decide +kernel
theorem dX6_thing_75 : decode cX6_thing 75 = .ok (.ifCond .eq 7, 3) := by decide +kernel
theorem dX6_thing_78 : decode cX6_thing 78 = .ok (.iconst 1, 1) := by decide +kernel
theorem dX6_thing_79 : decode cX6_thing 79 = .ok (.goto 4, 3) := by decide +kernel
theorem dX6_thing_82 : decode cX6_thing 82 = .ok (.iconst 0, 1) := by decide +kernel
theorem dX6_thing_83 : decode cX6_thing 83 = .ok (.ireturn, 1) := by decide +kernel
theorem dX6_thing_84 : decode cX6_thing 84 = .ok (.iconst (-1), 1) := by decide +kernel
theorem dX6_thing_85 : decode cX6_thing 85 = .ok (.ireturn, 1) := by decide +kernel
def T_X6_thing : tk_Tb := [(0, tk_al 0 1), (1, tk_gR 6 1 4), (4, tk_il 1 5), (5, tk_cv 5 M_X5_isThing 1 8), (8, tk_br (fun x => x = 0) 11 13), (11, tk_ic (-1) 12), (12, tk_rI), (13, tk_al 0 14), (14, tk_gR 6 3 17), (17, tk_gR 1 2 20), (20, tk_il 1 21), (21, tk_aa 11 22), (22, tk_sA 3 23), (23, tk_il 2 24), (24, tk_sw [(0, 56), (1, 61), (2, 66), (3, 71)] 84), (56, tk_al 3 57), (57, tk_cv 4 M_X4_place 0 60), (60, tk_rI), (61, tk_al 3 62), (62, tk_gI 4 0 65), (65, tk_rI), (66, tk_al 3 67), (67, tk_gI 4 1 70), (70, tk_rI), (71, tk_al 3 72), (72, tk_gI 4 2 75), (75, tk_br (fun x => x = 0) 82 78), (78, tk_ic (1) 79), (79, tk_jmp 83), (82, tk_ic (0) 83), (83, tk_rI), (84, tk_ic (-1) 85), (85, tk_rI)]
set_option maxRecDepth 100000 in
theorem hT_X6_thing (sc : Option (Nat × (Nat → Int32))) : ∀ x ∈ T_X6_thing, tk_So sc M_X6_thing x.1 x.2 := by
  unfold T_X6_thing
  refine List.forall_mem_cons.mpr ⟨so_aload_n dX6_thing_0 rfl rfl, ?_⟩
  refine List.forall_mem_cons.mpr ⟨so_gR (C := RX6) (T := TX6) (N := 12) dX6_thing_1 (by decide) rfl rfl (by decide) rfl in_X6 wf_X6_19 rfl, ?_⟩
  refine List.forall_mem_cons.mpr ⟨so_iload_n dX6_thing_4 rfl rfl, ?_⟩
  refine List.forall_mem_cons.mpr ⟨so_cv (T := TX5) (N := 10) dX6_thing_5 mv_X5_isThing wm_X6_119 (by decide) rfl ⟨rfl, rfl⟩ (by decide) rfl, ?_⟩
  refine List.forall_mem_cons.mpr ⟨so_if_ne dX6_thing_8 (by decide) rfl, ?_⟩
  refine List.forall_mem_cons.mpr ⟨so_iconst dX6_thing_11 (by decide) rfl, ?_⟩
  refine List.forall_mem_cons.mpr ⟨so_rI dX6_thing_12 rfl, ?_⟩
  refine List.forall_mem_cons.mpr ⟨so_aload_n dX6_thing_13 rfl rfl, ?_⟩
  refine List.forall_mem_cons.mpr ⟨so_gR (C := RX6) (T := TX6) (N := 12) dX6_thing_14 (by decide) rfl rfl (by decide) rfl in_X6 wf_X6_29 rfl, ?_⟩
  refine List.forall_mem_cons.mpr ⟨so_gR (C := RX1) (T := TX1) (N := 3) dX6_thing_17 (by decide) rfl rfl (by decide) rfl in_X1 wf_X6_122 rfl, ?_⟩
  refine List.forall_mem_cons.mpr ⟨so_iload_n dX6_thing_20 rfl rfl, ?_⟩
  refine List.forall_mem_cons.mpr ⟨so_aaT dX6_thing_21 rfl, ?_⟩
  refine List.forall_mem_cons.mpr ⟨so_astore_n dX6_thing_22 rfl rfl, ?_⟩
  refine List.forall_mem_cons.mpr ⟨so_iload_n dX6_thing_23 rfl rfl, ?_⟩
  refine List.forall_mem_cons.mpr ⟨so_table (n := 3) dX6_thing_24 (by decide) (by decide +kernel) (by decide +kernel), ?_⟩
  refine List.forall_mem_cons.mpr ⟨so_aload_n dX6_thing_56 rfl rfl, ?_⟩
  refine List.forall_mem_cons.mpr ⟨so_cv (T := TX4) (N := 3) dX6_thing_57 mv_X4_place wm_X6_125 (by decide) rfl ⟨rfl, rfl⟩ (by decide) rfl, ?_⟩
  refine List.forall_mem_cons.mpr ⟨so_rI dX6_thing_60 rfl, ?_⟩
  refine List.forall_mem_cons.mpr ⟨so_aload_n dX6_thing_61 rfl rfl, ?_⟩
  refine List.forall_mem_cons.mpr ⟨so_gI (C := RX4) (T := TX4) (N := 3) dX6_thing_62 (by decide) rfl rfl (by decide) rfl in_X4 wf_X6_128 rfl, ?_⟩
  refine List.forall_mem_cons.mpr ⟨so_rI dX6_thing_65 rfl, ?_⟩
  refine List.forall_mem_cons.mpr ⟨so_aload_n dX6_thing_66 rfl rfl, ?_⟩
  refine List.forall_mem_cons.mpr ⟨so_gI (C := RX4) (T := TX4) (N := 3) dX6_thing_67 (by decide) rfl rfl (by decide) rfl in_X4 wf_X6_131 rfl, ?_⟩
  refine List.forall_mem_cons.mpr ⟨so_rI dX6_thing_70 rfl, ?_⟩
  refine List.forall_mem_cons.mpr ⟨so_aload_n dX6_thing_71 rfl rfl, ?_⟩
  refine List.forall_mem_cons.mpr ⟨so_gI (C := RX4) (T := TX4) (N := 3) dX6_thing_72 (by decide) rfl rfl (by decide) rfl in_X4 wf_X6_134 rfl, ?_⟩
  refine List.forall_mem_cons.mpr ⟨so_if_eq dX6_thing_75 (by decide) rfl, ?_⟩
  refine List.forall_mem_cons.mpr ⟨so_iconst dX6_thing_78 (by decide) rfl, ?_⟩
  refine List.forall_mem_cons.mpr ⟨so_goto dX6_thing_79 (by decide), ?_⟩
  refine List.forall_mem_cons.mpr ⟨so_iconst dX6_thing_82 (by decide) rfl, ?_⟩
  refine List.forall_mem_cons.mpr ⟨so_rI dX6_thing_83 rfl, ?_⟩
  refine List.forall_mem_cons.mpr ⟨so_iconst dX6_thing_84 (by decide) rfl, ?_⟩
  refine List.forall_mem_cons.mpr ⟨so_rI dX6_thing_85 rfl, ?_⟩
  exact fun _ h => absurd h List.not_mem_nil
theorem dX6_now_0 : decode cX6_now 0 = .ok (.iload_n 1, 1) := by decide +kernel
theorem dX6_now_1 : decode cX6_now 1 = .ok (.tableswitch 96 0 4 #[35, 43, 58, 66, 88], 35) := by decide +kernel
theorem dX6_now_36 : decode cX6_now 36 = .ok (.aload_n 0, 1) := by decide +kernel
theorem dX6_now_37 : decode cX6_now 37 = .ok (.getfield 29, 3) := by decide +kernel
theorem dX6_now_40 : decode cX6_now 40 = .ok (.getfield 138, 3) := by decide +kernel
theorem dX6_now_43 : decode cX6_now 43 = .ok (.ireturn, 1) := by decide +kernel
theorem dX6_now_44 : decode cX6_now 44 = .ok (.aload_n 0, 1) := by decide +kernel
theorem dX6_now_45 : decode cX6_now 45 = .ok (.getfield 19, 3) := by decide +kernel
theorem dX6_now_48 : decode cX6_now 48 = .ok (.aload_n 0, 1) := by decide +kernel
theorem dX6_now_49 : decode cX6_now 49 = .ok (.getfield 29, 3) := by decide +kernel
theorem dX6_now_52 : decode cX6_now 52 = .ok (.getfield 138, 3) := by decide +kernel
theorem dX6_now_55 : decode cX6_now 55 = .ok (.invokevirtual 141, 3) := by decide +kernel
theorem dX6_now_58 : decode cX6_now 58 = .ok (.ireturn, 1) := by decide +kernel
theorem dX6_now_59 : decode cX6_now 59 = .ok (.aload_n 0, 1) := by decide +kernel
theorem dX6_now_60 : decode cX6_now 60 = .ok (.getfield 29, 3) := by decide +kernel
theorem dX6_now_63 : decode cX6_now 63 = .ok (.getfield 144, 3) := by decide +kernel
theorem dX6_now_66 : decode cX6_now 66 = .ok (.ireturn, 1) := by decide +kernel
theorem dX6_now_67 : decode cX6_now 67 = .ok (.aload_n 0, 1) := by decide +kernel
theorem dX6_now_68 : decode cX6_now 68 = .ok (.getfield 19, 3) := by decide +kernel
theorem dX6_now_71 : decode cX6_now 71 = .ok (.aload_n 0, 1) := by decide +kernel
theorem dX6_now_72 : decode cX6_now 72 = .ok (.getfield 19, 3) := by decide +kernel
theorem dX6_now_75 : decode cX6_now 75 = .ok (.aload_n 0, 1) := by decide +kernel
theorem dX6_now_76 : decode cX6_now 76 = .ok (.getfield 29, 3) := by decide +kernel
theorem dX6_now_79 : decode cX6_now 79 = .ok (.getfield 138, 3) := by decide +kernel
theorem dX6_now_82 : decode cX6_now 82 = .ok (.invokevirtual 141, 3) := by decide +kernel
theorem dX6_now_85 : decode cX6_now 85 = .ok (.invokevirtual 147, 3) := by decide +kernel
theorem dX6_now_88 : decode cX6_now 88 = .ok (.ireturn, 1) := by decide +kernel
theorem dX6_now_89 : decode cX6_now 89 = .ok (.aload_n 0, 1) := by decide +kernel
theorem dX6_now_90 : decode cX6_now 90 = .ok (.getfield 36, 3) := by decide +kernel
theorem dX6_now_93 : decode cX6_now 93 = .ok (.getfield 150, 3) := by decide +kernel
theorem dX6_now_96 : decode cX6_now 96 = .ok (.ireturn, 1) := by decide +kernel
theorem dX6_now_97 : decode cX6_now 97 = .ok (.iconst (-1), 1) := by decide +kernel
theorem dX6_now_98 : decode cX6_now 98 = .ok (.ireturn, 1) := by decide +kernel
def T_X6_now : tk_Tb := [(0, tk_il 1 1), (1, tk_sw [(0, 36), (1, 44), (2, 59), (3, 67), (4, 89)] 97), (36, tk_al 0 37), (37, tk_gR 6 3 40), (40, tk_gI 1 0 43), (43, tk_rI), (44, tk_al 0 45), (45, tk_gR 6 1 48), (48, tk_al 0 49), (49, tk_gR 6 3 52), (52, tk_gI 1 0 55), (55, tk_cv 5 M_X5_levelOf 1 58), (58, tk_rI), (59, tk_al 0 60), (60, tk_gR 6 3 63), (63, tk_gI 1 1 66), (66, tk_rI), (67, tk_al 0 68), (68, tk_gR 6 1 71), (71, tk_al 0 72), (72, tk_gR 6 1 75), (75, tk_al 0 76), (76, tk_gR 6 3 79), (79, tk_gI 1 0 82), (82, tk_cv 5 M_X5_levelOf 1 85), (85, tk_cv 5 M_X5_floodedBy 1 88), (88, tk_rI), (89, tk_al 0 90), (90, tk_gR 6 4 93), (93, tk_gI 2 1 96), (96, tk_rI), (97, tk_ic (-1) 98), (98, tk_rI)]
set_option maxRecDepth 100000 in
theorem hT_X6_now (sc : Option (Nat × (Nat → Int32))) : ∀ x ∈ T_X6_now, tk_So sc M_X6_now x.1 x.2 := by
  unfold T_X6_now
  refine List.forall_mem_cons.mpr ⟨so_iload_n dX6_now_0 rfl rfl, ?_⟩
  refine List.forall_mem_cons.mpr ⟨so_table (n := 4) dX6_now_1 (by decide) (by decide +kernel) (by decide +kernel), ?_⟩
  refine List.forall_mem_cons.mpr ⟨so_aload_n dX6_now_36 rfl rfl, ?_⟩
  refine List.forall_mem_cons.mpr ⟨so_gR (C := RX6) (T := TX6) (N := 12) dX6_now_37 (by decide) rfl rfl (by decide) rfl in_X6 wf_X6_29 rfl, ?_⟩
  refine List.forall_mem_cons.mpr ⟨so_gI (C := RX1) (T := TX1) (N := 3) dX6_now_40 (by decide) rfl rfl (by decide) rfl in_X1 wf_X6_138 rfl, ?_⟩
  refine List.forall_mem_cons.mpr ⟨so_rI dX6_now_43 rfl, ?_⟩
  refine List.forall_mem_cons.mpr ⟨so_aload_n dX6_now_44 rfl rfl, ?_⟩
  refine List.forall_mem_cons.mpr ⟨so_gR (C := RX6) (T := TX6) (N := 12) dX6_now_45 (by decide) rfl rfl (by decide) rfl in_X6 wf_X6_19 rfl, ?_⟩
  refine List.forall_mem_cons.mpr ⟨so_aload_n dX6_now_48 rfl rfl, ?_⟩
  refine List.forall_mem_cons.mpr ⟨so_gR (C := RX6) (T := TX6) (N := 12) dX6_now_49 (by decide) rfl rfl (by decide) rfl in_X6 wf_X6_29 rfl, ?_⟩
  refine List.forall_mem_cons.mpr ⟨so_gI (C := RX1) (T := TX1) (N := 3) dX6_now_52 (by decide) rfl rfl (by decide) rfl in_X1 wf_X6_138 rfl, ?_⟩
  refine List.forall_mem_cons.mpr ⟨so_cv (T := TX5) (N := 10) dX6_now_55 mv_X5_levelOf wm_X6_141 (by decide) rfl ⟨rfl, rfl⟩ (by decide) rfl, ?_⟩
  refine List.forall_mem_cons.mpr ⟨so_rI dX6_now_58 rfl, ?_⟩
  refine List.forall_mem_cons.mpr ⟨so_aload_n dX6_now_59 rfl rfl, ?_⟩
  refine List.forall_mem_cons.mpr ⟨so_gR (C := RX6) (T := TX6) (N := 12) dX6_now_60 (by decide) rfl rfl (by decide) rfl in_X6 wf_X6_29 rfl, ?_⟩
  refine List.forall_mem_cons.mpr ⟨so_gI (C := RX1) (T := TX1) (N := 3) dX6_now_63 (by decide) rfl rfl (by decide) rfl in_X1 wf_X6_144 rfl, ?_⟩
  refine List.forall_mem_cons.mpr ⟨so_rI dX6_now_66 rfl, ?_⟩
  refine List.forall_mem_cons.mpr ⟨so_aload_n dX6_now_67 rfl rfl, ?_⟩
  refine List.forall_mem_cons.mpr ⟨so_gR (C := RX6) (T := TX6) (N := 12) dX6_now_68 (by decide) rfl rfl (by decide) rfl in_X6 wf_X6_19 rfl, ?_⟩
  refine List.forall_mem_cons.mpr ⟨so_aload_n dX6_now_71 rfl rfl, ?_⟩
  refine List.forall_mem_cons.mpr ⟨so_gR (C := RX6) (T := TX6) (N := 12) dX6_now_72 (by decide) rfl rfl (by decide) rfl in_X6 wf_X6_19 rfl, ?_⟩
  refine List.forall_mem_cons.mpr ⟨so_aload_n dX6_now_75 rfl rfl, ?_⟩
  refine List.forall_mem_cons.mpr ⟨so_gR (C := RX6) (T := TX6) (N := 12) dX6_now_76 (by decide) rfl rfl (by decide) rfl in_X6 wf_X6_29 rfl, ?_⟩
  refine List.forall_mem_cons.mpr ⟨so_gI (C := RX1) (T := TX1) (N := 3) dX6_now_79 (by decide) rfl rfl (by decide) rfl in_X1 wf_X6_138 rfl, ?_⟩
  refine List.forall_mem_cons.mpr ⟨so_cv (T := TX5) (N := 10) dX6_now_82 mv_X5_levelOf wm_X6_141 (by decide) rfl ⟨rfl, rfl⟩ (by decide) rfl, ?_⟩
  refine List.forall_mem_cons.mpr ⟨so_cv (T := TX5) (N := 10) dX6_now_85 mv_X5_floodedBy wm_X6_147 (by decide) rfl ⟨rfl, rfl⟩ (by decide) rfl, ?_⟩
  refine List.forall_mem_cons.mpr ⟨so_rI dX6_now_88 rfl, ?_⟩
  refine List.forall_mem_cons.mpr ⟨so_aload_n dX6_now_89 rfl rfl, ?_⟩
  refine List.forall_mem_cons.mpr ⟨so_gR (C := RX6) (T := TX6) (N := 12) dX6_now_90 (by decide) rfl rfl (by decide) rfl in_X6 wf_X6_36 rfl, ?_⟩
  refine List.forall_mem_cons.mpr ⟨so_gI (C := RX2) (T := TX2) (N := 3) dX6_now_93 (by decide) rfl rfl (by decide) rfl in_X2 wf_X6_150 rfl, ?_⟩
  refine List.forall_mem_cons.mpr ⟨so_rI dX6_now_96 rfl, ?_⟩
  refine List.forall_mem_cons.mpr ⟨so_iconst dX6_now_97 (by decide) rfl, ?_⟩
  refine List.forall_mem_cons.mpr ⟨so_rI dX6_now_98 rfl, ?_⟩
  exact fun _ h => absurd h List.not_mem_nil
theorem dX6_tides_0 : decode cX6_tides 0 = .ok (.iload_n 1, 1) := by decide +kernel
theorem dX6_tides_1 : decode cX6_tides 1 = .ok (.iconst 1, 1) := by decide +kernel
theorem dX6_tides_2 : decode cX6_tides 2 = .ok (.bipush 99, 2) := by decide +kernel
theorem dX6_tides_4 : decode cX6_tides 4 = .ok (.invokestatic 69, 3) := by decide +kernel
theorem dX6_tides_7 : decode cX6_tides 7 = .ok (.ifCond .ne 5, 3) := by decide +kernel
theorem dX6_tides_10 : decode cX6_tides 10 = .ok (.iconst (-1), 1) := by decide +kernel
theorem dX6_tides_11 : decode cX6_tides 11 = .ok (.ireturn, 1) := by decide +kernel
theorem dX6_tides_12 : decode cX6_tides 12 = .ok (.aload_n 0, 1) := by decide +kernel
theorem dX6_tides_13 : decode cX6_tides 13 = .ok (.getfield 29, 3) := by decide +kernel
theorem dX6_tides_16 : decode cX6_tides 16 = .ok (.getfield 138, 3) := by decide +kernel
theorem dX6_tides_19 : decode cX6_tides 19 = .ok (.iload_n 1, 1) := by decide +kernel
theorem dX6_tides_20 : decode cX6_tides 20 = .ok (.iadd, 1) := by decide +kernel
theorem dX6_tides_21 : decode cX6_tides 21 = .ok (.sipush 9999, 3) := by decide +kernel
theorem dX6_tides_24 : decode cX6_tides 24 = .ok (.if_icmp .le 6, 3) := by decide +kernel
theorem dX6_tides_27 : decode cX6_tides 27 = .ok (.bipush (-2), 2) := by decide +kernel
theorem dX6_tides_29 : decode cX6_tides 29 = .ok (.ireturn, 1) := by decide +kernel
theorem dX6_tides_30 : decode cX6_tides 30 = .ok (.aload_n 0, 1) := by decide +kernel
theorem dX6_tides_31 : decode cX6_tides 31 = .ok (.getfield 29, 3) := by decide +kernel
theorem dX6_tides_34 : decode cX6_tides 34 = .ok (.aload_n 0, 1) := by decide +kernel
theorem dX6_tides_35 : decode cX6_tides 35 = .ok (.getfield 36, 3) := by decide +kernel
theorem dX6_tides_38 : decode cX6_tides 38 = .ok (.invokevirtual 153, 3) := by decide +kernel
theorem dX6_tides_41 : decode cX6_tides 41 = .ok (.invokevirtual 157, 3) := by decide +kernel
theorem dX6_tides_44 : decode cX6_tides 44 = .ok (.iconst 0, 1) := by decide +kernel
theorem dX6_tides_45 : decode cX6_tides 45 = .ok (.istore_n 2, 1) := by decide +kernel
theorem dX6_tides_46 : decode cX6_tides 46 = .ok (.iconst 0, 1) := by decide +kernel
theorem dX6_tides_47 : decode cX6_tides 47 = .ok (.istore_n 3, 1) := by decide +kernel
theorem dX6_tides_48 : decode cX6_tides 48 = .ok (.iload_n 3, 1) := by decide +kernel
theorem dX6_tides_49 : decode cX6_tides 49 = .ok (.iload_n 1, 1) := by decide +kernel
theorem dX6_tides_50 : decode cX6_tides 50 = .ok (.if_icmp .ge 23, 3) := by decide +kernel
theorem dX6_tides_53 : decode cX6_tides 53 = .ok (.iload_n 2, 1) := by decide +kernel
theorem dX6_tides_54 : decode cX6_tides 54 = .ok (.aload_n 0, 1) := by decide +kernel
theorem dX6_tides_55 : decode cX6_tides 55 = .ok (.getfield 29, 3) := by decide +kernel
theorem dX6_tides_58 : decode cX6_tides 58 = .ok (.aload_n 0, 1) := by decide +kernel
theorem dX6_tides_59 : decode cX6_tides 59 = .ok (.getfield 19, 3) := by decide +kernel
theorem dX6_tides_62 : decode cX6_tides 62 = .ok (.invokevirtual 161, 3) := by decide +kernel
theorem dX6_tides_65 : decode cX6_tides 65 = .ok (.iadd, 1) := by decide +kernel
theorem dX6_tides_66 : decode cX6_tides 66 = .ok (.istore_n 2, 1) := by decide +kernel
theorem dX6_tides_67 : decode cX6_tides 67 = .ok (.iinc 3 1, 3) := by decide +kernel
theorem dX6_tides_70 : decode cX6_tides 70 = .ok (.goto (-22), 3) := by decide +kernel
theorem dX6_tides_73 : decode cX6_tides 73 = .ok (.iload_n 2, 1) := by decide +kernel
theorem dX6_tides_74 : decode cX6_tides 74 = .ok (.ireturn, 1) := by decide +kernel
def T_X6_tides : tk_Tb := [(0, tk_il 1 1), (1, tk_ic (1) 2), (2, tk_ic (99) 4), (4, tk_cs M_X6_isWithin 3 7), (7, tk_br (fun x => x = 0) 10 12), (10, tk_ic (-1) 11), (11, tk_rI), (12, tk_al 0 13), (13, tk_gR 6 3 16), (16, tk_gI 1 0 19), (19, tk_il 1 20), (20, tk_bi (fun x y => x + y) 21), (21, tk_ic (9999) 24), (24, tk_cm (fun x y => x ≤ y) 30 27), (27, tk_ic (-2) 29), (29, tk_rI), (30, tk_al 0 31), (31, tk_gR 6 3 34), (34, tk_al 0 35), (35, tk_gR 6 4 38), (38, tk_cv 2 M_X2_nextRow 0 41), (41, tk_cv 1 M_X1_saveTo 1 44), (44, tk_ic (0) 45), (45, tk_sI 2 46), (46, tk_ic (0) 47), (47, tk_sI 3 48), (48, tk_il 3 49), (49, tk_il 1 50), (50, tk_cm (fun x y => y ≤ x) 73 53), (53, tk_il 2 54), (54, tk_al 0 55), (55, tk_gR 6 3 58), (58, tk_al 0 59), (59, tk_gR 6 1 62), (62, tk_cv 1 M_X1_pass 1 65), (65, tk_bi (fun x y => x + y) 66), (66, tk_sI 2 67), (67, tk_inc 3 (1) 70), (70, tk_jmp 48), (73, tk_il 2 74), (74, tk_rI)]
set_option maxRecDepth 100000 in
theorem hT_X6_tides (sc : Option (Nat × (Nat → Int32))) : ∀ x ∈ T_X6_tides, tk_So sc M_X6_tides x.1 x.2 := by
  unfold T_X6_tides
  refine List.forall_mem_cons.mpr ⟨so_iload_n dX6_tides_0 rfl rfl, ?_⟩
  refine List.forall_mem_cons.mpr ⟨so_iconst dX6_tides_1 (by decide) rfl, ?_⟩
  refine List.forall_mem_cons.mpr ⟨so_bipush dX6_tides_2 (by decide) rfl, ?_⟩
  refine List.forall_mem_cons.mpr ⟨so_cs dX6_tides_4 mv_X6_isWithin wm_X6_69 ⟨rfl, rfl⟩ (by decide) rfl, ?_⟩
  refine List.forall_mem_cons.mpr ⟨so_if_ne dX6_tides_7 (by decide) rfl, ?_⟩
  refine List.forall_mem_cons.mpr ⟨so_iconst dX6_tides_10 (by decide) rfl, ?_⟩
  refine List.forall_mem_cons.mpr ⟨so_rI dX6_tides_11 rfl, ?_⟩
  refine List.forall_mem_cons.mpr ⟨so_aload_n dX6_tides_12 rfl rfl, ?_⟩
  refine List.forall_mem_cons.mpr ⟨so_gR (C := RX6) (T := TX6) (N := 12) dX6_tides_13 (by decide) rfl rfl (by decide) rfl in_X6 wf_X6_29 rfl, ?_⟩
  refine List.forall_mem_cons.mpr ⟨so_gI (C := RX1) (T := TX1) (N := 3) dX6_tides_16 (by decide) rfl rfl (by decide) rfl in_X1 wf_X6_138 rfl, ?_⟩
  refine List.forall_mem_cons.mpr ⟨so_iload_n dX6_tides_19 rfl rfl, ?_⟩
  refine List.forall_mem_cons.mpr ⟨so_iadd dX6_tides_20 rfl, ?_⟩
  refine List.forall_mem_cons.mpr ⟨so_sipush dX6_tides_21 (by decide) rfl, ?_⟩
  refine List.forall_mem_cons.mpr ⟨so_icmp_le dX6_tides_24 (by decide) rfl, ?_⟩
  refine List.forall_mem_cons.mpr ⟨so_bipush dX6_tides_27 (by decide) rfl, ?_⟩
  refine List.forall_mem_cons.mpr ⟨so_rI dX6_tides_29 rfl, ?_⟩
  refine List.forall_mem_cons.mpr ⟨so_aload_n dX6_tides_30 rfl rfl, ?_⟩
  refine List.forall_mem_cons.mpr ⟨so_gR (C := RX6) (T := TX6) (N := 12) dX6_tides_31 (by decide) rfl rfl (by decide) rfl in_X6 wf_X6_29 rfl, ?_⟩
  refine List.forall_mem_cons.mpr ⟨so_aload_n dX6_tides_34 rfl rfl, ?_⟩
  refine List.forall_mem_cons.mpr ⟨so_gR (C := RX6) (T := TX6) (N := 12) dX6_tides_35 (by decide) rfl rfl (by decide) rfl in_X6 wf_X6_36 rfl, ?_⟩
  refine List.forall_mem_cons.mpr ⟨so_cv (T := TX2) (N := 3) dX6_tides_38 mv_X2_nextRow wm_X6_153 (by decide) rfl ⟨rfl, rfl⟩ (by decide) rfl, ?_⟩
  refine List.forall_mem_cons.mpr ⟨so_cv (T := TX1) (N := 3) dX6_tides_41 mv_X1_saveTo wm_X6_157 (by decide) rfl ⟨rfl, rfl⟩ (by decide) rfl, ?_⟩
  refine List.forall_mem_cons.mpr ⟨so_iconst dX6_tides_44 (by decide) rfl, ?_⟩
  refine List.forall_mem_cons.mpr ⟨so_istore_n dX6_tides_45 rfl rfl, ?_⟩
  refine List.forall_mem_cons.mpr ⟨so_iconst dX6_tides_46 (by decide) rfl, ?_⟩
  refine List.forall_mem_cons.mpr ⟨so_istore_n dX6_tides_47 rfl rfl, ?_⟩
  refine List.forall_mem_cons.mpr ⟨so_iload_n dX6_tides_48 rfl rfl, ?_⟩
  refine List.forall_mem_cons.mpr ⟨so_iload_n dX6_tides_49 rfl rfl, ?_⟩
  refine List.forall_mem_cons.mpr ⟨so_icmp_ge dX6_tides_50 (by decide) rfl, ?_⟩
  refine List.forall_mem_cons.mpr ⟨so_iload_n dX6_tides_53 rfl rfl, ?_⟩
  refine List.forall_mem_cons.mpr ⟨so_aload_n dX6_tides_54 rfl rfl, ?_⟩
  refine List.forall_mem_cons.mpr ⟨so_gR (C := RX6) (T := TX6) (N := 12) dX6_tides_55 (by decide) rfl rfl (by decide) rfl in_X6 wf_X6_29 rfl, ?_⟩
  refine List.forall_mem_cons.mpr ⟨so_aload_n dX6_tides_58 rfl rfl, ?_⟩
  refine List.forall_mem_cons.mpr ⟨so_gR (C := RX6) (T := TX6) (N := 12) dX6_tides_59 (by decide) rfl rfl (by decide) rfl in_X6 wf_X6_19 rfl, ?_⟩
  refine List.forall_mem_cons.mpr ⟨so_cv (T := TX1) (N := 3) dX6_tides_62 mv_X1_pass wm_X6_161 (by decide) rfl ⟨rfl, rfl⟩ (by decide) rfl, ?_⟩
  refine List.forall_mem_cons.mpr ⟨so_iadd dX6_tides_65 rfl, ?_⟩
  refine List.forall_mem_cons.mpr ⟨so_istore_n dX6_tides_66 rfl rfl, ?_⟩
  refine List.forall_mem_cons.mpr ⟨so_iinc dX6_tides_67 (by decide) rfl, ?_⟩
  refine List.forall_mem_cons.mpr ⟨so_goto dX6_tides_70 (by decide), ?_⟩
  refine List.forall_mem_cons.mpr ⟨so_iload_n dX6_tides_73 rfl rfl, ?_⟩
  refine List.forall_mem_cons.mpr ⟨so_rI dX6_tides_74 rfl, ?_⟩
  exact fun _ h => absurd h List.not_mem_nil
theorem dX6_ties_0 : decode cX6_ties 0 = .ok (.aload_n 0, 1) := by decide +kernel
theorem dX6_ties_1 : decode cX6_ties 1 = .ok (.getfield 19, 3) := by decide +kernel
theorem dX6_ties_4 : decode cX6_ties 4 = .ok (.iload_n 1, 1) := by decide +kernel
theorem dX6_ties_5 : decode cX6_ties 5 = .ok (.invokevirtual 119, 3) := by decide +kernel
theorem dX6_ties_8 : decode cX6_ties 8 = .ok (.ifCond .eq 12, 3) := by decide +kernel
theorem dX6_ties_11 : decode cX6_ties 11 = .ok (.iload_n 2, 1) := by decide +kernel
theorem dX6_ties_12 : decode cX6_ties 12 = .ok (.iconst 0, 1) := by decide +kernel
theorem dX6_ties_13 : decode cX6_ties 13 = .ok (.iconst 1, 1) := by decide +kernel
theorem dX6_ties_14 : decode cX6_ties 14 = .ok (.invokestatic 69, 3) := by decide +kernel
theorem dX6_ties_17 : decode cX6_ties 17 = .ok (.ifCond .ne 5, 3) := by decide +kernel
theorem dX6_ties_20 : decode cX6_ties 20 = .ok (.iconst (-1), 1) := by decide +kernel
theorem dX6_ties_21 : decode cX6_ties 21 = .ok (.ireturn, 1) := by decide +kernel
theorem dX6_ties_22 : decode cX6_ties 22 = .ok (.aload_n 0, 1) := by decide +kernel
theorem dX6_ties_23 : decode cX6_ties 23 = .ok (.getfield 29, 3) := by decide +kernel
theorem dX6_ties_26 : decode cX6_ties 26 = .ok (.getfield 122, 3) := by decide +kernel
theorem dX6_ties_29 : decode cX6_ties 29 = .ok (.iload_n 1, 1) := by decide +kernel
theorem dX6_ties_30 : decode cX6_ties 30 = .ok (.aaload, 1) := by decide +kernel
theorem dX6_ties_31 : decode cX6_ties 31 = .ok (.astore_n 3, 1) := by decide +kernel
theorem dX6_ties_32 : decode cX6_ties 32 = .ok (.iload_n 2, 1) := by decide +kernel
theorem dX6_ties_33 : decode cX6_ties 33 = .ok (.iconst 1, 1) := by decide +kernel
theorem dX6_ties_34 : decode cX6_ties 34 = .ok (.if_icmp .ne 7, 3) := by decide +kernel
theorem dX6_ties_37 : decode cX6_ties 37 = .ok (.iconst 1, 1) := by decide +kernel
theorem dX6_ties_38 : decode cX6_ties 38 = .ok (.goto 4, 3) := by decide +kernel
theorem dX6_ties_41 : decode cX6_ties 41 = .ok (.iconst 0, 1) := by decide +kernel
theorem dX6_ties_42 : decode cX6_ties 42 = .ok (.istore 4, 2) := by decide +kernel
theorem dX6_ties_44 : decode cX6_ties 44 = .ok (.aload_n 3, 1) := by decide +kernel
theorem dX6_ties_45 : decode cX6_ties 45 = .ok (.invokevirtual 164, 3) := by decide +kernel
theorem dX6_ties_48 : decode cX6_ties 48 = .ok (.ifCond .eq 12, 3) := by decide +kernel
theorem dX6_ties_51 : decode cX6_ties 51 = .ok (.aload_n 3, 1) := by decide +kernel
theorem dX6_ties_52 : decode cX6_ties 52 = .ok (.getfield 134, 3) := by decide +kernel
theorem dX6_ties_55 : decode cX6_ties 55 = .ok (.iload 4, 2) := by decide +kernel
theorem dX6_ties_57 : decode cX6_ties 57 = .ok (.if_icmp .ne 6, 3) := by decide +kernel
theorem dX6_ties_60 : decode cX6_ties 60 = .ok (.bipush (-2), 2) := by decide +kernel
theorem dX6_ties_62 : decode cX6_ties 62 = .ok (.ireturn, 1) := by decide +kernel
theorem dX6_ties_63 : decode cX6_ties 63 = .ok (.aload_n 0, 1) := by decide +kernel
theorem dX6_ties_64 : decode cX6_ties 64 = .ok (.getfield 29, 3) := by decide +kernel
theorem dX6_ties_67 : decode cX6_ties 67 = .ok (.aload_n 0, 1) := by decide +kernel
theorem dX6_ties_68 : decode cX6_ties 68 = .ok (.getfield 36, 3) := by decide +kernel
theorem dX6_ties_71 : decode cX6_ties 71 = .ok (.invokevirtual 153, 3) := by decide +kernel
theorem dX6_ties_74 : decode cX6_ties 74 = .ok (.invokevirtual 157, 3) := by decide +kernel
theorem dX6_ties_77 : decode cX6_ties 77 = .ok (.aload_n 3, 1) := by decide +kernel
theorem dX6_ties_78 : decode cX6_ties 78 = .ok (.iload 4, 2) := by decide +kernel
theorem dX6_ties_80 : decode cX6_ties 80 = .ok (.putfield 134, 3) := by decide +kernel
theorem dX6_ties_83 : decode cX6_ties 83 = .ok (.aload_n 0, 1) := by decide +kernel
theorem dX6_ties_84 : decode cX6_ties 84 = .ok (.getfield 29, 3) := by decide +kernel
theorem dX6_ties_87 : decode cX6_ties 87 = .ok (.aload_n 0, 1) := by decide +kernel
theorem dX6_ties_88 : decode cX6_ties 88 = .ok (.getfield 19, 3) := by decide +kernel
theorem dX6_ties_91 : decode cX6_ties 91 = .ok (.getfield 111, 3) := by decide +kernel
theorem dX6_ties_94 : decode cX6_ties 94 = .ok (.invokevirtual 168, 3) := by decide +kernel
theorem dX6_ties_97 : decode cX6_ties 97 = .ok (.ireturn, 1) := by decide +kernel
def T_X6_ties : tk_Tb := [(0, tk_al 0 1), (1, tk_gR 6 1 4), (4, tk_il 1 5), (5, tk_cv 5 M_X5_isThing 1 8), (8, tk_br (fun x => x = 0) 20 11), (11, tk_il 2 12), (12, tk_ic (0) 13), (13, tk_ic (1) 14), (14, tk_cs M_X6_isWithin 3 17), (17, tk_br (fun x => x = 0) 20 22), (20, tk_ic (-1) 21), (21, tk_rI), (22, tk_al 0 23), (23, tk_gR 6 3 26), (26, tk_gR 1 2 29), (29, tk_il 1 30), (30, tk_aa 11 31), (31, tk_sA 3 32), (32, tk_il 2 33), (33, tk_ic (1) 34), (34, tk_cm (fun x y => x = y) 37 41), (37, tk_ic (1) 38), (38, tk_jmp 42), (41, tk_ic (0) 42), (42, tk_sI 4 44), (44, tk_al 3 45), (45, tk_cv 4 M_X4_lies 0 48), (48, tk_br (fun x => x = 0) 60 51), (51, tk_al 3 52), (52, tk_gI 4 2 55), (55, tk_il 4 57), (57, tk_cm (fun x y => x = y) 60 63), (60, tk_ic (-2) 62), (62, tk_rI), (63, tk_al 0 64), (64, tk_gR 6 3 67), (67, tk_al 0 68), (68, tk_gR 6 4 71), (71, tk_cv 2 M_X2_nextRow 0 74), (74, tk_cv 1 M_X1_saveTo 1 77), (77, tk_al 3 78), (78, tk_il 4 80), (80, tk_pZ 4 2 83), (83, tk_al 0 84), (84, tk_gR 6 3 87), (87, tk_al 0 88), (88, tk_gR 6 1 91), (91, tk_gI 5 4 94), (94, tk_cv 1 M_X1_tiedOf 1 97), (97, tk_rI)]
set_option maxRecDepth 100000 in
theorem hT_X6_ties (sc : Option (Nat × (Nat → Int32))) : ∀ x ∈ T_X6_ties, tk_So sc M_X6_ties x.1 x.2 := by
  unfold T_X6_ties
  refine List.forall_mem_cons.mpr ⟨so_aload_n dX6_ties_0 rfl rfl, ?_⟩
  refine List.forall_mem_cons.mpr ⟨so_gR (C := RX6) (T := TX6) (N := 12) dX6_ties_1 (by decide) rfl rfl (by decide) rfl in_X6 wf_X6_19 rfl, ?_⟩
  refine List.forall_mem_cons.mpr ⟨so_iload_n dX6_ties_4 rfl rfl, ?_⟩
  refine List.forall_mem_cons.mpr ⟨so_cv (T := TX5) (N := 10) dX6_ties_5 mv_X5_isThing wm_X6_119 (by decide) rfl ⟨rfl, rfl⟩ (by decide) rfl, ?_⟩
  refine List.forall_mem_cons.mpr ⟨so_if_eq dX6_ties_8 (by decide) rfl, ?_⟩
  refine List.forall_mem_cons.mpr ⟨so_iload_n dX6_ties_11 rfl rfl, ?_⟩
  refine List.forall_mem_cons.mpr ⟨so_iconst dX6_ties_12 (by decide) rfl, ?_⟩
  refine List.forall_mem_cons.mpr ⟨so_iconst dX6_ties_13 (by decide) rfl, ?_⟩
  refine List.forall_mem_cons.mpr ⟨so_cs dX6_ties_14 mv_X6_isWithin wm_X6_69 ⟨rfl, rfl⟩ (by decide) rfl, ?_⟩
  refine List.forall_mem_cons.mpr ⟨so_if_ne dX6_ties_17 (by decide) rfl, ?_⟩
  refine List.forall_mem_cons.mpr ⟨so_iconst dX6_ties_20 (by decide) rfl, ?_⟩
  refine List.forall_mem_cons.mpr ⟨so_rI dX6_ties_21 rfl, ?_⟩
  refine List.forall_mem_cons.mpr ⟨so_aload_n dX6_ties_22 rfl rfl, ?_⟩
  refine List.forall_mem_cons.mpr ⟨so_gR (C := RX6) (T := TX6) (N := 12) dX6_ties_23 (by decide) rfl rfl (by decide) rfl in_X6 wf_X6_29 rfl, ?_⟩
  refine List.forall_mem_cons.mpr ⟨so_gR (C := RX1) (T := TX1) (N := 3) dX6_ties_26 (by decide) rfl rfl (by decide) rfl in_X1 wf_X6_122 rfl, ?_⟩
  refine List.forall_mem_cons.mpr ⟨so_iload_n dX6_ties_29 rfl rfl, ?_⟩
  refine List.forall_mem_cons.mpr ⟨so_aaT dX6_ties_30 rfl, ?_⟩
  refine List.forall_mem_cons.mpr ⟨so_astore_n dX6_ties_31 rfl rfl, ?_⟩
  refine List.forall_mem_cons.mpr ⟨so_iload_n dX6_ties_32 rfl rfl, ?_⟩
  refine List.forall_mem_cons.mpr ⟨so_iconst dX6_ties_33 (by decide) rfl, ?_⟩
  refine List.forall_mem_cons.mpr ⟨so_icmp_ne dX6_ties_34 (by decide) rfl, ?_⟩
  refine List.forall_mem_cons.mpr ⟨so_iconst dX6_ties_37 (by decide) rfl, ?_⟩
  refine List.forall_mem_cons.mpr ⟨so_goto dX6_ties_38 (by decide), ?_⟩
  refine List.forall_mem_cons.mpr ⟨so_iconst dX6_ties_41 (by decide) rfl, ?_⟩
  refine List.forall_mem_cons.mpr ⟨so_istore dX6_ties_42 rfl, ?_⟩
  refine List.forall_mem_cons.mpr ⟨so_aload_n dX6_ties_44 rfl rfl, ?_⟩
  refine List.forall_mem_cons.mpr ⟨so_cv (T := TX4) (N := 3) dX6_ties_45 mv_X4_lies wm_X6_164 (by decide) rfl ⟨rfl, rfl⟩ (by decide) rfl, ?_⟩
  refine List.forall_mem_cons.mpr ⟨so_if_eq dX6_ties_48 (by decide) rfl, ?_⟩
  refine List.forall_mem_cons.mpr ⟨so_aload_n dX6_ties_51 rfl rfl, ?_⟩
  refine List.forall_mem_cons.mpr ⟨so_gI (C := RX4) (T := TX4) (N := 3) dX6_ties_52 (by decide) rfl rfl (by decide) rfl in_X4 wf_X6_134 rfl, ?_⟩
  refine List.forall_mem_cons.mpr ⟨so_iload dX6_ties_55 rfl, ?_⟩
  refine List.forall_mem_cons.mpr ⟨so_icmp_ne dX6_ties_57 (by decide) rfl, ?_⟩
  refine List.forall_mem_cons.mpr ⟨so_bipush dX6_ties_60 (by decide) rfl, ?_⟩
  refine List.forall_mem_cons.mpr ⟨so_rI dX6_ties_62 rfl, ?_⟩
  refine List.forall_mem_cons.mpr ⟨so_aload_n dX6_ties_63 rfl rfl, ?_⟩
  refine List.forall_mem_cons.mpr ⟨so_gR (C := RX6) (T := TX6) (N := 12) dX6_ties_64 (by decide) rfl rfl (by decide) rfl in_X6 wf_X6_29 rfl, ?_⟩
  refine List.forall_mem_cons.mpr ⟨so_aload_n dX6_ties_67 rfl rfl, ?_⟩
  refine List.forall_mem_cons.mpr ⟨so_gR (C := RX6) (T := TX6) (N := 12) dX6_ties_68 (by decide) rfl rfl (by decide) rfl in_X6 wf_X6_36 rfl, ?_⟩
  refine List.forall_mem_cons.mpr ⟨so_cv (T := TX2) (N := 3) dX6_ties_71 mv_X2_nextRow wm_X6_153 (by decide) rfl ⟨rfl, rfl⟩ (by decide) rfl, ?_⟩
  refine List.forall_mem_cons.mpr ⟨so_cv (T := TX1) (N := 3) dX6_ties_74 mv_X1_saveTo wm_X6_157 (by decide) rfl ⟨rfl, rfl⟩ (by decide) rfl, ?_⟩
  refine List.forall_mem_cons.mpr ⟨so_aload_n dX6_ties_77 rfl rfl, ?_⟩
  refine List.forall_mem_cons.mpr ⟨so_iload dX6_ties_78 rfl, ?_⟩
  refine List.forall_mem_cons.mpr ⟨so_pZ (C := RX4) (T := TX4) (N := 3) dX6_ties_80 (by decide) rfl rfl (by decide) rfl in_X4 wf_X6_134 tyX4 tyX4_ok nmX4 rfl (by decide +kernel) rfl, ?_⟩
  refine List.forall_mem_cons.mpr ⟨so_aload_n dX6_ties_83 rfl rfl, ?_⟩
  refine List.forall_mem_cons.mpr ⟨so_gR (C := RX6) (T := TX6) (N := 12) dX6_ties_84 (by decide) rfl rfl (by decide) rfl in_X6 wf_X6_29 rfl, ?_⟩
  refine List.forall_mem_cons.mpr ⟨so_aload_n dX6_ties_87 rfl rfl, ?_⟩
  refine List.forall_mem_cons.mpr ⟨so_gR (C := RX6) (T := TX6) (N := 12) dX6_ties_88 (by decide) rfl rfl (by decide) rfl in_X6 wf_X6_19 rfl, ?_⟩
  refine List.forall_mem_cons.mpr ⟨so_gI (C := RX5) (T := TX5) (N := 10) dX6_ties_91 (by decide) rfl rfl (by decide) rfl in_X5 wf_X6_111 rfl, ?_⟩
  refine List.forall_mem_cons.mpr ⟨so_cv (T := TX1) (N := 3) dX6_ties_94 mv_X1_tiedOf wm_X6_168 (by decide) rfl ⟨rfl, rfl⟩ (by decide) rfl, ?_⟩
  refine List.forall_mem_cons.mpr ⟨so_rI dX6_ties_97 rfl, ?_⟩
  exact fun _ h => absurd h List.not_mem_nil
