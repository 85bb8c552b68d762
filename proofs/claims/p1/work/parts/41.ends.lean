theorem d_GrantServer_active_0 : decode b_GrantServer_active 0 = .ok (.aload_n 0, 1) := by decide +kernel
theorem d_GrantServer_active_1 : decode b_GrantServer_active 1 = .ok (.iload_n 1, 1) := by decide +kernel
theorem d_GrantServer_active_2 : decode b_GrantServer_active 2 = .ok (.invokevirtual 178, 3) := by decide +kernel
theorem d_GrantServer_active_5 : decode b_GrantServer_active 5 = .ok (.astore_n 3, 1) := by decide +kernel
theorem d_GrantServer_active_6 : decode b_GrantServer_active 6 = .ok (.aload_n 3, 1) := by decide +kernel
theorem d_GrantServer_active_7 : decode b_GrantServer_active 7 = .ok (.ifnull 19, 3) := by decide +kernel
theorem d_GrantServer_active_10 : decode b_GrantServer_active 10 = .ok (.aload_n 3, 1) := by decide +kernel
theorem d_GrantServer_active_11 : decode b_GrantServer_active 11 = .ok (.iload_n 2, 1) := by decide +kernel
theorem d_GrantServer_active_12 : decode b_GrantServer_active 12 = .ok (.aload_n 0, 1) := by decide +kernel
theorem d_GrantServer_active_13 : decode b_GrantServer_active 13 = .ok (.getfield 60, 3) := by decide +kernel
theorem d_GrantServer_active_16 : decode b_GrantServer_active 16 = .ok (.invokevirtual 182, 3) := by decide +kernel
theorem d_GrantServer_active_19 : decode b_GrantServer_active 19 = .ok (.ifCond .eq 7, 3) := by decide +kernel
theorem d_GrantServer_active_22 : decode b_GrantServer_active 22 = .ok (.iconst 1, 1) := by decide +kernel
theorem d_GrantServer_active_23 : decode b_GrantServer_active 23 = .ok (.goto 4, 3) := by decide +kernel
theorem d_GrantServer_active_26 : decode b_GrantServer_active 26 = .ok (.iconst 0, 1) := by decide +kernel
theorem d_GrantServer_active_27 : decode b_GrantServer_active 27 = .ok (.ireturn, 1) := by decide +kernel
theorem d_GrantServer_check_0 : decode b_GrantServer_check 0 = .ok (.aload_n 0, 1) := by decide +kernel
theorem d_GrantServer_check_1 : decode b_GrantServer_check 1 = .ok (.getfield 66, 3) := by decide +kernel
theorem d_GrantServer_check_4 : decode b_GrantServer_check 4 = .ok (.aload_n 0, 1) := by decide +kernel
theorem d_GrantServer_check_5 : decode b_GrantServer_check 5 = .ok (.getfield 33, 3) := by decide +kernel
theorem d_GrantServer_check_8 : decode b_GrantServer_check 8 = .ok (.invokevirtual 185, 3) := by decide +kernel
theorem d_GrantServer_check_11 : decode b_GrantServer_check 11 = .ok (.ifCond .ne 6, 3) := by decide +kernel
theorem d_GrantServer_check_14 : decode b_GrantServer_check 14 = .ok (.bipush (-7), 2) := by decide +kernel
theorem d_GrantServer_check_16 : decode b_GrantServer_check 16 = .ok (.ireturn, 1) := by decide +kernel
theorem d_GrantServer_check_17 : decode b_GrantServer_check 17 = .ok (.aload_n 0, 1) := by decide +kernel
theorem d_GrantServer_check_18 : decode b_GrantServer_check 18 = .ok (.getfield 66, 3) := by decide +kernel
theorem d_GrantServer_check_21 : decode b_GrantServer_check 21 = .ok (.aload_n 0, 1) := by decide +kernel
theorem d_GrantServer_check_22 : decode b_GrantServer_check 22 = .ok (.getfield 33, 3) := by decide +kernel
theorem d_GrantServer_check_25 : decode b_GrantServer_check 25 = .ok (.invokevirtual 189, 3) := by decide +kernel
theorem d_GrantServer_check_28 : decode b_GrantServer_check 28 = .ok (.ifCond .ne 6, 3) := by decide +kernel
theorem d_GrantServer_check_31 : decode b_GrantServer_check 31 = .ok (.bipush (-8), 2) := by decide +kernel
theorem d_GrantServer_check_33 : decode b_GrantServer_check 33 = .ok (.ireturn, 1) := by decide +kernel
theorem d_GrantServer_check_34 : decode b_GrantServer_check 34 = .ok (.aload_n 0, 1) := by decide +kernel
theorem d_GrantServer_check_35 : decode b_GrantServer_check 35 = .ok (.getfield 66, 3) := by decide +kernel
theorem d_GrantServer_check_38 : decode b_GrantServer_check 38 = .ok (.aload_n 0, 1) := by decide +kernel
theorem d_GrantServer_check_39 : decode b_GrantServer_check 39 = .ok (.getfield 33, 3) := by decide +kernel
theorem d_GrantServer_check_42 : decode b_GrantServer_check 42 = .ok (.aload_n 0, 1) := by decide +kernel
theorem d_GrantServer_check_43 : decode b_GrantServer_check 43 = .ok (.getfield 40, 3) := by decide +kernel
theorem d_GrantServer_check_46 : decode b_GrantServer_check 46 = .ok (.invokevirtual 192, 3) := by decide +kernel
theorem d_GrantServer_check_49 : decode b_GrantServer_check 49 = .ok (.aload_n 0, 1) := by decide +kernel
theorem d_GrantServer_check_50 : decode b_GrantServer_check 50 = .ok (.getfield 46, 3) := by decide +kernel
theorem d_GrantServer_check_53 : decode b_GrantServer_check 53 = .ok (.aload_n 0, 1) := by decide +kernel
theorem d_GrantServer_check_54 : decode b_GrantServer_check 54 = .ok (.getfield 40, 3) := by decide +kernel
theorem d_GrantServer_check_57 : decode b_GrantServer_check 57 = .ok (.invokevirtual 196, 3) := by decide +kernel
theorem d_GrantServer_check_60 : decode b_GrantServer_check 60 = .ok (.ifCond .ne 6, 3) := by decide +kernel
theorem d_GrantServer_check_63 : decode b_GrantServer_check 63 = .ok (.bipush (-9), 2) := by decide +kernel
theorem d_GrantServer_check_65 : decode b_GrantServer_check 65 = .ok (.ireturn, 1) := by decide +kernel
theorem d_GrantServer_check_66 : decode b_GrantServer_check 66 = .ok (.aload_n 0, 1) := by decide +kernel
theorem d_GrantServer_check_67 : decode b_GrantServer_check 67 = .ok (.iload_n 1, 1) := by decide +kernel
theorem d_GrantServer_check_68 : decode b_GrantServer_check 68 = .ok (.iload_n 2, 1) := by decide +kernel
theorem d_GrantServer_check_69 : decode b_GrantServer_check 69 = .ok (.invokevirtual 199, 3) := by decide +kernel
theorem d_GrantServer_check_72 : decode b_GrantServer_check 72 = .ok (.ireturn, 1) := by decide +kernel
theorem d_GrantServer_wrap_0 : decode b_GrantServer_wrap 0 = .ok (.aload_n 0, 1) := by decide +kernel
theorem d_GrantServer_wrap_1 : decode b_GrantServer_wrap 1 = .ok (.getfield 66, 3) := by decide +kernel
theorem d_GrantServer_wrap_4 : decode b_GrantServer_wrap 4 = .ok (.aload_n 0, 1) := by decide +kernel
theorem d_GrantServer_wrap_5 : decode b_GrantServer_wrap 5 = .ok (.getfield 33, 3) := by decide +kernel
theorem d_GrantServer_wrap_8 : decode b_GrantServer_wrap 8 = .ok (.invokevirtual 227, 3) := by decide +kernel
theorem d_GrantServer_wrap_11 : decode b_GrantServer_wrap 11 = .ok (.bipush 120, 2) := by decide +kernel
theorem d_GrantServer_wrap_13 : decode b_GrantServer_wrap 13 = .ok (.if_icmp .le 5, 3) := by decide +kernel
theorem d_GrantServer_wrap_16 : decode b_GrantServer_wrap 16 = .ok (.iconst (-1), 1) := by decide +kernel
theorem d_GrantServer_wrap_17 : decode b_GrantServer_wrap 17 = .ok (.ireturn, 1) := by decide +kernel
theorem d_GrantServer_wrap_18 : decode b_GrantServer_wrap 18 = .ok (.aload_n 0, 1) := by decide +kernel
theorem d_GrantServer_wrap_19 : decode b_GrantServer_wrap 19 = .ok (.getfield 66, 3) := by decide +kernel
theorem d_GrantServer_wrap_22 : decode b_GrantServer_wrap 22 = .ok (.aload_n 0, 1) := by decide +kernel
theorem d_GrantServer_wrap_23 : decode b_GrantServer_wrap 23 = .ok (.getfield 33, 3) := by decide +kernel
theorem d_GrantServer_wrap_26 : decode b_GrantServer_wrap 26 = .ok (.aload_n 0, 1) := by decide +kernel
theorem d_GrantServer_wrap_27 : decode b_GrantServer_wrap 27 = .ok (.getfield 37, 3) := by decide +kernel
theorem d_GrantServer_wrap_30 : decode b_GrantServer_wrap 30 = .ok (.invokevirtual 231, 3) := by decide +kernel
theorem d_GrantServer_wrap_33 : decode b_GrantServer_wrap 33 = .ok (.aload_n 0, 1) := by decide +kernel
theorem d_GrantServer_wrap_34 : decode b_GrantServer_wrap 34 = .ok (.getfield 37, 3) := by decide +kernel
theorem d_GrantServer_wrap_37 : decode b_GrantServer_wrap 37 = .ok (.invokevirtual 221, 3) := by decide +kernel
theorem d_GrantServer_wrap_40 : decode b_GrantServer_wrap 40 = .ok (.ireturn, 1) := by decide +kernel
theorem d_GrantServer_sweep_0 : decode b_GrantServer_sweep 0 = .ok (.aload_n 0, 1) := by decide +kernel
theorem d_GrantServer_sweep_1 : decode b_GrantServer_sweep 1 = .ok (.getfield 20, 3) := by decide +kernel
theorem d_GrantServer_sweep_4 : decode b_GrantServer_sweep 4 = .ok (.aload_n 0, 1) := by decide +kernel
theorem d_GrantServer_sweep_5 : decode b_GrantServer_sweep 5 = .ok (.getfield 60, 3) := by decide +kernel
theorem d_GrantServer_sweep_8 : decode b_GrantServer_sweep 8 = .ok (.invokevirtual 234, 3) := by decide +kernel
theorem d_GrantServer_sweep_11 : decode b_GrantServer_sweep 11 = .ok (.aload_n 0, 1) := by decide +kernel
theorem d_GrantServer_sweep_12 : decode b_GrantServer_sweep 12 = .ok (.getfield 24, 3) := by decide +kernel
theorem d_GrantServer_sweep_15 : decode b_GrantServer_sweep 15 = .ok (.aload_n 0, 1) := by decide +kernel
theorem d_GrantServer_sweep_16 : decode b_GrantServer_sweep 16 = .ok (.getfield 60, 3) := by decide +kernel
theorem d_GrantServer_sweep_19 : decode b_GrantServer_sweep 19 = .ok (.invokevirtual 234, 3) := by decide +kernel
theorem d_GrantServer_sweep_22 : decode b_GrantServer_sweep 22 = .ok (.iadd, 1) := by decide +kernel
theorem d_GrantServer_sweep_23 : decode b_GrantServer_sweep 23 = .ok (.aload_n 0, 1) := by decide +kernel
theorem d_GrantServer_sweep_24 : decode b_GrantServer_sweep 24 = .ok (.getfield 27, 3) := by decide +kernel
theorem d_GrantServer_sweep_27 : decode b_GrantServer_sweep 27 = .ok (.aload_n 0, 1) := by decide +kernel
theorem d_GrantServer_sweep_28 : decode b_GrantServer_sweep 28 = .ok (.getfield 60, 3) := by decide +kernel
theorem d_GrantServer_sweep_31 : decode b_GrantServer_sweep 31 = .ok (.invokevirtual 234, 3) := by decide +kernel
theorem d_GrantServer_sweep_34 : decode b_GrantServer_sweep 34 = .ok (.iadd, 1) := by decide +kernel
theorem d_GrantServer_sweep_35 : decode b_GrantServer_sweep 35 = .ok (.ireturn, 1) := by decide +kernel
theorem d_GrantServer_count_0 : decode b_GrantServer_count 0 = .ok (.aload_n 0, 1) := by decide +kernel
theorem d_GrantServer_count_1 : decode b_GrantServer_count 1 = .ok (.iload_n 1, 1) := by decide +kernel
theorem d_GrantServer_count_2 : decode b_GrantServer_count 2 = .ok (.invokevirtual 178, 3) := by decide +kernel
theorem d_GrantServer_count_5 : decode b_GrantServer_count 5 = .ok (.astore_n 3, 1) := by decide +kernel
theorem d_GrantServer_count_6 : decode b_GrantServer_count 6 = .ok (.aload_n 3, 1) := by decide +kernel
theorem d_GrantServer_count_7 : decode b_GrantServer_count 7 = .ok (.ifnonnull 5, 3) := by decide +kernel
theorem d_GrantServer_count_10 : decode b_GrantServer_count 10 = .ok (.iconst (-1), 1) := by decide +kernel
theorem d_GrantServer_count_11 : decode b_GrantServer_count 11 = .ok (.ireturn, 1) := by decide +kernel
theorem d_GrantServer_count_12 : decode b_GrantServer_count 12 = .ok (.iload_n 2, 1) := by decide +kernel
theorem d_GrantServer_count_13 : decode b_GrantServer_count 13 = .ok (.ifCond .eq 14, 3) := by decide +kernel
theorem d_GrantServer_count_16 : decode b_GrantServer_count 16 = .ok (.aload_n 3, 1) := by decide +kernel
theorem d_GrantServer_count_17 : decode b_GrantServer_count 17 = .ok (.aload_n 0, 1) := by decide +kernel
theorem d_GrantServer_count_18 : decode b_GrantServer_count 18 = .ok (.getfield 60, 3) := by decide +kernel
theorem d_GrantServer_count_21 : decode b_GrantServer_count 21 = .ok (.invokevirtual 237, 3) := by decide +kernel
theorem d_GrantServer_count_24 : decode b_GrantServer_count 24 = .ok (.goto 7, 3) := by decide +kernel
theorem d_GrantServer_count_27 : decode b_GrantServer_count 27 = .ok (.aload_n 3, 1) := by decide +kernel
theorem d_GrantServer_count_28 : decode b_GrantServer_count 28 = .ok (.invokevirtual 240, 3) := by decide +kernel
theorem d_GrantServer_count_31 : decode b_GrantServer_count 31 = .ok (.ireturn, 1) := by decide +kernel
theorem d_Wrapping_hasForm_0 : decode b_Wrapping_hasForm 0 = .ok (.aload_n 1, 1) := by decide +kernel
theorem d_Wrapping_hasForm_1 : decode b_Wrapping_hasForm 1 = .ok (.invokevirtual 46, 3) := by decide +kernel
theorem d_Wrapping_hasForm_4 : decode b_Wrapping_hasForm 4 = .ok (.bipush 11, 2) := by decide +kernel
theorem d_Wrapping_hasForm_6 : decode b_Wrapping_hasForm 6 = .ok (.isub, 1) := by decide +kernel
theorem d_Wrapping_hasForm_7 : decode b_Wrapping_hasForm 7 = .ok (.istore_n 2, 1) := by decide +kernel
theorem d_Wrapping_hasForm_8 : decode b_Wrapping_hasForm 8 = .ok (.iload_n 2, 1) := by decide +kernel
theorem d_Wrapping_hasForm_9 : decode b_Wrapping_hasForm 9 = .ok (.ifCond .lt 10, 3) := by decide +kernel
theorem d_Wrapping_hasForm_12 : decode b_Wrapping_hasForm 12 = .ok (.iload_n 2, 1) := by decide +kernel
theorem d_Wrapping_hasForm_13 : decode b_Wrapping_hasForm 13 = .ok (.iconst 4, 1) := by decide +kernel
theorem d_Wrapping_hasForm_14 : decode b_Wrapping_hasForm 14 = .ok (.irem, 1) := by decide +kernel
theorem d_Wrapping_hasForm_15 : decode b_Wrapping_hasForm 15 = .ok (.iconst 1, 1) := by decide +kernel
theorem d_Wrapping_hasForm_16 : decode b_Wrapping_hasForm 16 = .ok (.if_icmp .ne 5, 3) := by decide +kernel
theorem d_Wrapping_hasForm_19 : decode b_Wrapping_hasForm 19 = .ok (.iconst 0, 1) := by decide +kernel
theorem d_Wrapping_hasForm_20 : decode b_Wrapping_hasForm 20 = .ok (.ireturn, 1) := by decide +kernel
theorem d_Wrapping_hasForm_21 : decode b_Wrapping_hasForm 21 = .ok (.iconst 0, 1) := by decide +kernel
theorem d_Wrapping_hasForm_22 : decode b_Wrapping_hasForm 22 = .ok (.istore_n 3, 1) := by decide +kernel
theorem d_Wrapping_hasForm_23 : decode b_Wrapping_hasForm 23 = .ok (.iload_n 3, 1) := by decide +kernel
theorem d_Wrapping_hasForm_24 : decode b_Wrapping_hasForm 24 = .ok (.aload_n 1, 1) := by decide +kernel
theorem d_Wrapping_hasForm_25 : decode b_Wrapping_hasForm 25 = .ok (.invokevirtual 46, 3) := by decide +kernel
theorem d_Wrapping_hasForm_28 : decode b_Wrapping_hasForm 28 = .ok (.if_icmp .ge 54, 3) := by decide +kernel
theorem d_Wrapping_hasForm_31 : decode b_Wrapping_hasForm 31 = .ok (.iload_n 3, 1) := by decide +kernel
theorem d_Wrapping_hasForm_32 : decode b_Wrapping_hasForm 32 = .ok (.iload_n 2, 1) := by decide +kernel
theorem d_Wrapping_hasForm_33 : decode b_Wrapping_hasForm 33 = .ok (.if_icmp .ne 21, 3) := by decide +kernel
theorem d_Wrapping_hasForm_36 : decode b_Wrapping_hasForm 36 = .ok (.aload_n 1, 1) := by decide +kernel
theorem d_Wrapping_hasForm_37 : decode b_Wrapping_hasForm 37 = .ok (.iload_n 3, 1) := by decide +kernel
theorem d_Wrapping_hasForm_38 : decode b_Wrapping_hasForm 38 = .ok (.invokevirtual 50, 3) := by decide +kernel
theorem d_Wrapping_hasForm_41 : decode b_Wrapping_hasForm 41 = .ok (.bipush 46, 2) := by decide +kernel
theorem d_Wrapping_hasForm_43 : decode b_Wrapping_hasForm 43 = .ok (.if_icmp .ne 7, 3) := by decide +kernel
theorem d_Wrapping_hasForm_46 : decode b_Wrapping_hasForm 46 = .ok (.iconst 1, 1) := by decide +kernel
theorem d_Wrapping_hasForm_47 : decode b_Wrapping_hasForm 47 = .ok (.goto 20, 3) := by decide +kernel
theorem d_Wrapping_hasForm_50 : decode b_Wrapping_hasForm 50 = .ok (.iconst 0, 1) := by decide +kernel
theorem d_Wrapping_hasForm_51 : decode b_Wrapping_hasForm 51 = .ok (.goto 16, 3) := by decide +kernel
theorem d_Wrapping_hasForm_54 : decode b_Wrapping_hasForm 54 = .ok (.aload_n 1, 1) := by decide +kernel
theorem d_Wrapping_hasForm_55 : decode b_Wrapping_hasForm 55 = .ok (.iload_n 3, 1) := by decide +kernel
theorem d_Wrapping_hasForm_56 : decode b_Wrapping_hasForm 56 = .ok (.invokestatic 54, 3) := by decide +kernel
theorem d_Wrapping_hasForm_59 : decode b_Wrapping_hasForm 59 = .ok (.ifCond .lt 7, 3) := by decide +kernel
theorem d_Wrapping_hasForm_62 : decode b_Wrapping_hasForm 62 = .ok (.iconst 1, 1) := by decide +kernel
theorem d_Wrapping_hasForm_63 : decode b_Wrapping_hasForm 63 = .ok (.goto 4, 3) := by decide +kernel
theorem d_Wrapping_hasForm_66 : decode b_Wrapping_hasForm 66 = .ok (.iconst 0, 1) := by decide +kernel
theorem d_Wrapping_hasForm_67 : decode b_Wrapping_hasForm 67 = .ok (.istore 4, 2) := by decide +kernel
theorem d_Wrapping_hasForm_69 : decode b_Wrapping_hasForm 69 = .ok (.iload 4, 2) := by decide +kernel
theorem d_Wrapping_hasForm_71 : decode b_Wrapping_hasForm 71 = .ok (.ifCond .ne 5, 3) := by decide +kernel
theorem d_Wrapping_hasForm_74 : decode b_Wrapping_hasForm 74 = .ok (.iconst 0, 1) := by decide +kernel
theorem d_Wrapping_hasForm_75 : decode b_Wrapping_hasForm 75 = .ok (.ireturn, 1) := by decide +kernel
theorem d_Wrapping_hasForm_76 : decode b_Wrapping_hasForm 76 = .ok (.iinc 3 1, 3) := by decide +kernel
theorem d_Wrapping_hasForm_79 : decode b_Wrapping_hasForm 79 = .ok (.goto (-56), 3) := by decide +kernel
theorem d_Wrapping_hasForm_82 : decode b_Wrapping_hasForm 82 = .ok (.iload_n 2, 1) := by decide +kernel
theorem d_Wrapping_hasForm_83 : decode b_Wrapping_hasForm 83 = .ok (.bipush 6, 2) := by decide +kernel
theorem d_Wrapping_hasForm_85 : decode b_Wrapping_hasForm 85 = .ok (.imul, 1) := by decide +kernel
theorem d_Wrapping_hasForm_86 : decode b_Wrapping_hasForm 86 = .ok (.bipush 8, 2) := by decide +kernel
theorem d_Wrapping_hasForm_88 : decode b_Wrapping_hasForm 88 = .ok (.irem, 1) := by decide +kernel
theorem d_Wrapping_hasForm_89 : decode b_Wrapping_hasForm 89 = .ok (.istore_n 3, 1) := by decide +kernel
theorem d_Wrapping_hasForm_90 : decode b_Wrapping_hasForm 90 = .ok (.iload_n 3, 1) := by decide +kernel
theorem d_Wrapping_hasForm_91 : decode b_Wrapping_hasForm 91 = .ok (.ifCond .eq 19, 3) := by decide +kernel
theorem d_Wrapping_hasForm_94 : decode b_Wrapping_hasForm 94 = .ok (.aload_n 1, 1) := by decide +kernel
theorem d_Wrapping_hasForm_95 : decode b_Wrapping_hasForm 95 = .ok (.iload_n 2, 1) := by decide +kernel
theorem d_Wrapping_hasForm_96 : decode b_Wrapping_hasForm 96 = .ok (.iconst 1, 1) := by decide +kernel
theorem d_Wrapping_hasForm_97 : decode b_Wrapping_hasForm 97 = .ok (.isub, 1) := by decide +kernel
theorem d_Wrapping_hasForm_98 : decode b_Wrapping_hasForm 98 = .ok (.invokestatic 54, 3) := by decide +kernel
theorem d_Wrapping_hasForm_101 : decode b_Wrapping_hasForm 101 = .ok (.iconst 1, 1) := by decide +kernel
theorem d_Wrapping_hasForm_102 : decode b_Wrapping_hasForm 102 = .ok (.iload_n 3, 1) := by decide +kernel
theorem d_Wrapping_hasForm_103 : decode b_Wrapping_hasForm 103 = .ok (.ishl, 1) := by decide +kernel
theorem d_Wrapping_hasForm_104 : decode b_Wrapping_hasForm 104 = .ok (.iconst 1, 1) := by decide +kernel
theorem d_Wrapping_hasForm_105 : decode b_Wrapping_hasForm 105 = .ok (.isub, 1) := by decide +kernel
theorem d_Wrapping_hasForm_106 : decode b_Wrapping_hasForm 106 = .ok (.iand, 1) := by decide +kernel
theorem d_Wrapping_hasForm_107 : decode b_Wrapping_hasForm 107 = .ok (.ifCond .ne 7, 3) := by decide +kernel
theorem d_Wrapping_hasForm_110 : decode b_Wrapping_hasForm 110 = .ok (.iconst 1, 1) := by decide +kernel
theorem d_Wrapping_hasForm_111 : decode b_Wrapping_hasForm 111 = .ok (.goto 4, 3) := by decide +kernel
theorem d_Wrapping_hasForm_114 : decode b_Wrapping_hasForm 114 = .ok (.iconst 0, 1) := by decide +kernel
theorem d_Wrapping_hasForm_115 : decode b_Wrapping_hasForm 115 = .ok (.ireturn, 1) := by decide +kernel
set_option maxRecDepth 20000 in
theorem fl_GrantServer_66 : hm_fl vwCl TB R_GrantServer 66 0 11 true (.object "GrantServer$Wrapping") := ⟨_, _, _, _, cl_GrantServer, by decide, (TBm 186 (by decide +kernel) rfl), rfl, rfl⟩
set_option maxRecDepth 20000 in
theorem me_GrantServer_shelfOf : hm_meV y_GrantServer_shelfOf b_GrantServer_shelfOf 2 (some (.object "GrantServer$Shelf")) 1 := ⟨⟨(TBm 474 rfl rfl), (TBm 40 (by decide +kernel) rfl), by decide +kernel⟩, (TBm 473 (by decide +kernel) rfl), (TBm 7 (by decide +kernel) rfl)⟩
set_option maxRecDepth 20000 in
theorem me_Shelf_activeRows : hm_meV y_Shelf_activeRows b_Shelf_activeRows 4 (some .int) 1 := ⟨⟨(TBm 459 rfl rfl), (TBm 41 (by decide +kernel) rfl), by decide +kernel⟩, (TBm 457 (by decide +kernel) rfl), (TBm 458 (by decide +kernel) rfl)⟩
set_option maxRecDepth 20000 in
theorem me_Shelf_dropEnded : hm_meV y_Shelf_dropEnded b_Shelf_dropEnded 4 (some .int) 1 := ⟨⟨(TBm 667 rfl rfl), (TBm 41 (by decide +kernel) rfl), by decide +kernel⟩, (TBm 665 (by decide +kernel) rfl), (TBm 666 (by decide +kernel) rfl)⟩
set_option maxRecDepth 20000 in
theorem me_Shelf_hasActive : hm_meV y_Shelf_hasActive b_Shelf_hasActive 4 (some .boolean) 2 := ⟨⟨(TBm 478 rfl rfl), (TBm 41 (by decide +kernel) rfl), by decide +kernel⟩, (TBm 476 (by decide +kernel) rfl), (TBm 477 (by decide +kernel) rfl)⟩
set_option maxRecDepth 20000 in
theorem me_Shelf_rows : hm_meV y_Shelf_rows b_Shelf_rows 1 (some .int) 0 := ⟨⟨(TBm 679 rfl rfl), (TBm 41 (by decide +kernel) rfl), by decide +kernel⟩, (TBm 677 (by decide +kernel) rfl), (TBm 678 (by decide +kernel) rfl)⟩
set_option maxRecDepth 20000 in
theorem me_Wrapping_hasForm : hm_meV y_Wrapping_hasForm b_Wrapping_hasForm 5 (some .boolean) 1 := ⟨⟨(TBm 486 rfl rfl), (TBm 45 (by decide +kernel) rfl), by decide +kernel⟩, (TBm 484 (by decide +kernel) rfl), (TBm 485 (by decide +kernel) rfl)⟩
set_option maxRecDepth 20000 in
theorem me_Wrapping_sizeOfWrapped : hm_meV y_Wrapping_sizeOfWrapped b_Wrapping_sizeOfWrapped 2 (some .int) 1 := ⟨⟨(TBm 655 rfl rfl), (TBm 45 (by decide +kernel) rfl), by decide +kernel⟩, (TBm 653 (by decide +kernel) rfl), (TBm 654 (by decide +kernel) rfl)⟩
set_option maxRecDepth 20000 in
theorem me_Wrapping_wrapInto : hm_meV y_Wrapping_wrapInto b_Wrapping_wrapInto 7 none 2 := ⟨⟨(TBm 415 rfl rfl), (TBm 45 (by decide +kernel) rfl), by decide +kernel⟩, (TBm 413 (by decide +kernel) rfl), (TBm 414 (by decide +kernel) rfl)⟩
set_option maxRecDepth 20000 in
theorem wl_GrantServer_178 : Cond.methodLink R_GrantServer 178 y_GrantServer_shelfOf ∈ TB := TBm 471 (by decide +kernel) rfl
set_option maxRecDepth 20000 in
theorem wl_GrantServer_182 : Cond.methodLink R_GrantServer 182 y_Shelf_hasActive ∈ TB := TBm 475 (by decide +kernel) rfl
set_option maxRecDepth 20000 in
theorem wl_GrantServer_185 : Cond.methodLink R_GrantServer 185 y_Wrapping_hasForm ∈ TB := TBm 483 (by decide +kernel) rfl
set_option maxRecDepth 20000 in
theorem wl_GrantServer_227 : Cond.methodLink R_GrantServer 227 y_Wrapping_sizeOfWrapped ∈ TB := TBm 652 (by decide +kernel) rfl
set_option maxRecDepth 20000 in
theorem wl_GrantServer_231 : Cond.methodLink R_GrantServer 231 y_Wrapping_wrapInto ∈ TB := TBm 412 (by decide +kernel) rfl
set_option maxRecDepth 20000 in
theorem wl_GrantServer_234 : Cond.methodLink R_GrantServer 234 y_Shelf_dropEnded ∈ TB := TBm 664 (by decide +kernel) rfl
set_option maxRecDepth 20000 in
theorem wl_GrantServer_237 : Cond.methodLink R_GrantServer 237 y_Shelf_activeRows ∈ TB := TBm 456 (by decide +kernel) rfl
set_option maxRecDepth 20000 in
theorem wl_GrantServer_240 : Cond.methodLink R_GrantServer 240 y_Shelf_rows ∈ TB := TBm 676 (by decide +kernel) rfl
set_option maxHeartbeats 4000000 in
set_option maxRecDepth 100000 in
theorem c_hasForm_short (l : Launch) (D : va_G) (k : Nat → ClassId) (f : hm) (h : Nat) (t : Nat) (a : Nat) (n : Nat) (ht : f t = some (.inr (5, [.ref a, .int (nI n)]))) (hn : n < 11) : hm_Mi l D vwCl (tyL k) y_Wrapping_hasForm (Cond.code y_Wrapping_hasForm b_Wrapping_hasForm 5 (some .boolean) :: TB) ({ frames := 1, cells := 0, slots := 0, locals := 20 }) [.ref h, .ref t] f (fun (r : Int32) (f1 : hm) => 0 = r ∧ f = f1) 0 0 := by
  refine hm_enter (Qc := fun sz => va_Qi _ (hm_R D vwCl (tyL k) f sz) (hm_A f sz)) (by decide) rfl (Nat.le_of_ble_eq_true rfl) ?_
  intro p e s m below meth cd ls X0 hr hlk hin hK hM hS hA hl Q hQ
  have X : CallFix p m cd b_Wrapping_hasForm 5 s ([.ref h, .ref t] : List Value).toArray TB R_Wrapping := ⟨X0.1, X0.2.1, X0.2.2.1, X0.2.2.2.1, fun w h => X0.2.2.2.2 w (List.mem_cons_of_mem _ h)⟩
  have hx := X.1; have hb := X.2.1; have hml := X.2.2.1; have hown := X.2.2.2.1; have hts := X.2.2.2.2
  have hl : lv_has ls 5 [(0, .ref h), (1, .ref t)] := hl
  refine lv_aload_n hx hb d_Wrapping_hasForm_0 rfl (lv_at hl 1 rfl) ?_
  refine hm_calli hS hM hA (va_runV (As := []) (rest := []) X (c_Text_size l D k f t a (nI n) ht  s.heap.size) (hm_cwV hts me_Text_size wl_Wrapping_46 rfl rfl ⟨Nat.le_of_ble_eq_true rfl, Nat.le_of_ble_eq_true rfl⟩) (hm_preV hM hK ht rfl) rfl rfl hl.1 rfl (lv_room (Nat.le_of_ble_eq_true rfl)) d_Wrapping_hasForm_1 ⟨Nat.le_of_ble_eq_true rfl, Nat.le_of_ble_eq_true rfl⟩) (fun r3 f1 H locs p2 hM hS => ?_)
  obtain ⟨rfl, rfl⟩ := p2
  refine lv_bipush (v := 11) hx hb d_Wrapping_hasForm_4 (by decide) ?_
  refine lv_isub hx hb d_Wrapping_hasForm_6 ?_
  refine lv_istore_n (lv' := [(2, .int ((nI n) - 11)), (0, .ref h), (1, .ref t)]) hx hb d_Wrapping_hasForm_7 rfl hl (by decide) rfl (fun ls hl => ?_)
  refine lv_iload_n hx hb d_Wrapping_hasForm_8 rfl (lv_at hl 0 rfl) ?_
  refine lv_if_lt (tgt := 19) hx hb d_Wrapping_hasForm_9 (by decide) (fun h4 => ?_) (fun h4 => ?_)
  · refine lv_iconst (v := 0) hx hb d_Wrapping_hasForm_19 (by decide) ?_
    exact hm_zret X hQ hr hlk hK hM hS rfl d_Wrapping_hasForm_20 ⟨rfl, rfl⟩
  · exact absurd (pk_sneg (b := 11) (by decide) hn) h4
set_option maxHeartbeats 4000000 in
set_option maxRecDepth 100000 in
theorem c_check_short (l : Launch) (D : va_G) (k : Nat → ClassId) (f : hm) (h : Nat) (u : Nat → Int32) (ad : Nat → Nat) (n : Nat) (x : Nat → Int32) (ky : Int32) (a : Int32) (b : Int32) (hh : f h = some (.inr (0, gsV u ad))) (ht0 : f (ad 7) = some (.inr (5, [.ref (ad 17), .int (nI n)]))) (ha0 : f (ad 17) = some (.inl (k 2, 120, .inl x))) (hw : f (ad 11) = some (.inr (6, [.int ky]))) (hn : n < 11) : hm_Mi l D vwCl (tyL k) y_GrantServer_check (Cond.code y_GrantServer_check b_GrantServer_check 3 (some .int) :: TB) ({ frames := 2, cells := 0, slots := 0, locals := 44 }) [.ref h, .int a, .int b] f (fun (r : Int32) (f1 : hm) => (-7) = r ∧ f = f1) 0 0 := by
  refine hm_enter (Qc := fun sz => va_Qi _ (hm_R D vwCl (tyL k) f sz) (hm_A f sz)) (by decide) rfl (Nat.le_of_ble_eq_true rfl) ?_
  intro p e s m below meth cd ls X0 hr hlk hin hK hM hS hA hl Q hQ
  have X : CallFix p m cd b_GrantServer_check 3 s ([.ref h, .int a, .int b] : List Value).toArray TB R_GrantServer := ⟨X0.1, X0.2.1, X0.2.2.1, X0.2.2.2.1, fun w h => X0.2.2.2.2 w (List.mem_cons_of_mem _ h)⟩
  have hx := X.1; have hb := X.2.1; have hml := X.2.2.1; have hown := X.2.2.2.1; have hts := X.2.2.2.2
  have hl : lv_has ls 3 [(0, .ref h), (1, .int a), (2, .int b)] := hl
  refine lv_aload_n hx hb d_GrantServer_check_0 rfl (lv_at hl 0 rfl) ?_
  refine hm_get X hK hM hh fl_GrantServer_66 (v := .ref (ad 11)) rfl d_GrantServer_check_1 ?_
  refine lv_aload_n hx hb d_GrantServer_check_4 rfl (lv_at hl 0 rfl) ?_
  refine hm_get X hK hM hh fl_GrantServer_33 (v := .ref (ad 7)) rfl d_GrantServer_check_5 ?_
  refine hm_calli hS hM hA (va_runV (As := [.ref (ad 7)]) (rest := []) X (c_hasForm_short l D k f (ad 11) (ad 7) (ad 17) n ht0 hn s.heap.size) (hm_cwV hts me_Wrapping_hasForm wl_GrantServer_185 rfl rfl ⟨Nat.le_of_ble_eq_true rfl, Nat.le_of_ble_eq_true rfl⟩) (hm_preV hM hK hw rfl) rfl rfl hl.1 rfl (lv_room (Nat.le_of_ble_eq_true rfl)) d_GrantServer_check_8 ⟨Nat.le_of_ble_eq_true rfl, Nat.le_of_ble_eq_true rfl⟩) (fun r3 f1 H locs p2 hM hS => ?_)
  obtain ⟨rfl, rfl⟩ := p2
  refine lv_if_ne (tgt := 17) hx hb d_GrantServer_check_11 (by decide) (fun h4 => ?_) (fun h4 => ?_)
  · exact absurd h4 (by decide)
  · refine lv_bipush (v := (-7)) hx hb d_GrantServer_check_14 (by decide) ?_
    exact hm_iret X hQ hr hlk hK hM hS d_GrantServer_check_16 ⟨rfl, rfl⟩
set_option maxHeartbeats 4000000 in
set_option maxRecDepth 100000 in
theorem c_wrap_no (l : Launch) (D : va_G) (k : Nat → ClassId) (f : hm) (h : Nat) (u : Nat → Int32) (ad : Nat → Nat) (n : Nat) (x : Nat → Int32) (ky : Int32) (hh : f h = some (.inr (0, gsV u ad))) (ht0 : f (ad 7) = some (.inr (5, [.ref (ad 17), .int (nI n)]))) (ha0 : f (ad 17) = some (.inl (k 2, 120, .inl x))) (hw : f (ad 11) = some (.inr (6, [.int ky]))) (hn : n ≤ 120) (hs : 120 < (n * 8 + 5) / 6 + 11) : hm_Mi l D vwCl (tyL k) y_GrantServer_wrap (Cond.code y_GrantServer_wrap b_GrantServer_wrap 1 (some .int) :: TB) ({ frames := 3, cells := 0, slots := 0, locals := 61 }) [.ref h] f (fun (r : Int32) (f1 : hm) => (-1) = r ∧ f = f1) 0 0 := by
  refine hm_enter (Qc := fun sz => va_Qi _ (hm_R D vwCl (tyL k) f sz) (hm_A f sz)) (by decide) rfl (Nat.le_of_ble_eq_true rfl) ?_
  intro p e s m below meth cd ls X0 hr hlk hin hK hM hS hA hl Q hQ
  have X : CallFix p m cd b_GrantServer_wrap 1 s ([.ref h] : List Value).toArray TB R_GrantServer := ⟨X0.1, X0.2.1, X0.2.2.1, X0.2.2.2.1, fun w h => X0.2.2.2.2 w (List.mem_cons_of_mem _ h)⟩
  have hx := X.1; have hb := X.2.1; have hml := X.2.2.1; have hown := X.2.2.2.1; have hts := X.2.2.2.2
  have hl : lv_has ls 1 [(0, .ref h)] := hl
  refine lv_aload_n hx hb d_GrantServer_wrap_0 rfl (lv_at hl 0 rfl) ?_
  refine hm_get X hK hM hh fl_GrantServer_66 (v := .ref (ad 11)) rfl d_GrantServer_wrap_1 ?_
  refine lv_aload_n hx hb d_GrantServer_wrap_4 rfl (lv_at hl 0 rfl) ?_
  refine hm_get X hK hM hh fl_GrantServer_33 (v := .ref (ad 7)) rfl d_GrantServer_wrap_5 ?_
  refine hm_calli hS hM hA (va_runV (As := [.ref (ad 7)]) (rest := []) X (c_sizeOfWrapped l D k f (ad 11) (ad 7) (ad 17) n ht0 hn s.heap.size) (hm_cwV hts me_Wrapping_sizeOfWrapped wl_GrantServer_227 rfl rfl ⟨Nat.le_of_ble_eq_true rfl, Nat.le_of_ble_eq_true rfl⟩) (hm_preV hM hK hw rfl) rfl rfl hl.1 rfl (lv_room (Nat.le_of_ble_eq_true rfl)) d_GrantServer_wrap_8 ⟨Nat.le_of_ble_eq_true rfl, Nat.le_of_ble_eq_true rfl⟩) (fun r3 f1 H locs p2 hM hS => ?_)
  obtain ⟨rfl, rfl⟩ := p2
  refine lv_bipush (v := 120) hx hb d_GrantServer_wrap_11 (by decide) ?_
  refine lv_icmp_le (tgt := 18) hx hb d_GrantServer_wrap_13 (by decide) (fun h4 => ?_) (fun h4 => ?_)
  · exact absurd ((nI_leI (b := 120) (by omega) (by decide)).mp h4) (by omega)
  · refine lv_iconst (v := (-1)) hx hb d_GrantServer_wrap_16 (by decide) ?_
    exact hm_iret X hQ hr hlk hK hM hS d_GrantServer_wrap_17 ⟨rfl, rfl⟩
set_option maxHeartbeats 4000000 in
set_option maxRecDepth 100000 in
theorem c_wrap (l : Launch) (D : va_G) (k : Nat → ClassId) (sA sV : Nat → Nat) (f : hm) (h : Nat) (u : Nat → Int32) (ad : Nat → Nat) (n : Nat) (x : Nat → Int32) (ch : Nat → Nat) (n2 : Int32) (y : Nat → Int32) (ky : Int32) (hh : f h = some (.inr (0, gsV u ad))) (ht0 : f (ad 7) = some (.inr (5, [.ref (ad 17), .int (nI n)]))) (ha0 : f (ad 17) = some (.inl (k 2, 120, .inl x))) (ht1 : f (ad 8) = some (.inr (5, [.ref (ad 18), .int n2]))) (ha1 : f (ad 18) = some (.inl (k 2, 120, .inl y))) (hw : f (ad 11) = some (.inr (6, [.int ky]))) (hap : gs_ap ad) (hn : n ≤ 120) (hx9 : ∀ j, j < n → x j = nI (ch j) ∧ ch j < 256) (hs : (n * 8 + 5) / 6 + 11 ≤ 120) : hm_MiZ l sA sV D vwCl (tyL k) y_GrantServer_wrap (Cond.code y_GrantServer_wrap b_GrantServer_wrap 1 (some .int) :: TB) ({ frames := 6, cells := 0, slots := 0, locals := 133 }) [.ref h] f (fun (r : Int32) (f1 : hm) => ∃ (y2 : Nat → Int32), nI ((n * 8 + 5) / 6 + 11) = r ∧ (∀ i, i < (n * 8 + 5) / 6 → y2 i = nI (st_chr 6 (z_six n ch i))) ∧ (y2 ((n * 8 + 5) / 6) = 46) ∧ (∀ i, i < 10 → y2 ((n * 8 + 5) / 6 + 1 + i) = nI (st_chr 6 (z_ss (z_seal ky.toInt64 y2 ((n * 8 + 5) / 6)) i))) ∧ f1 (ad 8) = some (.inr (5, [.ref (ad 18), .int (nI ((n * 8 + 5) / 6 + 11))])) ∧ f1 (ad 18) = some (.inl (k 2, 120, .inl y2)) ∧ ∀ (zq : Nat) (zx : va_E), zq ≠ (ad 8) → zq ≠ (ad 18) → f zq = some zx → f1 zq = some zx) 0 0 := by
  refine hm_enterZ (Qc := fun sz => va_Qi _ (hm_R D vwCl (tyL k) f sz) (hm_A f sz)) (by decide) rfl (Nat.le_of_ble_eq_true rfl) ?_
  intro p e s m below meth cd ls hZ X0 hr hlk hin hK hM hS hA hl Q hQ
  have X : CallFix p m cd b_GrantServer_wrap 1 s ([.ref h] : List Value).toArray TB R_GrantServer := ⟨X0.1, X0.2.1, X0.2.2.1, X0.2.2.2.1, fun w h => X0.2.2.2.2 w (List.mem_cons_of_mem _ h)⟩
  have hx := X.1; have hb := X.2.1; have hml := X.2.2.1; have hown := X.2.2.2.1; have hts := X.2.2.2.2
  have hl : lv_has ls 1 [(0, .ref h)] := hl
  refine lv_aload_n hx hb d_GrantServer_wrap_0 rfl (lv_at hl 0 rfl) ?_
  refine hm_get X hK hM hh fl_GrantServer_66 (v := .ref (ad 11)) rfl d_GrantServer_wrap_1 ?_
  refine lv_aload_n hx hb d_GrantServer_wrap_4 rfl (lv_at hl 0 rfl) ?_
  refine hm_get X hK hM hh fl_GrantServer_33 (v := .ref (ad 7)) rfl d_GrantServer_wrap_5 ?_
  refine hm_calli hS hM hA (va_runV (As := [.ref (ad 7)]) (rest := []) X (c_sizeOfWrapped l D k f (ad 11) (ad 7) (ad 17) n ht0 hn s.heap.size) (hm_cwV hts me_Wrapping_sizeOfWrapped wl_GrantServer_227 rfl rfl ⟨Nat.le_of_ble_eq_true rfl, Nat.le_of_ble_eq_true rfl⟩) (hm_preV hM hK hw rfl) rfl rfl hl.1 rfl (lv_room (Nat.le_of_ble_eq_true rfl)) d_GrantServer_wrap_8 ⟨Nat.le_of_ble_eq_true rfl, Nat.le_of_ble_eq_true rfl⟩) (fun r3 f1 H locs p2 hM hS => ?_)
  obtain ⟨rfl, rfl⟩ := p2
  refine lv_bipush (v := 120) hx hb d_GrantServer_wrap_11 (by decide) ?_
  refine lv_icmp_le (tgt := 18) hx hb d_GrantServer_wrap_13 (by decide) (fun h4 => ?_) (fun h4 => ?_)
  · refine lv_aload_n hx hb d_GrantServer_wrap_18 rfl (lv_at hl 0 rfl) ?_
    refine hm_get X hK hM hh fl_GrantServer_66 (v := .ref (ad 11)) rfl d_GrantServer_wrap_19 ?_
    refine lv_aload_n hx hb d_GrantServer_wrap_22 rfl (lv_at hl 0 rfl) ?_
    refine hm_get X hK hM hh fl_GrantServer_33 (v := .ref (ad 7)) rfl d_GrantServer_wrap_23 ?_
    refine lv_aload_n hx hb d_GrantServer_wrap_26 rfl (lv_at hl 0 rfl) ?_
    refine hm_get X hK hM hh fl_GrantServer_37 (v := .ref (ad 8)) rfl d_GrantServer_wrap_27 ?_
    refine hm_callv hS hM hA (va_runV (As := [.ref (ad 7), .ref (ad 8)]) (rest := []) X (c_wrapInto l D k sA sV f (ad 11) ky (ad 7) (ad 17) n x ch (ad 8) (ad 18) n2 y hw ht0 ha0 ht1 ha1 hn hx9 hs (fun z => absurd (hap 7 8 (by decide) (by decide) rfl rfl z) (by decide)) (fun z => absurd (hap 17 18 (by decide) (by decide) rfl rfl z) (by decide)) H.size) (hm_cwV hts me_Wrapping_wrapInto wl_GrantServer_231 rfl rfl ⟨Nat.le_of_ble_eq_true rfl, Nat.le_of_ble_eq_true rfl⟩) (hm_preVZ hZ hS hA hM hK hw rfl) rfl rfl hl.1 rfl (lv_room (Nat.le_of_ble_eq_true rfl)) d_GrantServer_wrap_30 ⟨Nat.le_of_ble_eq_true rfl, Nat.le_of_ble_eq_true rfl⟩) (fun f5 H locs p6 hM hS => ?_)
    obtain ⟨x7, h8, h9, h10, g11, g12, hfr13⟩ := p6
    refine lv_aload_n hx hb d_GrantServer_wrap_33 rfl (lv_at hl 0 rfl) ?_
    have g14 : f5 h = some (.inr (0, gsV u ad)) := hfr13 _ _ (hm_neI hh ht1 (by decide)) (hm_neA hh ha1) hh
    refine hm_get X hK hM g14 fl_GrantServer_37 (v := .ref (ad 8)) rfl d_GrantServer_wrap_34 ?_
    have g15 : f5 (ad 7) = some (.inr (5, [.ref (ad 17), .int (nI n)])) := hfr13 _ _ (fun z => absurd (hap 7 8 (by decide) (by decide) rfl rfl z) (by decide)) (fun z => absurd (hap 7 18 (by decide) (by decide) rfl rfl z) (by decide)) ht0
    have g16 : f5 (ad 17) = some (.inl (k 2, 120, .inl x)) := hfr13 _ _ (fun z => absurd (hap 17 8 (by decide) (by decide) rfl rfl z) (by decide)) (fun z => absurd (hap 17 18 (by decide) (by decide) rfl rfl z) (by decide)) ha0
    have g17 : f5 (ad 11) = some (.inr (6, [.int ky])) := hfr13 _ _ (fun z => absurd (hap 11 8 (by decide) (by decide) rfl rfl z) (by decide)) (fun z => absurd (hap 11 18 (by decide) (by decide) rfl rfl z) (by decide)) hw
    refine hm_calli hS hM hA (va_runV (As := []) (rest := []) X (c_Text_size l D k f5 (ad 8) (ad 18) (nI ((n * 8 + 5) / 6 + 11)) g11  H.size) (hm_cwV hts me_Text_size wl_GrantServer_221 rfl rfl ⟨Nat.le_of_ble_eq_true rfl, Nat.le_of_ble_eq_true rfl⟩) (hm_preV hM hK g11 rfl) rfl rfl hl.1 rfl (lv_room (Nat.le_of_ble_eq_true rfl)) d_GrantServer_wrap_37 ⟨Nat.le_of_ble_eq_true rfl, Nat.le_of_ble_eq_true rfl⟩) (fun r20 f18 H locs p19 hM hS => ?_)
    obtain ⟨rfl, rfl⟩ := p19
    exact hm_iret X hQ hr hlk hK hM hS d_GrantServer_wrap_40 ⟨x7, rfl, h8, h9, h10, g11, g12, (fun zq zx n0 n1 hq => by have t0 := hq; have t1 := hfr13 _ _ n0 n1 t0; exact t1)⟩
  · exact absurd (nI_le (b := 120) hs (by decide)) h4
set_option maxHeartbeats 4000000 in
set_option maxRecDepth 100000 in
theorem c_active_out (l : Launch) (D : va_G) (k : Nat → ClassId) (f : hm) (h : Nat) (u : Nat → Int32) (ad : Nat → Nat) (x : Int32) (y : Int32) (hh : f h = some (.inr (0, gsV u ad))) (hx9 : ¬ x = 0 ∧ ¬ x = 1 ∧ ¬ x = 2) : hm_Mi l D vwCl (tyL k) y_GrantServer_active (Cond.code y_GrantServer_active b_GrantServer_active 4 (some .boolean) :: TB) ({ frames := 1, cells := 0, slots := 0, locals := 21 }) [.ref h, .int x, .int y] f (fun (r : Int32) (f1 : hm) => 0 = r ∧ f = f1) 0 0 := by
  refine hm_enter (Qc := fun sz => va_Qi _ (hm_R D vwCl (tyL k) f sz) (hm_A f sz)) (by decide) rfl (Nat.le_of_ble_eq_true rfl) ?_
  intro p e s m below meth cd ls X0 hr hlk hin hK hM hS hA hl Q hQ
  have X : CallFix p m cd b_GrantServer_active 4 s ([.ref h, .int x, .int y] : List Value).toArray TB R_GrantServer := ⟨X0.1, X0.2.1, X0.2.2.1, X0.2.2.2.1, fun w h => X0.2.2.2.2 w (List.mem_cons_of_mem _ h)⟩
  have hx := X.1; have hb := X.2.1; have hml := X.2.2.1; have hown := X.2.2.2.1; have hts := X.2.2.2.2
  have hl : lv_has ls 4 [(0, .ref h), (1, .int x), (2, .int y)] := hl
  refine lv_aload_n hx hb d_GrantServer_active_0 rfl (lv_at hl 0 rfl) ?_
  refine lv_iload_n hx hb d_GrantServer_active_1 rfl (lv_at hl 1 rfl) ?_
  refine hm_callq hS hM hA (va_runV (As := [.int x]) (rest := []) X (c_shelfOf l D k f h u ad x hh  s.heap.size) (hm_cwV hts me_GrantServer_shelfOf wl_GrantServer_178 rfl rfl ⟨Nat.le_of_ble_eq_true rfl, Nat.le_of_ble_eq_true rfl⟩) (hm_preV hM hK hh rfl) rfl rfl hl.1 rfl (lv_room (Nat.le_of_ble_eq_true rfl)) d_GrantServer_active_2 ⟨Nat.le_of_ble_eq_true rfl, Nat.le_of_ble_eq_true rfl⟩) (fun r3 f1 H locs p2 hM hS => ?_)
  obtain ⟨rfl, rfl⟩ := p2
  refine hm_topq (show z_shelf ad x = none by simp [z_shelf, hx9]) ?_
  refine lv_astore_nN (lv' := [(3, .null), (0, .ref h), (1, .int x), (2, .int y)]) hx hb d_GrantServer_active_5 rfl hl (by decide) rfl (fun ls hl => ?_)
  refine lv_aload_nN hx hb d_GrantServer_active_6 rfl (lv_at hl 0 rfl) ?_
  refine lv_ifnullN (tgt := 26) hx hb d_GrantServer_active_7 (by decide) ?_
  refine lv_iconst (v := 0) hx hb d_GrantServer_active_26 (by decide) ?_
  exact hm_zret X hQ hr hlk hK hM hS rfl d_GrantServer_active_27 ⟨rfl, rfl⟩
set_option maxHeartbeats 4000000 in
set_option maxRecDepth 100000 in
theorem c_count_out (l : Launch) (D : va_G) (k : Nat → ClassId) (f : hm) (h : Nat) (u : Nat → Int32) (ad : Nat → Nat) (x : Int32) (y : Int32) (hh : f h = some (.inr (0, gsV u ad))) (hx9 : ¬ x = 0 ∧ ¬ x = 1 ∧ ¬ x = 2) : hm_Mi l D vwCl (tyL k) y_GrantServer_count (Cond.code y_GrantServer_count b_GrantServer_count 4 (some .int) :: TB) ({ frames := 1, cells := 0, slots := 0, locals := 21 }) [.ref h, .int x, .int y] f (fun (r : Int32) (f1 : hm) => (-1) = r ∧ f = f1) 0 0 := by
  refine hm_enter (Qc := fun sz => va_Qi _ (hm_R D vwCl (tyL k) f sz) (hm_A f sz)) (by decide) rfl (Nat.le_of_ble_eq_true rfl) ?_
  intro p e s m below meth cd ls X0 hr hlk hin hK hM hS hA hl Q hQ
  have X : CallFix p m cd b_GrantServer_count 4 s ([.ref h, .int x, .int y] : List Value).toArray TB R_GrantServer := ⟨X0.1, X0.2.1, X0.2.2.1, X0.2.2.2.1, fun w h => X0.2.2.2.2 w (List.mem_cons_of_mem _ h)⟩
  have hx := X.1; have hb := X.2.1; have hml := X.2.2.1; have hown := X.2.2.2.1; have hts := X.2.2.2.2
  have hl : lv_has ls 4 [(0, .ref h), (1, .int x), (2, .int y)] := hl
  refine lv_aload_n hx hb d_GrantServer_count_0 rfl (lv_at hl 0 rfl) ?_
  refine lv_iload_n hx hb d_GrantServer_count_1 rfl (lv_at hl 1 rfl) ?_
  refine hm_callq hS hM hA (va_runV (As := [.int x]) (rest := []) X (c_shelfOf l D k f h u ad x hh  s.heap.size) (hm_cwV hts me_GrantServer_shelfOf wl_GrantServer_178 rfl rfl ⟨Nat.le_of_ble_eq_true rfl, Nat.le_of_ble_eq_true rfl⟩) (hm_preV hM hK hh rfl) rfl rfl hl.1 rfl (lv_room (Nat.le_of_ble_eq_true rfl)) d_GrantServer_count_2 ⟨Nat.le_of_ble_eq_true rfl, Nat.le_of_ble_eq_true rfl⟩) (fun r3 f1 H locs p2 hM hS => ?_)
  obtain ⟨rfl, rfl⟩ := p2
  refine hm_topq (show z_shelf ad x = none by simp [z_shelf, hx9]) ?_
  refine lv_astore_nN (lv' := [(3, .null), (0, .ref h), (1, .int x), (2, .int y)]) hx hb d_GrantServer_count_5 rfl hl (by decide) rfl (fun ls hl => ?_)
  refine lv_aload_nN hx hb d_GrantServer_count_6 rfl (lv_at hl 0 rfl) ?_
  refine lv_ifnonnullN hx hb d_GrantServer_count_7 ?_
  refine lv_iconst (v := (-1)) hx hb d_GrantServer_count_10 (by decide) ?_
  exact hm_iret X hQ hr hlk hK hM hS d_GrantServer_count_11 ⟨rfl, rfl⟩
set_option maxHeartbeats 4000000 in
set_option maxRecDepth 100000 in
theorem c_active_no0 (l : Launch) (D : va_G) (k : Nat → ClassId) (f : hm) (h : Nat) (u : Nat → Int32) (ad : Nat → Nat) (us : Nat → Nat) (g : Nat → Nat → Option Nat) (w : Nat → Nat → Nat → Int32) (m1 : Nat → Nat → Option Nat) (x : Int32) (y : Int32) (hh : f h = some (.inr (0, gsV u ad))) (hs0 : f (ad 4) = some (.inr (4, [.ref (ad 14), .int (nI (us 0))]))) (hr0 : f (ad 14) = some (.inl (k 3, 16, .inr (.inr (.inr (.inr (g 0))))))) (hx9 : x = 0) (hu : us 0 ≤ 16) (hrows : ∀ i, i < us 0 → ∃ q, g 0 i = some q ∧ f q = some (.inr (3, gV (w 0 i) (m1 0 i)))) (hfi : z_fi (w 0) y (us 0) 0 = none) : hm_Mi l D vwCl (tyL k) y_GrantServer_active (Cond.code y_GrantServer_active b_GrantServer_active 4 (some .boolean) :: TB) ({ frames := 2, cells := 0, slots := 0, locals := 45 }) [.ref h, .int x, .int y] f (fun (r : Int32) (f1 : hm) => 0 = r ∧ f = f1) 0 0 := by
  refine hm_enter (Qc := fun sz => va_Qi _ (hm_R D vwCl (tyL k) f sz) (hm_A f sz)) (by decide) rfl (Nat.le_of_ble_eq_true rfl) ?_
  intro p e s m below meth cd ls X0 hr hlk hin hK hM hS hA hl Q hQ
  have X : CallFix p m cd b_GrantServer_active 4 s ([.ref h, .int x, .int y] : List Value).toArray TB R_GrantServer := ⟨X0.1, X0.2.1, X0.2.2.1, X0.2.2.2.1, fun w h => X0.2.2.2.2 w (List.mem_cons_of_mem _ h)⟩
  have hx := X.1; have hb := X.2.1; have hml := X.2.2.1; have hown := X.2.2.2.1; have hts := X.2.2.2.2
  have hl : lv_has ls 4 [(0, .ref h), (1, .int x), (2, .int y)] := hl
  refine lv_aload_n hx hb d_GrantServer_active_0 rfl (lv_at hl 0 rfl) ?_
  refine lv_iload_n hx hb d_GrantServer_active_1 rfl (lv_at hl 1 rfl) ?_
  refine hm_callq hS hM hA (va_runV (As := [.int x]) (rest := []) X (c_shelfOf l D k f h u ad x hh  s.heap.size) (hm_cwV hts me_GrantServer_shelfOf wl_GrantServer_178 rfl rfl ⟨Nat.le_of_ble_eq_true rfl, Nat.le_of_ble_eq_true rfl⟩) (hm_preV hM hK hh rfl) rfl rfl hl.1 rfl (lv_room (Nat.le_of_ble_eq_true rfl)) d_GrantServer_active_2 ⟨Nat.le_of_ble_eq_true rfl, Nat.le_of_ble_eq_true rfl⟩) (fun r3 f1 H locs p2 hM hS => ?_)
  obtain ⟨rfl, rfl⟩ := p2
  refine hm_topq (show z_shelf ad x = some (ad 4) by simp [z_shelf, hx9]) ?_
  refine lv_astore_n (lv' := [(3, .ref (ad 4)), (0, .ref h), (1, .int x), (2, .int y)]) hx hb d_GrantServer_active_5 rfl hl (by decide) rfl (fun ls hl => ?_)
  refine lv_aload_n hx hb d_GrantServer_active_6 rfl (lv_at hl 0 rfl) ?_
  refine lv_ifnull hx hb d_GrantServer_active_7 ?_
  refine lv_aload_n hx hb d_GrantServer_active_10 rfl (lv_at hl 0 rfl) ?_
  refine lv_iload_n hx hb d_GrantServer_active_11 rfl (lv_at hl 3 rfl) ?_
  refine lv_aload_n hx hb d_GrantServer_active_12 rfl (lv_at hl 1 rfl) ?_
  refine hm_get X hK hM hh fl_GrantServer_60 (v := .int (u 15)) rfl d_GrantServer_active_13 ?_
  refine hm_calli hS hM hA (va_runV (As := [.int y, .int (u 15)]) (rest := []) X (c_hasActive_no l D k f (ad 4) (ad 14) 16 (us 0) (g 0) (w 0) (m1 0) y (u 15) hs0 hr0 hu (by decide) hrows hfi H.size) (hm_cwV hts me_Shelf_hasActive wl_GrantServer_182 rfl rfl ⟨Nat.le_of_ble_eq_true rfl, Nat.le_of_ble_eq_true rfl⟩) (hm_preV hM hK hs0 rfl) rfl rfl hl.1 rfl (lv_room (Nat.le_of_ble_eq_true rfl)) d_GrantServer_active_16 ⟨Nat.le_of_ble_eq_true rfl, Nat.le_of_ble_eq_true rfl⟩) (fun r6 f4 H locs p5 hM hS => ?_)
  obtain ⟨rfl, rfl⟩ := p5
  refine lv_if_eq (tgt := 26) hx hb d_GrantServer_active_19 (by decide) (fun h7 => ?_) (fun h7 => ?_)
  · refine lv_iconst (v := 0) hx hb d_GrantServer_active_26 (by decide) ?_
    exact hm_zret X hQ hr hlk hK hM hS rfl d_GrantServer_active_27 ⟨rfl, rfl⟩
  · exact absurd h7 (by decide)
set_option maxHeartbeats 4000000 in
set_option maxRecDepth 100000 in
theorem c_active0 (l : Launch) (D : va_G) (k : Nat → ClassId) (f : hm) (h : Nat) (u : Nat → Int32) (ad : Nat → Nat) (us : Nat → Nat) (g : Nat → Nat → Option Nat) (w : Nat → Nat → Nat → Int32) (m1 : Nat → Nat → Option Nat) (i : Nat) (q : Nat) (fs : Int32) (fa : Int32) (fv : Int32) (x : Int32) (y : Int32) (hh : f h = some (.inr (0, gsV u ad))) (hs0 : f (ad 4) = some (.inr (4, [.ref (ad 14), .int (nI (us 0))]))) (hr0 : f (ad 14) = some (.inl (k 3, 16, .inr (.inr (.inr (.inr (g 0))))))) (hq : f q = some (.inr (3, gV (w 0 i) (m1 0 i)))) (hx9 : x = 0) (hu : us 0 ≤ 16) (hrows : ∀ i, i < us 0 → ∃ q, g 0 i = some q ∧ f q = some (.inr (3, gV (w 0 i) (m1 0 i)))) (hfi : z_fi (w 0) y (us 0) 0 = some i) (hgq : g 0 i = some q) (hfam : ∀ z, m1 0 i = some z → f z = some (.inr (2, [.int fs, .int fa, .int fv]))) : hm_Mi l D vwCl (tyL k) y_GrantServer_active (Cond.code y_GrantServer_active b_GrantServer_active 4 (some .boolean) :: TB) ({ frames := 2, cells := 0, slots := 0, locals := 45 }) [.ref h, .int x, .int y] f (fun (r : Int32) (f1 : hm) => z_act (w 0 i) (m1 0 i) fv (u 15) = r ∧ f = f1) 0 0 := by
  refine hm_enter (Qc := fun sz => va_Qi _ (hm_R D vwCl (tyL k) f sz) (hm_A f sz)) (by decide) rfl (Nat.le_of_ble_eq_true rfl) ?_
  intro p e s m below meth cd ls X0 hr hlk hin hK hM hS hA hl Q hQ
  have X : CallFix p m cd b_GrantServer_active 4 s ([.ref h, .int x, .int y] : List Value).toArray TB R_GrantServer := ⟨X0.1, X0.2.1, X0.2.2.1, X0.2.2.2.1, fun w h => X0.2.2.2.2 w (List.mem_cons_of_mem _ h)⟩
  have hx := X.1; have hb := X.2.1; have hml := X.2.2.1; have hown := X.2.2.2.1; have hts := X.2.2.2.2
  have hl : lv_has ls 4 [(0, .ref h), (1, .int x), (2, .int y)] := hl
  refine lv_aload_n hx hb d_GrantServer_active_0 rfl (lv_at hl 0 rfl) ?_
  refine lv_iload_n hx hb d_GrantServer_active_1 rfl (lv_at hl 1 rfl) ?_
  refine hm_callq hS hM hA (va_runV (As := [.int x]) (rest := []) X (c_shelfOf l D k f h u ad x hh  s.heap.size) (hm_cwV hts me_GrantServer_shelfOf wl_GrantServer_178 rfl rfl ⟨Nat.le_of_ble_eq_true rfl, Nat.le_of_ble_eq_true rfl⟩) (hm_preV hM hK hh rfl) rfl rfl hl.1 rfl (lv_room (Nat.le_of_ble_eq_true rfl)) d_GrantServer_active_2 ⟨Nat.le_of_ble_eq_true rfl, Nat.le_of_ble_eq_true rfl⟩) (fun r3 f1 H locs p2 hM hS => ?_)
  obtain ⟨rfl, rfl⟩ := p2
  refine hm_topq (show z_shelf ad x = some (ad 4) by simp [z_shelf, hx9]) ?_
  refine lv_astore_n (lv' := [(3, .ref (ad 4)), (0, .ref h), (1, .int x), (2, .int y)]) hx hb d_GrantServer_active_5 rfl hl (by decide) rfl (fun ls hl => ?_)
  refine lv_aload_n hx hb d_GrantServer_active_6 rfl (lv_at hl 0 rfl) ?_
  refine lv_ifnull hx hb d_GrantServer_active_7 ?_
  refine lv_aload_n hx hb d_GrantServer_active_10 rfl (lv_at hl 0 rfl) ?_
  refine lv_iload_n hx hb d_GrantServer_active_11 rfl (lv_at hl 3 rfl) ?_
  refine lv_aload_n hx hb d_GrantServer_active_12 rfl (lv_at hl 1 rfl) ?_
  refine hm_get X hK hM hh fl_GrantServer_60 (v := .int (u 15)) rfl d_GrantServer_active_13 ?_
  refine hm_calli hS hM hA (va_runV (As := [.int y, .int (u 15)]) (rest := []) X (c_hasActive l D k f (ad 4) (ad 14) 16 (us 0) (g 0) (w 0) (m1 0) i q fs fa fv y (u 15) hs0 hr0 hq hu (by decide) hrows hfi hgq hfam H.size) (hm_cwV hts me_Shelf_hasActive wl_GrantServer_182 rfl rfl ⟨Nat.le_of_ble_eq_true rfl, Nat.le_of_ble_eq_true rfl⟩) (hm_preV hM hK hs0 rfl) rfl rfl hl.1 rfl (lv_room (Nat.le_of_ble_eq_true rfl)) d_GrantServer_active_16 ⟨Nat.le_of_ble_eq_true rfl, Nat.le_of_ble_eq_true rfl⟩) (fun r6 f4 H locs p5 hM hS => ?_)
  obtain ⟨rfl, rfl⟩ := p5
  refine lv_if_eq (tgt := 26) hx hb d_GrantServer_active_19 (by decide) (fun h7 => ?_) (fun h7 => ?_)
  · refine lv_iconst (v := 0) hx hb d_GrantServer_active_26 (by decide) ?_
    exact hm_zret X hQ hr hlk hK hM hS rfl d_GrantServer_active_27 ⟨h7, rfl⟩
  · refine lv_iconst (v := 1) hx hb d_GrantServer_active_22 (by decide) ?_
    refine lv_goto (tgt := 27) hx hb d_GrantServer_active_23 (by decide) ?_
    exact hm_zret X hQ hr hlk hK hM hS rfl d_GrantServer_active_27 ⟨(z_act_b h7), rfl⟩
set_option maxHeartbeats 4000000 in
set_option maxRecDepth 100000 in
theorem c_count_rows0 (l : Launch) (D : va_G) (k : Nat → ClassId) (f : hm) (h : Nat) (u : Nat → Int32) (ad : Nat → Nat) (us : Nat → Nat) (g : Nat → Nat → Option Nat) (w : Nat → Nat → Nat → Int32) (m1 : Nat → Nat → Option Nat) (x : Int32) (y : Int32) (hh : f h = some (.inr (0, gsV u ad))) (hs0 : f (ad 4) = some (.inr (4, [.ref (ad 14), .int (nI (us 0))]))) (hr0 : f (ad 14) = some (.inl (k 3, 16, .inr (.inr (.inr (.inr (g 0))))))) (hx9 : x = 0) (hy9 : y = 0) : hm_Mi l D vwCl (tyL k) y_GrantServer_count (Cond.code y_GrantServer_count b_GrantServer_count 4 (some .int) :: TB) ({ frames := 1, cells := 0, slots := 0, locals := 21 }) [.ref h, .int x, .int y] f (fun (r : Int32) (f1 : hm) => nI (us 0) = r ∧ f = f1) 0 0 := by
  refine hm_enter (Qc := fun sz => va_Qi _ (hm_R D vwCl (tyL k) f sz) (hm_A f sz)) (by decide) rfl (Nat.le_of_ble_eq_true rfl) ?_
  intro p e s m below meth cd ls X0 hr hlk hin hK hM hS hA hl Q hQ
  have X : CallFix p m cd b_GrantServer_count 4 s ([.ref h, .int x, .int y] : List Value).toArray TB R_GrantServer := ⟨X0.1, X0.2.1, X0.2.2.1, X0.2.2.2.1, fun w h => X0.2.2.2.2 w (List.mem_cons_of_mem _ h)⟩
  have hx := X.1; have hb := X.2.1; have hml := X.2.2.1; have hown := X.2.2.2.1; have hts := X.2.2.2.2
  have hl : lv_has ls 4 [(0, .ref h), (1, .int x), (2, .int y)] := hl
  refine lv_aload_n hx hb d_GrantServer_count_0 rfl (lv_at hl 0 rfl) ?_
  refine lv_iload_n hx hb d_GrantServer_count_1 rfl (lv_at hl 1 rfl) ?_
  refine hm_callq hS hM hA (va_runV (As := [.int x]) (rest := []) X (c_shelfOf l D k f h u ad x hh  s.heap.size) (hm_cwV hts me_GrantServer_shelfOf wl_GrantServer_178 rfl rfl ⟨Nat.le_of_ble_eq_true rfl, Nat.le_of_ble_eq_true rfl⟩) (hm_preV hM hK hh rfl) rfl rfl hl.1 rfl (lv_room (Nat.le_of_ble_eq_true rfl)) d_GrantServer_count_2 ⟨Nat.le_of_ble_eq_true rfl, Nat.le_of_ble_eq_true rfl⟩) (fun r3 f1 H locs p2 hM hS => ?_)
  obtain ⟨rfl, rfl⟩ := p2
  refine hm_topq (show z_shelf ad x = some (ad 4) by simp [z_shelf, hx9]) ?_
  refine lv_astore_n (lv' := [(3, .ref (ad 4)), (0, .ref h), (1, .int x), (2, .int y)]) hx hb d_GrantServer_count_5 rfl hl (by decide) rfl (fun ls hl => ?_)
  refine lv_aload_n hx hb d_GrantServer_count_6 rfl (lv_at hl 0 rfl) ?_
  refine lv_ifnonnull (tgt := 12) hx hb d_GrantServer_count_7 (by decide) ?_
  refine lv_iload_n hx hb d_GrantServer_count_12 rfl (lv_at hl 3 rfl) ?_
  refine lv_if_eq (tgt := 27) hx hb d_GrantServer_count_13 (by decide) (fun h4 => ?_) (fun h4 => ?_)
  · refine lv_aload_n hx hb d_GrantServer_count_27 rfl (lv_at hl 0 rfl) ?_
    refine hm_calli hS hM hA (va_runV (As := []) (rest := []) X (c_Shelf_rows l D k f (ad 4) (ad 14) (nI (us 0)) hs0  H.size) (hm_cwV hts me_Shelf_rows wl_GrantServer_240 rfl rfl ⟨Nat.le_of_ble_eq_true rfl, Nat.le_of_ble_eq_true rfl⟩) (hm_preV hM hK hs0 rfl) rfl rfl hl.1 rfl (lv_room (Nat.le_of_ble_eq_true rfl)) d_GrantServer_count_28 ⟨Nat.le_of_ble_eq_true rfl, Nat.le_of_ble_eq_true rfl⟩) (fun r7 f5 H locs p6 hM hS => ?_)
    obtain ⟨rfl, rfl⟩ := p6
    exact hm_iret X hQ hr hlk hK hM hS d_GrantServer_count_31 ⟨rfl, rfl⟩
  · exact absurd hy9 h4
set_option maxHeartbeats 4000000 in
set_option maxRecDepth 100000 in
theorem c_count_act0 (l : Launch) (D : va_G) (k : Nat → ClassId) (f : hm) (h : Nat) (u : Nat → Int32) (ad : Nat → Nat) (us : Nat → Nat) (g : Nat → Nat → Option Nat) (w : Nat → Nat → Nat → Int32) (m1 : Nat → Nat → Option Nat) (fs : Nat → Int32) (fa : Nat → Int32) (fv : Nat → Int32) (x : Int32) (y : Int32) (hh : f h = some (.inr (0, gsV u ad))) (hs0 : f (ad 4) = some (.inr (4, [.ref (ad 14), .int (nI (us 0))]))) (hr0 : f (ad 14) = some (.inl (k 3, 16, .inr (.inr (.inr (.inr (g 0))))))) (hx9 : x = 0) (hy9 : ¬ y = 0) (hu : us 0 ≤ 16) (hrows : ∀ i, i < us 0 → ∃ q, g 0 i = some q ∧ f q = some (.inr (3, gV (w 0 i) (m1 0 i)))) (hfam : ∀ i, i < us 0 → ∀ z, m1 0 i = some z → f z = some (.inr (2, [.int (fs i), .int (fa i), .int (fv i)]))) : hm_Mi l D vwCl (tyL k) y_GrantServer_count (Cond.code y_GrantServer_count b_GrantServer_count 4 (some .int) :: TB) ({ frames := 2, cells := 0, slots := 0, locals := 44 }) [.ref h, .int x, .int y] f (fun (r : Int32) (f1 : hm) => nI (z_cn (w 0) (m1 0) fv (u 15) (us 0)) = r ∧ f = f1) 0 0 := by
  refine hm_enter (Qc := fun sz => va_Qi _ (hm_R D vwCl (tyL k) f sz) (hm_A f sz)) (by decide) rfl (Nat.le_of_ble_eq_true rfl) ?_
  intro p e s m below meth cd ls X0 hr hlk hin hK hM hS hA hl Q hQ
  have X : CallFix p m cd b_GrantServer_count 4 s ([.ref h, .int x, .int y] : List Value).toArray TB R_GrantServer := ⟨X0.1, X0.2.1, X0.2.2.1, X0.2.2.2.1, fun w h => X0.2.2.2.2 w (List.mem_cons_of_mem _ h)⟩
  have hx := X.1; have hb := X.2.1; have hml := X.2.2.1; have hown := X.2.2.2.1; have hts := X.2.2.2.2
  have hl : lv_has ls 4 [(0, .ref h), (1, .int x), (2, .int y)] := hl
  refine lv_aload_n hx hb d_GrantServer_count_0 rfl (lv_at hl 0 rfl) ?_
  refine lv_iload_n hx hb d_GrantServer_count_1 rfl (lv_at hl 1 rfl) ?_
  refine hm_callq hS hM hA (va_runV (As := [.int x]) (rest := []) X (c_shelfOf l D k f h u ad x hh  s.heap.size) (hm_cwV hts me_GrantServer_shelfOf wl_GrantServer_178 rfl rfl ⟨Nat.le_of_ble_eq_true rfl, Nat.le_of_ble_eq_true rfl⟩) (hm_preV hM hK hh rfl) rfl rfl hl.1 rfl (lv_room (Nat.le_of_ble_eq_true rfl)) d_GrantServer_count_2 ⟨Nat.le_of_ble_eq_true rfl, Nat.le_of_ble_eq_true rfl⟩) (fun r3 f1 H locs p2 hM hS => ?_)
  obtain ⟨rfl, rfl⟩ := p2
  refine hm_topq (show z_shelf ad x = some (ad 4) by simp [z_shelf, hx9]) ?_
  refine lv_astore_n (lv' := [(3, .ref (ad 4)), (0, .ref h), (1, .int x), (2, .int y)]) hx hb d_GrantServer_count_5 rfl hl (by decide) rfl (fun ls hl => ?_)
  refine lv_aload_n hx hb d_GrantServer_count_6 rfl (lv_at hl 0 rfl) ?_
  refine lv_ifnonnull (tgt := 12) hx hb d_GrantServer_count_7 (by decide) ?_
  refine lv_iload_n hx hb d_GrantServer_count_12 rfl (lv_at hl 3 rfl) ?_
  refine lv_if_eq (tgt := 27) hx hb d_GrantServer_count_13 (by decide) (fun h4 => ?_) (fun h4 => ?_)
  · exact absurd h4 hy9
  · refine lv_aload_n hx hb d_GrantServer_count_16 rfl (lv_at hl 0 rfl) ?_
    refine lv_aload_n hx hb d_GrantServer_count_17 rfl (lv_at hl 1 rfl) ?_
    refine hm_get X hK hM hh fl_GrantServer_60 (v := .int (u 15)) rfl d_GrantServer_count_18 ?_
    refine hm_calli hS hM hA (va_runV (As := [.int (u 15)]) (rest := []) X (c_activeRows l D k f (ad 4) (ad 14) 16 (us 0) (g 0) (w 0) (m1 0) fs fa fv (u 15) hs0 hr0 hu (by decide) hrows hfam H.size) (hm_cwV hts me_Shelf_activeRows wl_GrantServer_237 rfl rfl ⟨Nat.le_of_ble_eq_true rfl, Nat.le_of_ble_eq_true rfl⟩) (hm_preV hM hK hs0 rfl) rfl rfl hl.1 rfl (lv_room (Nat.le_of_ble_eq_true rfl)) d_GrantServer_count_21 ⟨Nat.le_of_ble_eq_true rfl, Nat.le_of_ble_eq_true rfl⟩) (fun r7 f5 H locs p6 hM hS => ?_)
    obtain ⟨rfl, rfl⟩ := p6
    refine lv_goto (tgt := 31) hx hb d_GrantServer_count_24 (by decide) ?_
    exact hm_iret X hQ hr hlk hK hM hS d_GrantServer_count_31 ⟨rfl, rfl⟩
set_option maxHeartbeats 4000000 in
set_option maxRecDepth 100000 in
theorem c_active_no1 (l : Launch) (D : va_G) (k : Nat → ClassId) (f : hm) (h : Nat) (u : Nat → Int32) (ad : Nat → Nat) (us : Nat → Nat) (g : Nat → Nat → Option Nat) (w : Nat → Nat → Nat → Int32) (m1 : Nat → Nat → Option Nat) (x : Int32) (y : Int32) (hh : f h = some (.inr (0, gsV u ad))) (hs1 : f (ad 5) = some (.inr (4, [.ref (ad 15), .int (nI (us 1))]))) (hr1 : f (ad 15) = some (.inl (k 3, 24, .inr (.inr (.inr (.inr (g 1))))))) (hx9 : x = 1) (hu : us 1 ≤ 24) (hrows : ∀ i, i < us 1 → ∃ q, g 1 i = some q ∧ f q = some (.inr (3, gV (w 1 i) (m1 1 i)))) (hfi : z_fi (w 1) y (us 1) 0 = none) : hm_Mi l D vwCl (tyL k) y_GrantServer_active (Cond.code y_GrantServer_active b_GrantServer_active 4 (some .boolean) :: TB) ({ frames := 2, cells := 0, slots := 0, locals := 45 }) [.ref h, .int x, .int y] f (fun (r : Int32) (f1 : hm) => 0 = r ∧ f = f1) 0 0 := by
  refine hm_enter (Qc := fun sz => va_Qi _ (hm_R D vwCl (tyL k) f sz) (hm_A f sz)) (by decide) rfl (Nat.le_of_ble_eq_true rfl) ?_
  intro p e s m below meth cd ls X0 hr hlk hin hK hM hS hA hl Q hQ
  have X : CallFix p m cd b_GrantServer_active 4 s ([.ref h, .int x, .int y] : List Value).toArray TB R_GrantServer := ⟨X0.1, X0.2.1, X0.2.2.1, X0.2.2.2.1, fun w h => X0.2.2.2.2 w (List.mem_cons_of_mem _ h)⟩
  have hx := X.1; have hb := X.2.1; have hml := X.2.2.1; have hown := X.2.2.2.1; have hts := X.2.2.2.2
  have hl : lv_has ls 4 [(0, .ref h), (1, .int x), (2, .int y)] := hl
  refine lv_aload_n hx hb d_GrantServer_active_0 rfl (lv_at hl 0 rfl) ?_
  refine lv_iload_n hx hb d_GrantServer_active_1 rfl (lv_at hl 1 rfl) ?_
  refine hm_callq hS hM hA (va_runV (As := [.int x]) (rest := []) X (c_shelfOf l D k f h u ad x hh  s.heap.size) (hm_cwV hts me_GrantServer_shelfOf wl_GrantServer_178 rfl rfl ⟨Nat.le_of_ble_eq_true rfl, Nat.le_of_ble_eq_true rfl⟩) (hm_preV hM hK hh rfl) rfl rfl hl.1 rfl (lv_room (Nat.le_of_ble_eq_true rfl)) d_GrantServer_active_2 ⟨Nat.le_of_ble_eq_true rfl, Nat.le_of_ble_eq_true rfl⟩) (fun r3 f1 H locs p2 hM hS => ?_)
  obtain ⟨rfl, rfl⟩ := p2
  refine hm_topq (show z_shelf ad x = some (ad 5) by simp [z_shelf, hx9]) ?_
  refine lv_astore_n (lv' := [(3, .ref (ad 5)), (0, .ref h), (1, .int x), (2, .int y)]) hx hb d_GrantServer_active_5 rfl hl (by decide) rfl (fun ls hl => ?_)
  refine lv_aload_n hx hb d_GrantServer_active_6 rfl (lv_at hl 0 rfl) ?_
  refine lv_ifnull hx hb d_GrantServer_active_7 ?_
  refine lv_aload_n hx hb d_GrantServer_active_10 rfl (lv_at hl 0 rfl) ?_
  refine lv_iload_n hx hb d_GrantServer_active_11 rfl (lv_at hl 3 rfl) ?_
  refine lv_aload_n hx hb d_GrantServer_active_12 rfl (lv_at hl 1 rfl) ?_
  refine hm_get X hK hM hh fl_GrantServer_60 (v := .int (u 15)) rfl d_GrantServer_active_13 ?_
  refine hm_calli hS hM hA (va_runV (As := [.int y, .int (u 15)]) (rest := []) X (c_hasActive_no l D k f (ad 5) (ad 15) 24 (us 1) (g 1) (w 1) (m1 1) y (u 15) hs1 hr1 hu (by decide) hrows hfi H.size) (hm_cwV hts me_Shelf_hasActive wl_GrantServer_182 rfl rfl ⟨Nat.le_of_ble_eq_true rfl, Nat.le_of_ble_eq_true rfl⟩) (hm_preV hM hK hs1 rfl) rfl rfl hl.1 rfl (lv_room (Nat.le_of_ble_eq_true rfl)) d_GrantServer_active_16 ⟨Nat.le_of_ble_eq_true rfl, Nat.le_of_ble_eq_true rfl⟩) (fun r6 f4 H locs p5 hM hS => ?_)
  obtain ⟨rfl, rfl⟩ := p5
  refine lv_if_eq (tgt := 26) hx hb d_GrantServer_active_19 (by decide) (fun h7 => ?_) (fun h7 => ?_)
  · refine lv_iconst (v := 0) hx hb d_GrantServer_active_26 (by decide) ?_
    exact hm_zret X hQ hr hlk hK hM hS rfl d_GrantServer_active_27 ⟨rfl, rfl⟩
  · exact absurd h7 (by decide)
set_option maxHeartbeats 4000000 in
set_option maxRecDepth 100000 in
theorem c_active1 (l : Launch) (D : va_G) (k : Nat → ClassId) (f : hm) (h : Nat) (u : Nat → Int32) (ad : Nat → Nat) (us : Nat → Nat) (g : Nat → Nat → Option Nat) (w : Nat → Nat → Nat → Int32) (m1 : Nat → Nat → Option Nat) (i : Nat) (q : Nat) (fs : Int32) (fa : Int32) (fv : Int32) (x : Int32) (y : Int32) (hh : f h = some (.inr (0, gsV u ad))) (hs1 : f (ad 5) = some (.inr (4, [.ref (ad 15), .int (nI (us 1))]))) (hr1 : f (ad 15) = some (.inl (k 3, 24, .inr (.inr (.inr (.inr (g 1))))))) (hq : f q = some (.inr (3, gV (w 1 i) (m1 1 i)))) (hx9 : x = 1) (hu : us 1 ≤ 24) (hrows : ∀ i, i < us 1 → ∃ q, g 1 i = some q ∧ f q = some (.inr (3, gV (w 1 i) (m1 1 i)))) (hfi : z_fi (w 1) y (us 1) 0 = some i) (hgq : g 1 i = some q) (hfam : ∀ z, m1 1 i = some z → f z = some (.inr (2, [.int fs, .int fa, .int fv]))) : hm_Mi l D vwCl (tyL k) y_GrantServer_active (Cond.code y_GrantServer_active b_GrantServer_active 4 (some .boolean) :: TB) ({ frames := 2, cells := 0, slots := 0, locals := 45 }) [.ref h, .int x, .int y] f (fun (r : Int32) (f1 : hm) => z_act (w 1 i) (m1 1 i) fv (u 15) = r ∧ f = f1) 0 0 := by
  refine hm_enter (Qc := fun sz => va_Qi _ (hm_R D vwCl (tyL k) f sz) (hm_A f sz)) (by decide) rfl (Nat.le_of_ble_eq_true rfl) ?_
  intro p e s m below meth cd ls X0 hr hlk hin hK hM hS hA hl Q hQ
  have X : CallFix p m cd b_GrantServer_active 4 s ([.ref h, .int x, .int y] : List Value).toArray TB R_GrantServer := ⟨X0.1, X0.2.1, X0.2.2.1, X0.2.2.2.1, fun w h => X0.2.2.2.2 w (List.mem_cons_of_mem _ h)⟩
  have hx := X.1; have hb := X.2.1; have hml := X.2.2.1; have hown := X.2.2.2.1; have hts := X.2.2.2.2
  have hl : lv_has ls 4 [(0, .ref h), (1, .int x), (2, .int y)] := hl
  refine lv_aload_n hx hb d_GrantServer_active_0 rfl (lv_at hl 0 rfl) ?_
  refine lv_iload_n hx hb d_GrantServer_active_1 rfl (lv_at hl 1 rfl) ?_
  refine hm_callq hS hM hA (va_runV (As := [.int x]) (rest := []) X (c_shelfOf l D k f h u ad x hh  s.heap.size) (hm_cwV hts me_GrantServer_shelfOf wl_GrantServer_178 rfl rfl ⟨Nat.le_of_ble_eq_true rfl, Nat.le_of_ble_eq_true rfl⟩) (hm_preV hM hK hh rfl) rfl rfl hl.1 rfl (lv_room (Nat.le_of_ble_eq_true rfl)) d_GrantServer_active_2 ⟨Nat.le_of_ble_eq_true rfl, Nat.le_of_ble_eq_true rfl⟩) (fun r3 f1 H locs p2 hM hS => ?_)
  obtain ⟨rfl, rfl⟩ := p2
  refine hm_topq (show z_shelf ad x = some (ad 5) by simp [z_shelf, hx9]) ?_
  refine lv_astore_n (lv' := [(3, .ref (ad 5)), (0, .ref h), (1, .int x), (2, .int y)]) hx hb d_GrantServer_active_5 rfl hl (by decide) rfl (fun ls hl => ?_)
  refine lv_aload_n hx hb d_GrantServer_active_6 rfl (lv_at hl 0 rfl) ?_
  refine lv_ifnull hx hb d_GrantServer_active_7 ?_
  refine lv_aload_n hx hb d_GrantServer_active_10 rfl (lv_at hl 0 rfl) ?_
  refine lv_iload_n hx hb d_GrantServer_active_11 rfl (lv_at hl 3 rfl) ?_
  refine lv_aload_n hx hb d_GrantServer_active_12 rfl (lv_at hl 1 rfl) ?_
  refine hm_get X hK hM hh fl_GrantServer_60 (v := .int (u 15)) rfl d_GrantServer_active_13 ?_
  refine hm_calli hS hM hA (va_runV (As := [.int y, .int (u 15)]) (rest := []) X (c_hasActive l D k f (ad 5) (ad 15) 24 (us 1) (g 1) (w 1) (m1 1) i q fs fa fv y (u 15) hs1 hr1 hq hu (by decide) hrows hfi hgq hfam H.size) (hm_cwV hts me_Shelf_hasActive wl_GrantServer_182 rfl rfl ⟨Nat.le_of_ble_eq_true rfl, Nat.le_of_ble_eq_true rfl⟩) (hm_preV hM hK hs1 rfl) rfl rfl hl.1 rfl (lv_room (Nat.le_of_ble_eq_true rfl)) d_GrantServer_active_16 ⟨Nat.le_of_ble_eq_true rfl, Nat.le_of_ble_eq_true rfl⟩) (fun r6 f4 H locs p5 hM hS => ?_)
  obtain ⟨rfl, rfl⟩ := p5
  refine lv_if_eq (tgt := 26) hx hb d_GrantServer_active_19 (by decide) (fun h7 => ?_) (fun h7 => ?_)
  · refine lv_iconst (v := 0) hx hb d_GrantServer_active_26 (by decide) ?_
    exact hm_zret X hQ hr hlk hK hM hS rfl d_GrantServer_active_27 ⟨h7, rfl⟩
  · refine lv_iconst (v := 1) hx hb d_GrantServer_active_22 (by decide) ?_
    refine lv_goto (tgt := 27) hx hb d_GrantServer_active_23 (by decide) ?_
    exact hm_zret X hQ hr hlk hK hM hS rfl d_GrantServer_active_27 ⟨(z_act_b h7), rfl⟩
set_option maxHeartbeats 4000000 in
set_option maxRecDepth 100000 in
theorem c_count_rows1 (l : Launch) (D : va_G) (k : Nat → ClassId) (f : hm) (h : Nat) (u : Nat → Int32) (ad : Nat → Nat) (us : Nat → Nat) (g : Nat → Nat → Option Nat) (w : Nat → Nat → Nat → Int32) (m1 : Nat → Nat → Option Nat) (x : Int32) (y : Int32) (hh : f h = some (.inr (0, gsV u ad))) (hs1 : f (ad 5) = some (.inr (4, [.ref (ad 15), .int (nI (us 1))]))) (hr1 : f (ad 15) = some (.inl (k 3, 24, .inr (.inr (.inr (.inr (g 1))))))) (hx9 : x = 1) (hy9 : y = 0) : hm_Mi l D vwCl (tyL k) y_GrantServer_count (Cond.code y_GrantServer_count b_GrantServer_count 4 (some .int) :: TB) ({ frames := 1, cells := 0, slots := 0, locals := 21 }) [.ref h, .int x, .int y] f (fun (r : Int32) (f1 : hm) => nI (us 1) = r ∧ f = f1) 0 0 := by
  refine hm_enter (Qc := fun sz => va_Qi _ (hm_R D vwCl (tyL k) f sz) (hm_A f sz)) (by decide) rfl (Nat.le_of_ble_eq_true rfl) ?_
  intro p e s m below meth cd ls X0 hr hlk hin hK hM hS hA hl Q hQ
  have X : CallFix p m cd b_GrantServer_count 4 s ([.ref h, .int x, .int y] : List Value).toArray TB R_GrantServer := ⟨X0.1, X0.2.1, X0.2.2.1, X0.2.2.2.1, fun w h => X0.2.2.2.2 w (List.mem_cons_of_mem _ h)⟩
  have hx := X.1; have hb := X.2.1; have hml := X.2.2.1; have hown := X.2.2.2.1; have hts := X.2.2.2.2
  have hl : lv_has ls 4 [(0, .ref h), (1, .int x), (2, .int y)] := hl
  refine lv_aload_n hx hb d_GrantServer_count_0 rfl (lv_at hl 0 rfl) ?_
  refine lv_iload_n hx hb d_GrantServer_count_1 rfl (lv_at hl 1 rfl) ?_
  refine hm_callq hS hM hA (va_runV (As := [.int x]) (rest := []) X (c_shelfOf l D k f h u ad x hh  s.heap.size) (hm_cwV hts me_GrantServer_shelfOf wl_GrantServer_178 rfl rfl ⟨Nat.le_of_ble_eq_true rfl, Nat.le_of_ble_eq_true rfl⟩) (hm_preV hM hK hh rfl) rfl rfl hl.1 rfl (lv_room (Nat.le_of_ble_eq_true rfl)) d_GrantServer_count_2 ⟨Nat.le_of_ble_eq_true rfl, Nat.le_of_ble_eq_true rfl⟩) (fun r3 f1 H locs p2 hM hS => ?_)
  obtain ⟨rfl, rfl⟩ := p2
  refine hm_topq (show z_shelf ad x = some (ad 5) by simp [z_shelf, hx9]) ?_
  refine lv_astore_n (lv' := [(3, .ref (ad 5)), (0, .ref h), (1, .int x), (2, .int y)]) hx hb d_GrantServer_count_5 rfl hl (by decide) rfl (fun ls hl => ?_)
  refine lv_aload_n hx hb d_GrantServer_count_6 rfl (lv_at hl 0 rfl) ?_
  refine lv_ifnonnull (tgt := 12) hx hb d_GrantServer_count_7 (by decide) ?_
  refine lv_iload_n hx hb d_GrantServer_count_12 rfl (lv_at hl 3 rfl) ?_
  refine lv_if_eq (tgt := 27) hx hb d_GrantServer_count_13 (by decide) (fun h4 => ?_) (fun h4 => ?_)
  · refine lv_aload_n hx hb d_GrantServer_count_27 rfl (lv_at hl 0 rfl) ?_
    refine hm_calli hS hM hA (va_runV (As := []) (rest := []) X (c_Shelf_rows l D k f (ad 5) (ad 15) (nI (us 1)) hs1  H.size) (hm_cwV hts me_Shelf_rows wl_GrantServer_240 rfl rfl ⟨Nat.le_of_ble_eq_true rfl, Nat.le_of_ble_eq_true rfl⟩) (hm_preV hM hK hs1 rfl) rfl rfl hl.1 rfl (lv_room (Nat.le_of_ble_eq_true rfl)) d_GrantServer_count_28 ⟨Nat.le_of_ble_eq_true rfl, Nat.le_of_ble_eq_true rfl⟩) (fun r7 f5 H locs p6 hM hS => ?_)
    obtain ⟨rfl, rfl⟩ := p6
    exact hm_iret X hQ hr hlk hK hM hS d_GrantServer_count_31 ⟨rfl, rfl⟩
  · exact absurd hy9 h4
set_option maxHeartbeats 4000000 in
set_option maxRecDepth 100000 in
theorem c_count_act1 (l : Launch) (D : va_G) (k : Nat → ClassId) (f : hm) (h : Nat) (u : Nat → Int32) (ad : Nat → Nat) (us : Nat → Nat) (g : Nat → Nat → Option Nat) (w : Nat → Nat → Nat → Int32) (m1 : Nat → Nat → Option Nat) (fs : Nat → Int32) (fa : Nat → Int32) (fv : Nat → Int32) (x : Int32) (y : Int32) (hh : f h = some (.inr (0, gsV u ad))) (hs1 : f (ad 5) = some (.inr (4, [.ref (ad 15), .int (nI (us 1))]))) (hr1 : f (ad 15) = some (.inl (k 3, 24, .inr (.inr (.inr (.inr (g 1))))))) (hx9 : x = 1) (hy9 : ¬ y = 0) (hu : us 1 ≤ 24) (hrows : ∀ i, i < us 1 → ∃ q, g 1 i = some q ∧ f q = some (.inr (3, gV (w 1 i) (m1 1 i)))) (hfam : ∀ i, i < us 1 → ∀ z, m1 1 i = some z → f z = some (.inr (2, [.int (fs i), .int (fa i), .int (fv i)]))) : hm_Mi l D vwCl (tyL k) y_GrantServer_count (Cond.code y_GrantServer_count b_GrantServer_count 4 (some .int) :: TB) ({ frames := 2, cells := 0, slots := 0, locals := 44 }) [.ref h, .int x, .int y] f (fun (r : Int32) (f1 : hm) => nI (z_cn (w 1) (m1 1) fv (u 15) (us 1)) = r ∧ f = f1) 0 0 := by
  refine hm_enter (Qc := fun sz => va_Qi _ (hm_R D vwCl (tyL k) f sz) (hm_A f sz)) (by decide) rfl (Nat.le_of_ble_eq_true rfl) ?_
  intro p e s m below meth cd ls X0 hr hlk hin hK hM hS hA hl Q hQ
  have X : CallFix p m cd b_GrantServer_count 4 s ([.ref h, .int x, .int y] : List Value).toArray TB R_GrantServer := ⟨X0.1, X0.2.1, X0.2.2.1, X0.2.2.2.1, fun w h => X0.2.2.2.2 w (List.mem_cons_of_mem _ h)⟩
  have hx := X.1; have hb := X.2.1; have hml := X.2.2.1; have hown := X.2.2.2.1; have hts := X.2.2.2.2
  have hl : lv_has ls 4 [(0, .ref h), (1, .int x), (2, .int y)] := hl
  refine lv_aload_n hx hb d_GrantServer_count_0 rfl (lv_at hl 0 rfl) ?_
  refine lv_iload_n hx hb d_GrantServer_count_1 rfl (lv_at hl 1 rfl) ?_
  refine hm_callq hS hM hA (va_runV (As := [.int x]) (rest := []) X (c_shelfOf l D k f h u ad x hh  s.heap.size) (hm_cwV hts me_GrantServer_shelfOf wl_GrantServer_178 rfl rfl ⟨Nat.le_of_ble_eq_true rfl, Nat.le_of_ble_eq_true rfl⟩) (hm_preV hM hK hh rfl) rfl rfl hl.1 rfl (lv_room (Nat.le_of_ble_eq_true rfl)) d_GrantServer_count_2 ⟨Nat.le_of_ble_eq_true rfl, Nat.le_of_ble_eq_true rfl⟩) (fun r3 f1 H locs p2 hM hS => ?_)
  obtain ⟨rfl, rfl⟩ := p2
  refine hm_topq (show z_shelf ad x = some (ad 5) by simp [z_shelf, hx9]) ?_
  refine lv_astore_n (lv' := [(3, .ref (ad 5)), (0, .ref h), (1, .int x), (2, .int y)]) hx hb d_GrantServer_count_5 rfl hl (by decide) rfl (fun ls hl => ?_)
  refine lv_aload_n hx hb d_GrantServer_count_6 rfl (lv_at hl 0 rfl) ?_
  refine lv_ifnonnull (tgt := 12) hx hb d_GrantServer_count_7 (by decide) ?_
  refine lv_iload_n hx hb d_GrantServer_count_12 rfl (lv_at hl 3 rfl) ?_
  refine lv_if_eq (tgt := 27) hx hb d_GrantServer_count_13 (by decide) (fun h4 => ?_) (fun h4 => ?_)
  · exact absurd h4 hy9
  · refine lv_aload_n hx hb d_GrantServer_count_16 rfl (lv_at hl 0 rfl) ?_
    refine lv_aload_n hx hb d_GrantServer_count_17 rfl (lv_at hl 1 rfl) ?_
    refine hm_get X hK hM hh fl_GrantServer_60 (v := .int (u 15)) rfl d_GrantServer_count_18 ?_
    refine hm_calli hS hM hA (va_runV (As := [.int (u 15)]) (rest := []) X (c_activeRows l D k f (ad 5) (ad 15) 24 (us 1) (g 1) (w 1) (m1 1) fs fa fv (u 15) hs1 hr1 hu (by decide) hrows hfam H.size) (hm_cwV hts me_Shelf_activeRows wl_GrantServer_237 rfl rfl ⟨Nat.le_of_ble_eq_true rfl, Nat.le_of_ble_eq_true rfl⟩) (hm_preV hM hK hs1 rfl) rfl rfl hl.1 rfl (lv_room (Nat.le_of_ble_eq_true rfl)) d_GrantServer_count_21 ⟨Nat.le_of_ble_eq_true rfl, Nat.le_of_ble_eq_true rfl⟩) (fun r7 f5 H locs p6 hM hS => ?_)
    obtain ⟨rfl, rfl⟩ := p6
    refine lv_goto (tgt := 31) hx hb d_GrantServer_count_24 (by decide) ?_
    exact hm_iret X hQ hr hlk hK hM hS d_GrantServer_count_31 ⟨rfl, rfl⟩
set_option maxHeartbeats 4000000 in
set_option maxRecDepth 100000 in
theorem c_active_no2 (l : Launch) (D : va_G) (k : Nat → ClassId) (f : hm) (h : Nat) (u : Nat → Int32) (ad : Nat → Nat) (us : Nat → Nat) (g : Nat → Nat → Option Nat) (w : Nat → Nat → Nat → Int32) (m1 : Nat → Nat → Option Nat) (x : Int32) (y : Int32) (hh : f h = some (.inr (0, gsV u ad))) (hs2 : f (ad 6) = some (.inr (4, [.ref (ad 16), .int (nI (us 2))]))) (hr2 : f (ad 16) = some (.inl (k 3, 24, .inr (.inr (.inr (.inr (g 2))))))) (hx9 : x = 2) (hu : us 2 ≤ 24) (hrows : ∀ i, i < us 2 → ∃ q, g 2 i = some q ∧ f q = some (.inr (3, gV (w 2 i) (m1 2 i)))) (hfi : z_fi (w 2) y (us 2) 0 = none) : hm_Mi l D vwCl (tyL k) y_GrantServer_active (Cond.code y_GrantServer_active b_GrantServer_active 4 (some .boolean) :: TB) ({ frames := 2, cells := 0, slots := 0, locals := 45 }) [.ref h, .int x, .int y] f (fun (r : Int32) (f1 : hm) => 0 = r ∧ f = f1) 0 0 := by
  refine hm_enter (Qc := fun sz => va_Qi _ (hm_R D vwCl (tyL k) f sz) (hm_A f sz)) (by decide) rfl (Nat.le_of_ble_eq_true rfl) ?_
  intro p e s m below meth cd ls X0 hr hlk hin hK hM hS hA hl Q hQ
  have X : CallFix p m cd b_GrantServer_active 4 s ([.ref h, .int x, .int y] : List Value).toArray TB R_GrantServer := ⟨X0.1, X0.2.1, X0.2.2.1, X0.2.2.2.1, fun w h => X0.2.2.2.2 w (List.mem_cons_of_mem _ h)⟩
  have hx := X.1; have hb := X.2.1; have hml := X.2.2.1; have hown := X.2.2.2.1; have hts := X.2.2.2.2
  have hl : lv_has ls 4 [(0, .ref h), (1, .int x), (2, .int y)] := hl
  refine lv_aload_n hx hb d_GrantServer_active_0 rfl (lv_at hl 0 rfl) ?_
  refine lv_iload_n hx hb d_GrantServer_active_1 rfl (lv_at hl 1 rfl) ?_
  refine hm_callq hS hM hA (va_runV (As := [.int x]) (rest := []) X (c_shelfOf l D k f h u ad x hh  s.heap.size) (hm_cwV hts me_GrantServer_shelfOf wl_GrantServer_178 rfl rfl ⟨Nat.le_of_ble_eq_true rfl, Nat.le_of_ble_eq_true rfl⟩) (hm_preV hM hK hh rfl) rfl rfl hl.1 rfl (lv_room (Nat.le_of_ble_eq_true rfl)) d_GrantServer_active_2 ⟨Nat.le_of_ble_eq_true rfl, Nat.le_of_ble_eq_true rfl⟩) (fun r3 f1 H locs p2 hM hS => ?_)
  obtain ⟨rfl, rfl⟩ := p2
  refine hm_topq (show z_shelf ad x = some (ad 6) by simp [z_shelf, hx9]) ?_
  refine lv_astore_n (lv' := [(3, .ref (ad 6)), (0, .ref h), (1, .int x), (2, .int y)]) hx hb d_GrantServer_active_5 rfl hl (by decide) rfl (fun ls hl => ?_)
  refine lv_aload_n hx hb d_GrantServer_active_6 rfl (lv_at hl 0 rfl) ?_
  refine lv_ifnull hx hb d_GrantServer_active_7 ?_
  refine lv_aload_n hx hb d_GrantServer_active_10 rfl (lv_at hl 0 rfl) ?_
  refine lv_iload_n hx hb d_GrantServer_active_11 rfl (lv_at hl 3 rfl) ?_
  refine lv_aload_n hx hb d_GrantServer_active_12 rfl (lv_at hl 1 rfl) ?_
  refine hm_get X hK hM hh fl_GrantServer_60 (v := .int (u 15)) rfl d_GrantServer_active_13 ?_
  refine hm_calli hS hM hA (va_runV (As := [.int y, .int (u 15)]) (rest := []) X (c_hasActive_no l D k f (ad 6) (ad 16) 24 (us 2) (g 2) (w 2) (m1 2) y (u 15) hs2 hr2 hu (by decide) hrows hfi H.size) (hm_cwV hts me_Shelf_hasActive wl_GrantServer_182 rfl rfl ⟨Nat.le_of_ble_eq_true rfl, Nat.le_of_ble_eq_true rfl⟩) (hm_preV hM hK hs2 rfl) rfl rfl hl.1 rfl (lv_room (Nat.le_of_ble_eq_true rfl)) d_GrantServer_active_16 ⟨Nat.le_of_ble_eq_true rfl, Nat.le_of_ble_eq_true rfl⟩) (fun r6 f4 H locs p5 hM hS => ?_)
  obtain ⟨rfl, rfl⟩ := p5
  refine lv_if_eq (tgt := 26) hx hb d_GrantServer_active_19 (by decide) (fun h7 => ?_) (fun h7 => ?_)
  · refine lv_iconst (v := 0) hx hb d_GrantServer_active_26 (by decide) ?_
    exact hm_zret X hQ hr hlk hK hM hS rfl d_GrantServer_active_27 ⟨rfl, rfl⟩
  · exact absurd h7 (by decide)
set_option maxHeartbeats 4000000 in
set_option maxRecDepth 100000 in
theorem c_active2 (l : Launch) (D : va_G) (k : Nat → ClassId) (f : hm) (h : Nat) (u : Nat → Int32) (ad : Nat → Nat) (us : Nat → Nat) (g : Nat → Nat → Option Nat) (w : Nat → Nat → Nat → Int32) (m1 : Nat → Nat → Option Nat) (i : Nat) (q : Nat) (fs : Int32) (fa : Int32) (fv : Int32) (x : Int32) (y : Int32) (hh : f h = some (.inr (0, gsV u ad))) (hs2 : f (ad 6) = some (.inr (4, [.ref (ad 16), .int (nI (us 2))]))) (hr2 : f (ad 16) = some (.inl (k 3, 24, .inr (.inr (.inr (.inr (g 2))))))) (hq : f q = some (.inr (3, gV (w 2 i) (m1 2 i)))) (hx9 : x = 2) (hu : us 2 ≤ 24) (hrows : ∀ i, i < us 2 → ∃ q, g 2 i = some q ∧ f q = some (.inr (3, gV (w 2 i) (m1 2 i)))) (hfi : z_fi (w 2) y (us 2) 0 = some i) (hgq : g 2 i = some q) (hfam : ∀ z, m1 2 i = some z → f z = some (.inr (2, [.int fs, .int fa, .int fv]))) : hm_Mi l D vwCl (tyL k) y_GrantServer_active (Cond.code y_GrantServer_active b_GrantServer_active 4 (some .boolean) :: TB) ({ frames := 2, cells := 0, slots := 0, locals := 45 }) [.ref h, .int x, .int y] f (fun (r : Int32) (f1 : hm) => z_act (w 2 i) (m1 2 i) fv (u 15) = r ∧ f = f1) 0 0 := by
  refine hm_enter (Qc := fun sz => va_Qi _ (hm_R D vwCl (tyL k) f sz) (hm_A f sz)) (by decide) rfl (Nat.le_of_ble_eq_true rfl) ?_
  intro p e s m below meth cd ls X0 hr hlk hin hK hM hS hA hl Q hQ
  have X : CallFix p m cd b_GrantServer_active 4 s ([.ref h, .int x, .int y] : List Value).toArray TB R_GrantServer := ⟨X0.1, X0.2.1, X0.2.2.1, X0.2.2.2.1, fun w h => X0.2.2.2.2 w (List.mem_cons_of_mem _ h)⟩
  have hx := X.1; have hb := X.2.1; have hml := X.2.2.1; have hown := X.2.2.2.1; have hts := X.2.2.2.2
  have hl : lv_has ls 4 [(0, .ref h), (1, .int x), (2, .int y)] := hl
  refine lv_aload_n hx hb d_GrantServer_active_0 rfl (lv_at hl 0 rfl) ?_
  refine lv_iload_n hx hb d_GrantServer_active_1 rfl (lv_at hl 1 rfl) ?_
  refine hm_callq hS hM hA (va_runV (As := [.int x]) (rest := []) X (c_shelfOf l D k f h u ad x hh  s.heap.size) (hm_cwV hts me_GrantServer_shelfOf wl_GrantServer_178 rfl rfl ⟨Nat.le_of_ble_eq_true rfl, Nat.le_of_ble_eq_true rfl⟩) (hm_preV hM hK hh rfl) rfl rfl hl.1 rfl (lv_room (Nat.le_of_ble_eq_true rfl)) d_GrantServer_active_2 ⟨Nat.le_of_ble_eq_true rfl, Nat.le_of_ble_eq_true rfl⟩) (fun r3 f1 H locs p2 hM hS => ?_)
  obtain ⟨rfl, rfl⟩ := p2
  refine hm_topq (show z_shelf ad x = some (ad 6) by simp [z_shelf, hx9]) ?_
  refine lv_astore_n (lv' := [(3, .ref (ad 6)), (0, .ref h), (1, .int x), (2, .int y)]) hx hb d_GrantServer_active_5 rfl hl (by decide) rfl (fun ls hl => ?_)
  refine lv_aload_n hx hb d_GrantServer_active_6 rfl (lv_at hl 0 rfl) ?_
  refine lv_ifnull hx hb d_GrantServer_active_7 ?_
  refine lv_aload_n hx hb d_GrantServer_active_10 rfl (lv_at hl 0 rfl) ?_
  refine lv_iload_n hx hb d_GrantServer_active_11 rfl (lv_at hl 3 rfl) ?_
  refine lv_aload_n hx hb d_GrantServer_active_12 rfl (lv_at hl 1 rfl) ?_
  refine hm_get X hK hM hh fl_GrantServer_60 (v := .int (u 15)) rfl d_GrantServer_active_13 ?_
  refine hm_calli hS hM hA (va_runV (As := [.int y, .int (u 15)]) (rest := []) X (c_hasActive l D k f (ad 6) (ad 16) 24 (us 2) (g 2) (w 2) (m1 2) i q fs fa fv y (u 15) hs2 hr2 hq hu (by decide) hrows hfi hgq hfam H.size) (hm_cwV hts me_Shelf_hasActive wl_GrantServer_182 rfl rfl ⟨Nat.le_of_ble_eq_true rfl, Nat.le_of_ble_eq_true rfl⟩) (hm_preV hM hK hs2 rfl) rfl rfl hl.1 rfl (lv_room (Nat.le_of_ble_eq_true rfl)) d_GrantServer_active_16 ⟨Nat.le_of_ble_eq_true rfl, Nat.le_of_ble_eq_true rfl⟩) (fun r6 f4 H locs p5 hM hS => ?_)
  obtain ⟨rfl, rfl⟩ := p5
  refine lv_if_eq (tgt := 26) hx hb d_GrantServer_active_19 (by decide) (fun h7 => ?_) (fun h7 => ?_)
  · refine lv_iconst (v := 0) hx hb d_GrantServer_active_26 (by decide) ?_
    exact hm_zret X hQ hr hlk hK hM hS rfl d_GrantServer_active_27 ⟨h7, rfl⟩
  · refine lv_iconst (v := 1) hx hb d_GrantServer_active_22 (by decide) ?_
    refine lv_goto (tgt := 27) hx hb d_GrantServer_active_23 (by decide) ?_
    exact hm_zret X hQ hr hlk hK hM hS rfl d_GrantServer_active_27 ⟨(z_act_b h7), rfl⟩
set_option maxHeartbeats 4000000 in
set_option maxRecDepth 100000 in
theorem c_count_rows2 (l : Launch) (D : va_G) (k : Nat → ClassId) (f : hm) (h : Nat) (u : Nat → Int32) (ad : Nat → Nat) (us : Nat → Nat) (g : Nat → Nat → Option Nat) (w : Nat → Nat → Nat → Int32) (m1 : Nat → Nat → Option Nat) (x : Int32) (y : Int32) (hh : f h = some (.inr (0, gsV u ad))) (hs2 : f (ad 6) = some (.inr (4, [.ref (ad 16), .int (nI (us 2))]))) (hr2 : f (ad 16) = some (.inl (k 3, 24, .inr (.inr (.inr (.inr (g 2))))))) (hx9 : x = 2) (hy9 : y = 0) : hm_Mi l D vwCl (tyL k) y_GrantServer_count (Cond.code y_GrantServer_count b_GrantServer_count 4 (some .int) :: TB) ({ frames := 1, cells := 0, slots := 0, locals := 21 }) [.ref h, .int x, .int y] f (fun (r : Int32) (f1 : hm) => nI (us 2) = r ∧ f = f1) 0 0 := by
  refine hm_enter (Qc := fun sz => va_Qi _ (hm_R D vwCl (tyL k) f sz) (hm_A f sz)) (by decide) rfl (Nat.le_of_ble_eq_true rfl) ?_
  intro p e s m below meth cd ls X0 hr hlk hin hK hM hS hA hl Q hQ
  have X : CallFix p m cd b_GrantServer_count 4 s ([.ref h, .int x, .int y] : List Value).toArray TB R_GrantServer := ⟨X0.1, X0.2.1, X0.2.2.1, X0.2.2.2.1, fun w h => X0.2.2.2.2 w (List.mem_cons_of_mem _ h)⟩
  have hx := X.1; have hb := X.2.1; have hml := X.2.2.1; have hown := X.2.2.2.1; have hts := X.2.2.2.2
  have hl : lv_has ls 4 [(0, .ref h), (1, .int x), (2, .int y)] := hl
  refine lv_aload_n hx hb d_GrantServer_count_0 rfl (lv_at hl 0 rfl) ?_
  refine lv_iload_n hx hb d_GrantServer_count_1 rfl (lv_at hl 1 rfl) ?_
  refine hm_callq hS hM hA (va_runV (As := [.int x]) (rest := []) X (c_shelfOf l D k f h u ad x hh  s.heap.size) (hm_cwV hts me_GrantServer_shelfOf wl_GrantServer_178 rfl rfl ⟨Nat.le_of_ble_eq_true rfl, Nat.le_of_ble_eq_true rfl⟩) (hm_preV hM hK hh rfl) rfl rfl hl.1 rfl (lv_room (Nat.le_of_ble_eq_true rfl)) d_GrantServer_count_2 ⟨Nat.le_of_ble_eq_true rfl, Nat.le_of_ble_eq_true rfl⟩) (fun r3 f1 H locs p2 hM hS => ?_)
  obtain ⟨rfl, rfl⟩ := p2
  refine hm_topq (show z_shelf ad x = some (ad 6) by simp [z_shelf, hx9]) ?_
  refine lv_astore_n (lv' := [(3, .ref (ad 6)), (0, .ref h), (1, .int x), (2, .int y)]) hx hb d_GrantServer_count_5 rfl hl (by decide) rfl (fun ls hl => ?_)
  refine lv_aload_n hx hb d_GrantServer_count_6 rfl (lv_at hl 0 rfl) ?_
  refine lv_ifnonnull (tgt := 12) hx hb d_GrantServer_count_7 (by decide) ?_
  refine lv_iload_n hx hb d_GrantServer_count_12 rfl (lv_at hl 3 rfl) ?_
  refine lv_if_eq (tgt := 27) hx hb d_GrantServer_count_13 (by decide) (fun h4 => ?_) (fun h4 => ?_)
  · refine lv_aload_n hx hb d_GrantServer_count_27 rfl (lv_at hl 0 rfl) ?_
    refine hm_calli hS hM hA (va_runV (As := []) (rest := []) X (c_Shelf_rows l D k f (ad 6) (ad 16) (nI (us 2)) hs2  H.size) (hm_cwV hts me_Shelf_rows wl_GrantServer_240 rfl rfl ⟨Nat.le_of_ble_eq_true rfl, Nat.le_of_ble_eq_true rfl⟩) (hm_preV hM hK hs2 rfl) rfl rfl hl.1 rfl (lv_room (Nat.le_of_ble_eq_true rfl)) d_GrantServer_count_28 ⟨Nat.le_of_ble_eq_true rfl, Nat.le_of_ble_eq_true rfl⟩) (fun r7 f5 H locs p6 hM hS => ?_)
    obtain ⟨rfl, rfl⟩ := p6
    exact hm_iret X hQ hr hlk hK hM hS d_GrantServer_count_31 ⟨rfl, rfl⟩
  · exact absurd hy9 h4
set_option maxHeartbeats 4000000 in
set_option maxRecDepth 100000 in
theorem c_count_act2 (l : Launch) (D : va_G) (k : Nat → ClassId) (f : hm) (h : Nat) (u : Nat → Int32) (ad : Nat → Nat) (us : Nat → Nat) (g : Nat → Nat → Option Nat) (w : Nat → Nat → Nat → Int32) (m1 : Nat → Nat → Option Nat) (fs : Nat → Int32) (fa : Nat → Int32) (fv : Nat → Int32) (x : Int32) (y : Int32) (hh : f h = some (.inr (0, gsV u ad))) (hs2 : f (ad 6) = some (.inr (4, [.ref (ad 16), .int (nI (us 2))]))) (hr2 : f (ad 16) = some (.inl (k 3, 24, .inr (.inr (.inr (.inr (g 2))))))) (hx9 : x = 2) (hy9 : ¬ y = 0) (hu : us 2 ≤ 24) (hrows : ∀ i, i < us 2 → ∃ q, g 2 i = some q ∧ f q = some (.inr (3, gV (w 2 i) (m1 2 i)))) (hfam : ∀ i, i < us 2 → ∀ z, m1 2 i = some z → f z = some (.inr (2, [.int (fs i), .int (fa i), .int (fv i)]))) : hm_Mi l D vwCl (tyL k) y_GrantServer_count (Cond.code y_GrantServer_count b_GrantServer_count 4 (some .int) :: TB) ({ frames := 2, cells := 0, slots := 0, locals := 44 }) [.ref h, .int x, .int y] f (fun (r : Int32) (f1 : hm) => nI (z_cn (w 2) (m1 2) fv (u 15) (us 2)) = r ∧ f = f1) 0 0 := by
  refine hm_enter (Qc := fun sz => va_Qi _ (hm_R D vwCl (tyL k) f sz) (hm_A f sz)) (by decide) rfl (Nat.le_of_ble_eq_true rfl) ?_
  intro p e s m below meth cd ls X0 hr hlk hin hK hM hS hA hl Q hQ
  have X : CallFix p m cd b_GrantServer_count 4 s ([.ref h, .int x, .int y] : List Value).toArray TB R_GrantServer := ⟨X0.1, X0.2.1, X0.2.2.1, X0.2.2.2.1, fun w h => X0.2.2.2.2 w (List.mem_cons_of_mem _ h)⟩
  have hx := X.1; have hb := X.2.1; have hml := X.2.2.1; have hown := X.2.2.2.1; have hts := X.2.2.2.2
  have hl : lv_has ls 4 [(0, .ref h), (1, .int x), (2, .int y)] := hl
  refine lv_aload_n hx hb d_GrantServer_count_0 rfl (lv_at hl 0 rfl) ?_
  refine lv_iload_n hx hb d_GrantServer_count_1 rfl (lv_at hl 1 rfl) ?_
  refine hm_callq hS hM hA (va_runV (As := [.int x]) (rest := []) X (c_shelfOf l D k f h u ad x hh  s.heap.size) (hm_cwV hts me_GrantServer_shelfOf wl_GrantServer_178 rfl rfl ⟨Nat.le_of_ble_eq_true rfl, Nat.le_of_ble_eq_true rfl⟩) (hm_preV hM hK hh rfl) rfl rfl hl.1 rfl (lv_room (Nat.le_of_ble_eq_true rfl)) d_GrantServer_count_2 ⟨Nat.le_of_ble_eq_true rfl, Nat.le_of_ble_eq_true rfl⟩) (fun r3 f1 H locs p2 hM hS => ?_)
  obtain ⟨rfl, rfl⟩ := p2
  refine hm_topq (show z_shelf ad x = some (ad 6) by simp [z_shelf, hx9]) ?_
  refine lv_astore_n (lv' := [(3, .ref (ad 6)), (0, .ref h), (1, .int x), (2, .int y)]) hx hb d_GrantServer_count_5 rfl hl (by decide) rfl (fun ls hl => ?_)
  refine lv_aload_n hx hb d_GrantServer_count_6 rfl (lv_at hl 0 rfl) ?_
  refine lv_ifnonnull (tgt := 12) hx hb d_GrantServer_count_7 (by decide) ?_
  refine lv_iload_n hx hb d_GrantServer_count_12 rfl (lv_at hl 3 rfl) ?_
  refine lv_if_eq (tgt := 27) hx hb d_GrantServer_count_13 (by decide) (fun h4 => ?_) (fun h4 => ?_)
  · exact absurd h4 hy9
  · refine lv_aload_n hx hb d_GrantServer_count_16 rfl (lv_at hl 0 rfl) ?_
    refine lv_aload_n hx hb d_GrantServer_count_17 rfl (lv_at hl 1 rfl) ?_
    refine hm_get X hK hM hh fl_GrantServer_60 (v := .int (u 15)) rfl d_GrantServer_count_18 ?_
    refine hm_calli hS hM hA (va_runV (As := [.int (u 15)]) (rest := []) X (c_activeRows l D k f (ad 6) (ad 16) 24 (us 2) (g 2) (w 2) (m1 2) fs fa fv (u 15) hs2 hr2 hu (by decide) hrows hfam H.size) (hm_cwV hts me_Shelf_activeRows wl_GrantServer_237 rfl rfl ⟨Nat.le_of_ble_eq_true rfl, Nat.le_of_ble_eq_true rfl⟩) (hm_preV hM hK hs2 rfl) rfl rfl hl.1 rfl (lv_room (Nat.le_of_ble_eq_true rfl)) d_GrantServer_count_21 ⟨Nat.le_of_ble_eq_true rfl, Nat.le_of_ble_eq_true rfl⟩) (fun r7 f5 H locs p6 hM hS => ?_)
    obtain ⟨rfl, rfl⟩ := p6
    refine lv_goto (tgt := 31) hx hb d_GrantServer_count_24 (by decide) ?_
    exact hm_iret X hQ hr hlk hK hM hS d_GrantServer_count_31 ⟨rfl, rfl⟩
set_option maxHeartbeats 4000000 in
set_option maxRecDepth 100000 in
theorem c_sweep (l : Launch) (D : va_G) (k : Nat → ClassId) (f : hm) (h : Nat) (u : Nat → Int32) (ad : Nat → Nat) (us : Nat → Nat) (g : Nat → Nat → Option Nat) (w : Nat → Nat → Nat → Int32) (m1 : Nat → Nat → Option Nat) (hh : f h = some (.inr (0, gsV u ad))) (hs0 : f (ad 4) = some (.inr (4, [.ref (ad 14), .int (nI (us 0))]))) (hr0 : f (ad 14) = some (.inl (k 3, 16, .inr (.inr (.inr (.inr (g 0))))))) (hs1 : f (ad 5) = some (.inr (4, [.ref (ad 15), .int (nI (us 1))]))) (hr1 : f (ad 15) = some (.inl (k 3, 24, .inr (.inr (.inr (.inr (g 1))))))) (hs2 : f (ad 6) = some (.inr (4, [.ref (ad 16), .int (nI (us 2))]))) (hr2 : f (ad 16) = some (.inl (k 3, 24, .inr (.inr (.inr (.inr (g 2))))))) (hap : gs_ap ad) (hu0 : us 0 ≤ 16) (hu1 : us 1 ≤ 24) (hu2 : us 2 ≤ 24) (hall0 : ∀ i, i < 16 → ∃ q, g 0 i = some q ∧ f q = some (.inr (3, gV (w 0 i) (m1 0 i)))) (hall1 : ∀ i, i < 24 → ∃ q, g 1 i = some q ∧ f q = some (.inr (3, gV (w 1 i) (m1 1 i)))) (hall2 : ∀ i, i < 24 → ∃ q, g 2 i = some q ∧ f q = some (.inr (3, gV (w 2 i) (m1 2 i)))) : hm_Mi l D vwCl (tyL k) y_GrantServer_sweep (Cond.code y_GrantServer_sweep b_GrantServer_sweep 1 (some .int) :: TB) ({ frames := 2, cells := 0, slots := 0, locals := 46 }) [.ref h] f (fun (r : Int32) (f1 : hm) => ∃ (kk0 : Nat) (kk1 : Nat) (kk2 : Nat) (pi0 : Nat → Nat) (pi1 : Nat → Nat) (pi2 : Nat → Nat), nI (us 0 - kk0) + nI (us 1 - kk1) + nI (us 2 - kk2) = r ∧ (kk0 ≤ us 0) ∧ (z_pm 16 pi0) ∧ (z_perm (w 0) (u 15) (us 0) kk0 pi0) ∧ (kk1 ≤ us 1) ∧ (z_pm 24 pi1) ∧ (z_perm (w 1) (u 15) (us 1) kk1 pi1) ∧ (kk2 ≤ us 2) ∧ (z_pm 24 pi2) ∧ (z_perm (w 2) (u 15) (us 2) kk2 pi2) ∧ f1 (ad 4) = some (.inr (4, [.ref (ad 14), .int (nI kk0)])) ∧ f1 (ad 5) = some (.inr (4, [.ref (ad 15), .int (nI kk1)])) ∧ f1 (ad 6) = some (.inr (4, [.ref (ad 16), .int (nI kk2)])) ∧ f1 (ad 14) = some (.inl (k 3, 16, .inr (.inr (.inr (.inr (fun i => g 0 (pi0 i))))))) ∧ f1 (ad 15) = some (.inl (k 3, 24, .inr (.inr (.inr (.inr (fun i => g 1 (pi1 i))))))) ∧ f1 (ad 16) = some (.inl (k 3, 24, .inr (.inr (.inr (.inr (fun i => g 2 (pi2 i))))))) ∧ ∀ (zq : Nat) (zx : va_E), zq ≠ (ad 4) → zq ≠ (ad 5) → zq ≠ (ad 6) → zq ≠ (ad 14) → zq ≠ (ad 15) → zq ≠ (ad 16) → f zq = some zx → f1 zq = some zx) 0 0 := by
  refine hm_enter (Qc := fun sz => va_Qi _ (hm_R D vwCl (tyL k) f sz) (hm_A f sz)) (by decide) rfl (Nat.le_of_ble_eq_true rfl) ?_
  intro p e s m below meth cd ls X0 hr hlk hin hK hM hS hA hl Q hQ
  have X : CallFix p m cd b_GrantServer_sweep 1 s ([.ref h] : List Value).toArray TB R_GrantServer := ⟨X0.1, X0.2.1, X0.2.2.1, X0.2.2.2.1, fun w h => X0.2.2.2.2 w (List.mem_cons_of_mem _ h)⟩
  have hx := X.1; have hb := X.2.1; have hml := X.2.2.1; have hown := X.2.2.2.1; have hts := X.2.2.2.2
  have hl : lv_has ls 1 [(0, .ref h)] := hl
  refine lv_aload_n hx hb d_GrantServer_sweep_0 rfl (lv_at hl 0 rfl) ?_
  refine hm_get X hK hM hh fl_GrantServer_20 (v := .ref (ad 4)) rfl d_GrantServer_sweep_1 ?_
  refine lv_aload_n hx hb d_GrantServer_sweep_4 rfl (lv_at hl 0 rfl) ?_
  refine hm_get X hK hM hh fl_GrantServer_60 (v := .int (u 15)) rfl d_GrantServer_sweep_5 ?_
  refine hm_calli hS hM hA (va_runV (As := [.int (u 15)]) (rest := []) X (c_dropEnded l D k f (ad 4) (ad 14) 16 (us 0) (g 0) (w 0) (m1 0) (u 15) hs0 hr0 hu0 (by decide) hall0 s.heap.size) (hm_cwV hts me_Shelf_dropEnded wl_GrantServer_234 rfl rfl ⟨Nat.le_of_ble_eq_true rfl, Nat.le_of_ble_eq_true rfl⟩) (hm_preV hM hK hs0 rfl) rfl rfl hl.1 rfl (lv_room (Nat.le_of_ble_eq_true rfl)) d_GrantServer_sweep_8 ⟨Nat.le_of_ble_eq_true rfl, Nat.le_of_ble_eq_true rfl⟩) (fun r3 f1 H locs p2 hM hS => ?_)
  obtain ⟨x4, x5, rfl, h6, h7, h8, g9, g10, hfr11⟩ := p2
  refine lv_aload_n hx hb d_GrantServer_sweep_11 rfl (lv_at hl 0 rfl) ?_
  have g12 : f1 h = some (.inr (0, gsV u ad)) := hfr11 _ _ (hm_neI hh hs0 (by decide)) (hm_neA hh hr0) hh
  refine hm_get X hK hM g12 fl_GrantServer_24 (v := .ref (ad 5)) rfl d_GrantServer_sweep_12 ?_
  refine lv_aload_n hx hb d_GrantServer_sweep_15 rfl (lv_at hl 0 rfl) ?_
  refine hm_get X hK hM g12 fl_GrantServer_60 (v := .int (u 15)) rfl d_GrantServer_sweep_16 ?_
  have g13 : f1 (ad 5) = some (.inr (4, [.ref (ad 15), .int (nI (us 1))])) := hfr11 _ _ (fun z => absurd (hap 5 4 (by decide) (by decide) rfl rfl z) (by decide)) (fun z => absurd (hap 5 14 (by decide) (by decide) rfl rfl z) (by decide)) hs1
  have g14 : f1 (ad 15) = some (.inl (k 3, 24, .inr (.inr (.inr (.inr (g 1)))))) := hfr11 _ _ (fun z => absurd (hap 15 4 (by decide) (by decide) rfl rfl z) (by decide)) (fun z => absurd (hap 15 14 (by decide) (by decide) rfl rfl z) (by decide)) hr1
  have g15 : f1 (ad 6) = some (.inr (4, [.ref (ad 16), .int (nI (us 2))])) := hfr11 _ _ (fun z => absurd (hap 6 4 (by decide) (by decide) rfl rfl z) (by decide)) (fun z => absurd (hap 6 14 (by decide) (by decide) rfl rfl z) (by decide)) hs2
  have g16 : f1 (ad 16) = some (.inl (k 3, 24, .inr (.inr (.inr (.inr (g 2)))))) := hfr11 _ _ (fun z => absurd (hap 16 4 (by decide) (by decide) rfl rfl z) (by decide)) (fun z => absurd (hap 16 14 (by decide) (by decide) rfl rfl z) (by decide)) hr2
  refine hm_calli hS hM hA (va_runV (As := [.int (u 15)]) (rest := [.int (nI ((us 0) - x4))]) X (c_dropEnded l D k f1 (ad 5) (ad 15) 24 (us 1) (g 1) (w 1) (m1 1) (u 15) g13 g14 hu1 (by decide) (fun i hi => by obtain ⟨q, e1, t0⟩ := hall1 i hi; have t1 := hfr11 _ _ (hm_neI t0 hs0 (by decide)) (hm_neA t0 hr0) t0; exact ⟨q, e1, t1⟩) H.size) (hm_cwV hts me_Shelf_dropEnded wl_GrantServer_234 rfl rfl ⟨Nat.le_of_ble_eq_true rfl, Nat.le_of_ble_eq_true rfl⟩) (hm_preV hM hK g13 rfl) rfl rfl hl.1 rfl (lv_room (Nat.le_of_ble_eq_true rfl)) d_GrantServer_sweep_19 ⟨Nat.le_of_ble_eq_true rfl, Nat.le_of_ble_eq_true rfl⟩) (fun r19 f17 H locs p18 hM hS => ?_)
  obtain ⟨x20, x21, rfl, h22, h23, h24, g25, g26, hfr27⟩ := p18
  refine lv_iadd hx hb d_GrantServer_sweep_22 ?_
  refine lv_aload_n hx hb d_GrantServer_sweep_23 rfl (lv_at hl 0 rfl) ?_
  have g28 : f17 h = some (.inr (0, gsV u ad)) := hfr27 _ _ (hm_neI g12 g13 (by decide)) (hm_neA g12 g14) g12
  refine hm_get X hK hM g28 fl_GrantServer_27 (v := .ref (ad 6)) rfl d_GrantServer_sweep_24 ?_
  refine lv_aload_n hx hb d_GrantServer_sweep_27 rfl (lv_at hl 0 rfl) ?_
  refine hm_get X hK hM g28 fl_GrantServer_60 (v := .int (u 15)) rfl d_GrantServer_sweep_28 ?_
  have g29 : f17 (ad 6) = some (.inr (4, [.ref (ad 16), .int (nI (us 2))])) := hfr27 _ _ (fun z => absurd (hap 6 5 (by decide) (by decide) rfl rfl z) (by decide)) (fun z => absurd (hap 6 15 (by decide) (by decide) rfl rfl z) (by decide)) g15
  have g30 : f17 (ad 16) = some (.inl (k 3, 24, .inr (.inr (.inr (.inr (g 2)))))) := hfr27 _ _ (fun z => absurd (hap 16 5 (by decide) (by decide) rfl rfl z) (by decide)) (fun z => absurd (hap 16 15 (by decide) (by decide) rfl rfl z) (by decide)) g16
  have g31 : f17 (ad 4) = some (.inr (4, [.ref (ad 14), .int (nI x4)])) := hfr27 _ _ (fun z => absurd (hap 4 5 (by decide) (by decide) rfl rfl z) (by decide)) (fun z => absurd (hap 4 15 (by decide) (by decide) rfl rfl z) (by decide)) g9
  have g32 : f17 (ad 14) = some (.inl (k 3, 16, .inr (.inr (.inr (.inr (fun i => (g 0) (x5 i))))))) := hfr27 _ _ (fun z => absurd (hap 14 5 (by decide) (by decide) rfl rfl z) (by decide)) (fun z => absurd (hap 14 15 (by decide) (by decide) rfl rfl z) (by decide)) g10
  refine hm_calli hS hM hA (va_runV (As := [.int (u 15)]) (rest := [.int ((nI ((us 0) - x4)) + (nI ((us 1) - x20)))]) X (c_dropEnded l D k f17 (ad 6) (ad 16) 24 (us 2) (g 2) (w 2) (m1 2) (u 15) g29 g30 hu2 (by decide) (fun i hi => by obtain ⟨q, e1, t0⟩ := hall2 i hi; have t1 := hfr11 _ _ (hm_neI t0 hs0 (by decide)) (hm_neA t0 hr0) t0; have t2 := hfr27 _ _ (hm_neI t1 g13 (by decide)) (hm_neA t1 g14) t1; exact ⟨q, e1, t2⟩) H.size) (hm_cwV hts me_Shelf_dropEnded wl_GrantServer_234 rfl rfl ⟨Nat.le_of_ble_eq_true rfl, Nat.le_of_ble_eq_true rfl⟩) (hm_preV hM hK g29 rfl) rfl rfl hl.1 rfl (lv_room (Nat.le_of_ble_eq_true rfl)) d_GrantServer_sweep_31 ⟨Nat.le_of_ble_eq_true rfl, Nat.le_of_ble_eq_true rfl⟩) (fun r35 f33 H locs p34 hM hS => ?_)
  obtain ⟨x36, x37, rfl, h38, h39, h40, g41, g42, hfr43⟩ := p34
  refine lv_iadd hx hb d_GrantServer_sweep_34 ?_
  have g44 : f33 (ad 4) = some (.inr (4, [.ref (ad 14), .int (nI x4)])) := hfr43 _ _ (fun z => absurd (hap 4 6 (by decide) (by decide) rfl rfl z) (by decide)) (fun z => absurd (hap 4 16 (by decide) (by decide) rfl rfl z) (by decide)) g31
  have g45 : f33 (ad 5) = some (.inr (4, [.ref (ad 15), .int (nI x20)])) := hfr43 _ _ (fun z => absurd (hap 5 6 (by decide) (by decide) rfl rfl z) (by decide)) (fun z => absurd (hap 5 16 (by decide) (by decide) rfl rfl z) (by decide)) g25
  have g46 : f33 (ad 14) = some (.inl (k 3, 16, .inr (.inr (.inr (.inr (fun i => (g 0) (x5 i))))))) := hfr43 _ _ (fun z => absurd (hap 14 6 (by decide) (by decide) rfl rfl z) (by decide)) (fun z => absurd (hap 14 16 (by decide) (by decide) rfl rfl z) (by decide)) g32
  have g47 : f33 (ad 15) = some (.inl (k 3, 24, .inr (.inr (.inr (.inr (fun i => (g 1) (x21 i))))))) := hfr43 _ _ (fun z => absurd (hap 15 6 (by decide) (by decide) rfl rfl z) (by decide)) (fun z => absurd (hap 15 16 (by decide) (by decide) rfl rfl z) (by decide)) g26
  exact hm_iret X hQ hr hlk hK hM hS d_GrantServer_sweep_35 ⟨x4, x20, x36, x5, x21, x37, rfl, h6, h7, h8, h22, h23, h24, h38, h39, h40, g44, g45, g41, g46, g47, g42, (fun zq zx n0 n1 n2 n3 n4 n5 hq => by have t0 := hq; have t1 := hfr11 _ _ n0 n3 t0; have t2 := hfr27 _ _ n1 n4 t1; have t3 := hfr43 _ _ n2 n5 t2; exact t3)⟩
