theorem d_GrantServer_isFree_0 : decode b_GrantServer_isFree 0 = .ok (.iload_n 1, 1) := by decide +kernel
theorem d_GrantServer_isFree_1 : decode b_GrantServer_isFree 1 = .ok (.iconst 1, 1) := by decide +kernel
theorem d_GrantServer_isFree_2 : decode b_GrantServer_isFree 2 = .ok (.if_icmp .lt 35, 3) := by decide +kernel
theorem d_GrantServer_isFree_5 : decode b_GrantServer_isFree 5 = .ok (.iload_n 1, 1) := by decide +kernel
theorem d_GrantServer_isFree_6 : decode b_GrantServer_isFree 6 = .ok (.ldc 251, 2) := by decide +kernel
theorem d_GrantServer_isFree_8 : decode b_GrantServer_isFree 8 = .ok (.if_icmp .gt 29, 3) := by decide +kernel
theorem d_GrantServer_isFree_11 : decode b_GrantServer_isFree 11 = .ok (.aload_n 0, 1) := by decide +kernel
theorem d_GrantServer_isFree_12 : decode b_GrantServer_isFree 12 = .ok (.getfield 20, 3) := by decide +kernel
theorem d_GrantServer_isFree_15 : decode b_GrantServer_isFree 15 = .ok (.iload_n 1, 1) := by decide +kernel
theorem d_GrantServer_isFree_16 : decode b_GrantServer_isFree 16 = .ok (.invokevirtual 252, 3) := by decide +kernel
theorem d_GrantServer_isFree_19 : decode b_GrantServer_isFree 19 = .ok (.ifnonnull 18, 3) := by decide +kernel
theorem d_GrantServer_isFree_22 : decode b_GrantServer_isFree 22 = .ok (.aload_n 0, 1) := by decide +kernel
theorem d_GrantServer_isFree_23 : decode b_GrantServer_isFree 23 = .ok (.getfield 24, 3) := by decide +kernel
theorem d_GrantServer_isFree_26 : decode b_GrantServer_isFree 26 = .ok (.iload_n 1, 1) := by decide +kernel
theorem d_GrantServer_isFree_27 : decode b_GrantServer_isFree 27 = .ok (.invokevirtual 252, 3) := by decide +kernel
theorem d_GrantServer_isFree_30 : decode b_GrantServer_isFree 30 = .ok (.ifnonnull 7, 3) := by decide +kernel
theorem d_GrantServer_isFree_33 : decode b_GrantServer_isFree 33 = .ok (.iconst 1, 1) := by decide +kernel
theorem d_GrantServer_isFree_34 : decode b_GrantServer_isFree 34 = .ok (.goto 4, 3) := by decide +kernel
theorem d_GrantServer_isFree_37 : decode b_GrantServer_isFree 37 = .ok (.iconst 0, 1) := by decide +kernel
theorem d_GrantServer_isFree_38 : decode b_GrantServer_isFree 38 = .ok (.ireturn, 1) := by decide +kernel
theorem d_GrantServer_refusalOfNewTokens_0 : decode b_GrantServer_refusalOfNewTokens 0 = .ok (.aload_n 0, 1) := by decide +kernel
theorem d_GrantServer_refusalOfNewTokens_1 : decode b_GrantServer_refusalOfNewTokens 1 = .ok (.iload_n 1, 1) := by decide +kernel
theorem d_GrantServer_refusalOfNewTokens_2 : decode b_GrantServer_refusalOfNewTokens 2 = .ok (.invokevirtual 108, 3) := by decide +kernel
theorem d_GrantServer_refusalOfNewTokens_5 : decode b_GrantServer_refusalOfNewTokens 5 = .ok (.ifCond .ne 6, 3) := by decide +kernel
theorem d_GrantServer_refusalOfNewTokens_8 : decode b_GrantServer_refusalOfNewTokens 8 = .ok (.bipush (-5), 2) := by decide +kernel
theorem d_GrantServer_refusalOfNewTokens_10 : decode b_GrantServer_refusalOfNewTokens 10 = .ok (.ireturn, 1) := by decide +kernel
theorem d_GrantServer_refusalOfNewTokens_11 : decode b_GrantServer_refusalOfNewTokens 11 = .ok (.aload_n 0, 1) := by decide +kernel
theorem d_GrantServer_refusalOfNewTokens_12 : decode b_GrantServer_refusalOfNewTokens 12 = .ok (.getfield 24, 3) := by decide +kernel
theorem d_GrantServer_refusalOfNewTokens_15 : decode b_GrantServer_refusalOfNewTokens 15 = .ok (.invokevirtual 111, 3) := by decide +kernel
theorem d_GrantServer_refusalOfNewTokens_18 : decode b_GrantServer_refusalOfNewTokens 18 = .ok (.ifCond .ne 13, 3) := by decide +kernel
theorem d_GrantServer_refusalOfNewTokens_21 : decode b_GrantServer_refusalOfNewTokens 21 = .ok (.aload_n 0, 1) := by decide +kernel
theorem d_GrantServer_refusalOfNewTokens_22 : decode b_GrantServer_refusalOfNewTokens 22 = .ok (.getfield 27, 3) := by decide +kernel
theorem d_GrantServer_refusalOfNewTokens_25 : decode b_GrantServer_refusalOfNewTokens 25 = .ok (.invokevirtual 111, 3) := by decide +kernel
theorem d_GrantServer_refusalOfNewTokens_28 : decode b_GrantServer_refusalOfNewTokens 28 = .ok (.ifCond .eq 8, 3) := by decide +kernel
theorem d_GrantServer_refusalOfNewTokens_31 : decode b_GrantServer_refusalOfNewTokens 31 = .ok (.bipush (-6), 2) := by decide +kernel
theorem d_GrantServer_refusalOfNewTokens_33 : decode b_GrantServer_refusalOfNewTokens 33 = .ok (.goto 4, 3) := by decide +kernel
theorem d_GrantServer_refusalOfNewTokens_36 : decode b_GrantServer_refusalOfNewTokens 36 = .ok (.iconst 0, 1) := by decide +kernel
theorem d_GrantServer_refusalOfNewTokens_37 : decode b_GrantServer_refusalOfNewTokens 37 = .ok (.ireturn, 1) := by decide +kernel
theorem d_GrantServer_giveTokens_0 : decode b_GrantServer_giveTokens 0 = .ok (.aload_n 0, 1) := by decide +kernel
theorem d_GrantServer_giveTokens_1 : decode b_GrantServer_giveTokens 1 = .ok (.getfield 24, 3) := by decide +kernel
theorem d_GrantServer_giveTokens_4 : decode b_GrantServer_giveTokens 4 = .ok (.invokevirtual 115, 3) := by decide +kernel
theorem d_GrantServer_giveTokens_7 : decode b_GrantServer_giveTokens 7 = .ok (.astore 5, 2) := by decide +kernel
theorem d_GrantServer_giveTokens_9 : decode b_GrantServer_giveTokens 9 = .ok (.aload 5, 2) := by decide +kernel
theorem d_GrantServer_giveTokens_11 : decode b_GrantServer_giveTokens 11 = .ok (.iload 4, 2) := by decide +kernel
theorem d_GrantServer_giveTokens_13 : decode b_GrantServer_giveTokens 13 = .ok (.iload_n 2, 1) := by decide +kernel
theorem d_GrantServer_giveTokens_14 : decode b_GrantServer_giveTokens 14 = .ok (.aload_n 1, 1) := by decide +kernel
theorem d_GrantServer_giveTokens_15 : decode b_GrantServer_giveTokens 15 = .ok (.getfield 167, 3) := by decide +kernel
theorem d_GrantServer_giveTokens_18 : decode b_GrantServer_giveTokens 18 = .ok (.aload_n 0, 1) := by decide +kernel
theorem d_GrantServer_giveTokens_19 : decode b_GrantServer_giveTokens 19 = .ok (.getfield 60, 3) := by decide +kernel
theorem d_GrantServer_giveTokens_22 : decode b_GrantServer_giveTokens 22 = .ok (.aload_n 0, 1) := by decide +kernel
theorem d_GrantServer_giveTokens_23 : decode b_GrantServer_giveTokens 23 = .ok (.getfield 80, 3) := by decide +kernel
theorem d_GrantServer_giveTokens_26 : decode b_GrantServer_giveTokens 26 = .ok (.iadd, 1) := by decide +kernel
theorem d_GrantServer_giveTokens_27 : decode b_GrantServer_giveTokens 27 = .ok (.aload_n 1, 1) := by decide +kernel
theorem d_GrantServer_giveTokens_28 : decode b_GrantServer_giveTokens 28 = .ok (.invokevirtual 119, 3) := by decide +kernel
theorem d_GrantServer_giveTokens_31 : decode b_GrantServer_giveTokens 31 = .ok (.aload_n 0, 1) := by decide +kernel
theorem d_GrantServer_giveTokens_32 : decode b_GrantServer_giveTokens 32 = .ok (.dup, 1) := by decide +kernel
theorem d_GrantServer_giveTokens_33 : decode b_GrantServer_giveTokens 33 = .ok (.getfield 57, 3) := by decide +kernel
theorem d_GrantServer_giveTokens_36 : decode b_GrantServer_giveTokens 36 = .ok (.iconst 1, 1) := by decide +kernel
theorem d_GrantServer_giveTokens_37 : decode b_GrantServer_giveTokens 37 = .ok (.iadd, 1) := by decide +kernel
theorem d_GrantServer_giveTokens_38 : decode b_GrantServer_giveTokens 38 = .ok (.putfield 57, 3) := by decide +kernel
theorem d_GrantServer_giveTokens_41 : decode b_GrantServer_giveTokens 41 = .ok (.aload_n 0, 1) := by decide +kernel
theorem d_GrantServer_giveTokens_42 : decode b_GrantServer_giveTokens 42 = .ok (.getfield 27, 3) := by decide +kernel
theorem d_GrantServer_giveTokens_45 : decode b_GrantServer_giveTokens 45 = .ok (.invokevirtual 115, 3) := by decide +kernel
theorem d_GrantServer_giveTokens_48 : decode b_GrantServer_giveTokens 48 = .ok (.astore 6, 2) := by decide +kernel
theorem d_GrantServer_giveTokens_50 : decode b_GrantServer_giveTokens 50 = .ok (.aload 6, 2) := by decide +kernel
theorem d_GrantServer_giveTokens_52 : decode b_GrantServer_giveTokens 52 = .ok (.aload_n 0, 1) := by decide +kernel
theorem d_GrantServer_giveTokens_53 : decode b_GrantServer_giveTokens 53 = .ok (.getfield 57, 3) := by decide +kernel
theorem d_GrantServer_giveTokens_56 : decode b_GrantServer_giveTokens 56 = .ok (.iload_n 2, 1) := by decide +kernel
theorem d_GrantServer_giveTokens_57 : decode b_GrantServer_giveTokens 57 = .ok (.iload_n 3, 1) := by decide +kernel
theorem d_GrantServer_giveTokens_58 : decode b_GrantServer_giveTokens 58 = .ok (.aload_n 0, 1) := by decide +kernel
theorem d_GrantServer_giveTokens_59 : decode b_GrantServer_giveTokens 59 = .ok (.getfield 60, 3) := by decide +kernel
theorem d_GrantServer_giveTokens_62 : decode b_GrantServer_giveTokens 62 = .ok (.aload_n 0, 1) := by decide +kernel
theorem d_GrantServer_giveTokens_63 : decode b_GrantServer_giveTokens 63 = .ok (.getfield 77, 3) := by decide +kernel
theorem d_GrantServer_giveTokens_66 : decode b_GrantServer_giveTokens 66 = .ok (.iadd, 1) := by decide +kernel
theorem d_GrantServer_giveTokens_67 : decode b_GrantServer_giveTokens 67 = .ok (.aload_n 1, 1) := by decide +kernel
theorem d_GrantServer_giveTokens_68 : decode b_GrantServer_giveTokens 68 = .ok (.invokevirtual 119, 3) := by decide +kernel
theorem d_GrantServer_giveTokens_71 : decode b_GrantServer_giveTokens 71 = .ok (.aload_n 0, 1) := by decide +kernel
theorem d_GrantServer_giveTokens_72 : decode b_GrantServer_giveTokens 72 = .ok (.aload 6, 2) := by decide +kernel
theorem d_GrantServer_giveTokens_74 : decode b_GrantServer_giveTokens 74 = .ok (.aload_n 1, 1) := by decide +kernel
theorem d_GrantServer_giveTokens_75 : decode b_GrantServer_giveTokens 75 = .ok (.getfield 256, 3) := by decide +kernel
theorem d_GrantServer_giveTokens_78 : decode b_GrantServer_giveTokens 78 = .ok (.invokevirtual 259, 3) := by decide +kernel
theorem d_GrantServer_giveTokens_81 : decode b_GrantServer_giveTokens 81 = .ok (.aload_n 0, 1) := by decide +kernel
theorem d_GrantServer_giveTokens_82 : decode b_GrantServer_giveTokens 82 = .ok (.getfield 66, 3) := by decide +kernel
theorem d_GrantServer_giveTokens_85 : decode b_GrantServer_giveTokens 85 = .ok (.aload_n 0, 1) := by decide +kernel
theorem d_GrantServer_giveTokens_86 : decode b_GrantServer_giveTokens 86 = .ok (.getfield 40, 3) := by decide +kernel
theorem d_GrantServer_giveTokens_89 : decode b_GrantServer_giveTokens 89 = .ok (.aload_n 0, 1) := by decide +kernel
theorem d_GrantServer_giveTokens_90 : decode b_GrantServer_giveTokens 90 = .ok (.getfield 37, 3) := by decide +kernel
theorem d_GrantServer_giveTokens_93 : decode b_GrantServer_giveTokens 93 = .ok (.invokevirtual 231, 3) := by decide +kernel
theorem d_GrantServer_giveTokens_96 : decode b_GrantServer_giveTokens 96 = .ok (.aload 6, 2) := by decide +kernel
theorem d_GrantServer_giveTokens_98 : decode b_GrantServer_giveTokens 98 = .ok (.getfield 263, 3) := by decide +kernel
theorem d_GrantServer_giveTokens_101 : decode b_GrantServer_giveTokens 101 = .ok (.ireturn, 1) := by decide +kernel
theorem d_GrantServer_writeClaims_0 : decode b_GrantServer_writeClaims 0 = .ok (.aload_n 0, 1) := by decide +kernel
theorem d_GrantServer_writeClaims_1 : decode b_GrantServer_writeClaims 1 = .ok (.getfield 40, 3) := by decide +kernel
theorem d_GrantServer_writeClaims_4 : decode b_GrantServer_writeClaims 4 = .ok (.invokevirtual 218, 3) := by decide +kernel
theorem d_GrantServer_writeClaims_7 : decode b_GrantServer_writeClaims 7 = .ok (.aload_n 0, 1) := by decide +kernel
theorem d_GrantServer_writeClaims_8 : decode b_GrantServer_writeClaims 8 = .ok (.getfield 40, 3) := by decide +kernel
theorem d_GrantServer_writeClaims_11 : decode b_GrantServer_writeClaims 11 = .ok (.ldc_w 266, 3) := by decide +kernel
theorem d_GrantServer_writeClaims_14 : decode b_GrantServer_writeClaims 14 = .ok (.invokevirtual 268, 3) := by decide +kernel
theorem d_GrantServer_writeClaims_17 : decode b_GrantServer_writeClaims 17 = .ok (.aload_n 0, 1) := by decide +kernel
theorem d_GrantServer_writeClaims_18 : decode b_GrantServer_writeClaims 18 = .ok (.getfield 40, 3) := by decide +kernel
theorem d_GrantServer_writeClaims_21 : decode b_GrantServer_writeClaims 21 = .ok (.aload_n 1, 1) := by decide +kernel
theorem d_GrantServer_writeClaims_22 : decode b_GrantServer_writeClaims 22 = .ok (.getfield 160, 3) := by decide +kernel
theorem d_GrantServer_writeClaims_25 : decode b_GrantServer_writeClaims 25 = .ok (.invokevirtual 272, 3) := by decide +kernel
theorem d_GrantServer_writeClaims_28 : decode b_GrantServer_writeClaims 28 = .ok (.aload_n 0, 1) := by decide +kernel
theorem d_GrantServer_writeClaims_29 : decode b_GrantServer_writeClaims 29 = .ok (.getfield 40, 3) := by decide +kernel
theorem d_GrantServer_writeClaims_32 : decode b_GrantServer_writeClaims 32 = .ok (.ldc_w 275, 3) := by decide +kernel
theorem d_GrantServer_writeClaims_35 : decode b_GrantServer_writeClaims 35 = .ok (.invokevirtual 268, 3) := by decide +kernel
theorem d_GrantServer_writeClaims_38 : decode b_GrantServer_writeClaims 38 = .ok (.aload_n 0, 1) := by decide +kernel
theorem d_GrantServer_writeClaims_39 : decode b_GrantServer_writeClaims 39 = .ok (.getfield 40, 3) := by decide +kernel
theorem d_GrantServer_writeClaims_42 : decode b_GrantServer_writeClaims 42 = .ok (.iload_n 2, 1) := by decide +kernel
theorem d_GrantServer_writeClaims_43 : decode b_GrantServer_writeClaims 43 = .ok (.invokevirtual 272, 3) := by decide +kernel
theorem d_GrantServer_writeClaims_46 : decode b_GrantServer_writeClaims 46 = .ok (.aload_n 0, 1) := by decide +kernel
theorem d_GrantServer_writeClaims_47 : decode b_GrantServer_writeClaims 47 = .ok (.getfield 40, 3) := by decide +kernel
theorem d_GrantServer_writeClaims_50 : decode b_GrantServer_writeClaims 50 = .ok (.ldc_w 277, 3) := by decide +kernel
theorem d_GrantServer_writeClaims_53 : decode b_GrantServer_writeClaims 53 = .ok (.invokevirtual 268, 3) := by decide +kernel
theorem d_GrantServer_writeClaims_56 : decode b_GrantServer_writeClaims 56 = .ok (.aload_n 0, 1) := by decide +kernel
theorem d_GrantServer_writeClaims_57 : decode b_GrantServer_writeClaims 57 = .ok (.getfield 40, 3) := by decide +kernel
theorem d_GrantServer_writeClaims_60 : decode b_GrantServer_writeClaims 60 = .ok (.aload_n 1, 1) := by decide +kernel
theorem d_GrantServer_writeClaims_61 : decode b_GrantServer_writeClaims 61 = .ok (.getfield 279, 3) := by decide +kernel
theorem d_GrantServer_writeClaims_64 : decode b_GrantServer_writeClaims 64 = .ok (.invokevirtual 272, 3) := by decide +kernel
theorem d_GrantServer_writeClaims_67 : decode b_GrantServer_writeClaims 67 = .ok (.aload_n 0, 1) := by decide +kernel
theorem d_GrantServer_writeClaims_68 : decode b_GrantServer_writeClaims 68 = .ok (.getfield 40, 3) := by decide +kernel
theorem d_GrantServer_writeClaims_71 : decode b_GrantServer_writeClaims 71 = .ok (.ldc_w 282, 3) := by decide +kernel
theorem d_GrantServer_writeClaims_74 : decode b_GrantServer_writeClaims 74 = .ok (.invokevirtual 268, 3) := by decide +kernel
theorem d_GrantServer_writeClaims_77 : decode b_GrantServer_writeClaims 77 = .ok (.aload_n 0, 1) := by decide +kernel
theorem d_GrantServer_writeClaims_78 : decode b_GrantServer_writeClaims 78 = .ok (.getfield 40, 3) := by decide +kernel
theorem d_GrantServer_writeClaims_81 : decode b_GrantServer_writeClaims 81 = .ok (.aload_n 1, 1) := by decide +kernel
theorem d_GrantServer_writeClaims_82 : decode b_GrantServer_writeClaims 82 = .ok (.getfield 263, 3) := by decide +kernel
theorem d_GrantServer_writeClaims_85 : decode b_GrantServer_writeClaims 85 = .ok (.invokevirtual 272, 3) := by decide +kernel
theorem d_GrantServer_writeClaims_88 : decode b_GrantServer_writeClaims 88 = .ok (.aload_n 0, 1) := by decide +kernel
theorem d_GrantServer_writeClaims_89 : decode b_GrantServer_writeClaims 89 = .ok (.getfield 40, 3) := by decide +kernel
theorem d_GrantServer_writeClaims_92 : decode b_GrantServer_writeClaims 92 = .ok (.ldc_w 284, 3) := by decide +kernel
theorem d_GrantServer_writeClaims_95 : decode b_GrantServer_writeClaims 95 = .ok (.invokevirtual 268, 3) := by decide +kernel
theorem d_GrantServer_writeClaims_98 : decode b_GrantServer_writeClaims 98 = .ok (.aload_n 0, 1) := by decide +kernel
theorem d_GrantServer_writeClaims_99 : decode b_GrantServer_writeClaims 99 = .ok (.getfield 40, 3) := by decide +kernel
theorem d_GrantServer_writeClaims_102 : decode b_GrantServer_writeClaims 102 = .ok (.aload_n 1, 1) := by decide +kernel
theorem d_GrantServer_writeClaims_103 : decode b_GrantServer_writeClaims 103 = .ok (.getfield 152, 3) := by decide +kernel
theorem d_GrantServer_writeClaims_106 : decode b_GrantServer_writeClaims 106 = .ok (.invokevirtual 272, 3) := by decide +kernel
theorem d_GrantServer_writeClaims_109 : decode b_GrantServer_writeClaims 109 = .ok (.aload_n 0, 1) := by decide +kernel
theorem d_GrantServer_writeClaims_110 : decode b_GrantServer_writeClaims 110 = .ok (.getfield 40, 3) := by decide +kernel
theorem d_GrantServer_writeClaims_113 : decode b_GrantServer_writeClaims 113 = .ok (.ldc_w 286, 3) := by decide +kernel
theorem d_GrantServer_writeClaims_116 : decode b_GrantServer_writeClaims 116 = .ok (.invokevirtual 268, 3) := by decide +kernel
theorem d_GrantServer_writeClaims_119 : decode b_GrantServer_writeClaims 119 = .ok (.return_, 1) := by decide +kernel
theorem d_GrantServer_judgeClaims_0 : decode b_GrantServer_judgeClaims 0 = .ok (.aload_n 0, 1) := by decide +kernel
theorem d_GrantServer_judgeClaims_1 : decode b_GrantServer_judgeClaims 1 = .ok (.getfield 46, 3) := by decide +kernel
theorem d_GrantServer_judgeClaims_4 : decode b_GrantServer_judgeClaims 4 = .ok (.iconst 2, 1) := by decide +kernel
theorem d_GrantServer_judgeClaims_5 : decode b_GrantServer_judgeClaims 5 = .ok (.invokevirtual 288, 3) := by decide +kernel
theorem d_GrantServer_judgeClaims_8 : decode b_GrantServer_judgeClaims 8 = .ok (.aload_n 0, 1) := by decide +kernel
theorem d_GrantServer_judgeClaims_9 : decode b_GrantServer_judgeClaims 9 = .ok (.getfield 60, 3) := by decide +kernel
theorem d_GrantServer_judgeClaims_12 : decode b_GrantServer_judgeClaims 12 = .ok (.if_icmp .gt 6, 3) := by decide +kernel
theorem d_GrantServer_judgeClaims_15 : decode b_GrantServer_judgeClaims 15 = .ok (.bipush (-10), 2) := by decide +kernel
theorem d_GrantServer_judgeClaims_17 : decode b_GrantServer_judgeClaims 17 = .ok (.ireturn, 1) := by decide +kernel
theorem d_GrantServer_judgeClaims_18 : decode b_GrantServer_judgeClaims 18 = .ok (.aload_n 0, 1) := by decide +kernel
theorem d_GrantServer_judgeClaims_19 : decode b_GrantServer_judgeClaims 19 = .ok (.getfield 27, 3) := by decide +kernel
theorem d_GrantServer_judgeClaims_22 : decode b_GrantServer_judgeClaims 22 = .ok (.aload_n 0, 1) := by decide +kernel
theorem d_GrantServer_judgeClaims_23 : decode b_GrantServer_judgeClaims 23 = .ok (.getfield 46, 3) := by decide +kernel
theorem d_GrantServer_judgeClaims_26 : decode b_GrantServer_judgeClaims 26 = .ok (.iconst 3, 1) := by decide +kernel
theorem d_GrantServer_judgeClaims_27 : decode b_GrantServer_judgeClaims 27 = .ok (.invokevirtual 288, 3) := by decide +kernel
theorem d_GrantServer_judgeClaims_30 : decode b_GrantServer_judgeClaims 30 = .ok (.aload_n 0, 1) := by decide +kernel
theorem d_GrantServer_judgeClaims_31 : decode b_GrantServer_judgeClaims 31 = .ok (.getfield 60, 3) := by decide +kernel
theorem d_GrantServer_judgeClaims_34 : decode b_GrantServer_judgeClaims 34 = .ok (.invokevirtual 182, 3) := by decide +kernel
theorem d_GrantServer_judgeClaims_37 : decode b_GrantServer_judgeClaims 37 = .ok (.ifCond .ne 6, 3) := by decide +kernel
theorem d_GrantServer_judgeClaims_40 : decode b_GrantServer_judgeClaims 40 = .ok (.bipush (-11), 2) := by decide +kernel
theorem d_GrantServer_judgeClaims_42 : decode b_GrantServer_judgeClaims 42 = .ok (.ireturn, 1) := by decide +kernel
theorem d_GrantServer_judgeClaims_43 : decode b_GrantServer_judgeClaims 43 = .ok (.aload_n 0, 1) := by decide +kernel
theorem d_GrantServer_judgeClaims_44 : decode b_GrantServer_judgeClaims 44 = .ok (.getfield 46, 3) := by decide +kernel
theorem d_GrantServer_judgeClaims_47 : decode b_GrantServer_judgeClaims 47 = .ok (.iconst 1, 1) := by decide +kernel
theorem d_GrantServer_judgeClaims_48 : decode b_GrantServer_judgeClaims 48 = .ok (.invokevirtual 288, 3) := by decide +kernel
theorem d_GrantServer_judgeClaims_51 : decode b_GrantServer_judgeClaims 51 = .ok (.iload_n 1, 1) := by decide +kernel
theorem d_GrantServer_judgeClaims_52 : decode b_GrantServer_judgeClaims 52 = .ok (.if_icmp .eq 6, 3) := by decide +kernel
theorem d_GrantServer_judgeClaims_55 : decode b_GrantServer_judgeClaims 55 = .ok (.bipush (-12), 2) := by decide +kernel
theorem d_GrantServer_judgeClaims_57 : decode b_GrantServer_judgeClaims 57 = .ok (.ireturn, 1) := by decide +kernel
theorem d_GrantServer_judgeClaims_58 : decode b_GrantServer_judgeClaims 58 = .ok (.iload_n 2, 1) := by decide +kernel
theorem d_GrantServer_judgeClaims_59 : decode b_GrantServer_judgeClaims 59 = .ok (.bipush 15, 2) := by decide +kernel
theorem d_GrantServer_judgeClaims_61 : decode b_GrantServer_judgeClaims 61 = .ok (.iand, 1) := by decide +kernel
theorem d_GrantServer_judgeClaims_62 : decode b_GrantServer_judgeClaims 62 = .ok (.aload_n 0, 1) := by decide +kernel
theorem d_GrantServer_judgeClaims_63 : decode b_GrantServer_judgeClaims 63 = .ok (.getfield 46, 3) := by decide +kernel
theorem d_GrantServer_judgeClaims_66 : decode b_GrantServer_judgeClaims 66 = .ok (.iconst 4, 1) := by decide +kernel
theorem d_GrantServer_judgeClaims_67 : decode b_GrantServer_judgeClaims 67 = .ok (.invokevirtual 288, 3) := by decide +kernel
theorem d_GrantServer_judgeClaims_70 : decode b_GrantServer_judgeClaims 70 = .ok (.invokestatic 104, 3) := by decide +kernel
theorem d_GrantServer_judgeClaims_73 : decode b_GrantServer_judgeClaims 73 = .ok (.ifCond .ne 6, 3) := by decide +kernel
theorem d_GrantServer_judgeClaims_76 : decode b_GrantServer_judgeClaims 76 = .ok (.bipush (-4), 2) := by decide +kernel
theorem d_GrantServer_judgeClaims_78 : decode b_GrantServer_judgeClaims 78 = .ok (.ireturn, 1) := by decide +kernel
theorem d_GrantServer_judgeClaims_79 : decode b_GrantServer_judgeClaims 79 = .ok (.aload_n 0, 1) := by decide +kernel
theorem d_GrantServer_judgeClaims_80 : decode b_GrantServer_judgeClaims 80 = .ok (.getfield 46, 3) := by decide +kernel
theorem d_GrantServer_judgeClaims_83 : decode b_GrantServer_judgeClaims 83 = .ok (.iconst 0, 1) := by decide +kernel
theorem d_GrantServer_judgeClaims_84 : decode b_GrantServer_judgeClaims 84 = .ok (.invokevirtual 288, 3) := by decide +kernel
theorem d_GrantServer_judgeClaims_87 : decode b_GrantServer_judgeClaims 87 = .ok (.ireturn, 1) := by decide +kernel
theorem d_GrantServer_activeTokens_0 : decode b_GrantServer_activeTokens 0 = .ok (.aload_n 0, 1) := by decide +kernel
theorem d_GrantServer_activeTokens_1 : decode b_GrantServer_activeTokens 1 = .ok (.getfield 24, 3) := by decide +kernel
theorem d_GrantServer_activeTokens_4 : decode b_GrantServer_activeTokens 4 = .ok (.aload_n 0, 1) := by decide +kernel
theorem d_GrantServer_activeTokens_5 : decode b_GrantServer_activeTokens 5 = .ok (.getfield 60, 3) := by decide +kernel
theorem d_GrantServer_activeTokens_8 : decode b_GrantServer_activeTokens 8 = .ok (.invokevirtual 237, 3) := by decide +kernel
theorem d_GrantServer_activeTokens_11 : decode b_GrantServer_activeTokens 11 = .ok (.aload_n 0, 1) := by decide +kernel
theorem d_GrantServer_activeTokens_12 : decode b_GrantServer_activeTokens 12 = .ok (.getfield 27, 3) := by decide +kernel
theorem d_GrantServer_activeTokens_15 : decode b_GrantServer_activeTokens 15 = .ok (.aload_n 0, 1) := by decide +kernel
theorem d_GrantServer_activeTokens_16 : decode b_GrantServer_activeTokens 16 = .ok (.getfield 60, 3) := by decide +kernel
theorem d_GrantServer_activeTokens_19 : decode b_GrantServer_activeTokens 19 = .ok (.invokevirtual 237, 3) := by decide +kernel
theorem d_GrantServer_activeTokens_22 : decode b_GrantServer_activeTokens 22 = .ok (.iadd, 1) := by decide +kernel
theorem d_GrantServer_activeTokens_23 : decode b_GrantServer_activeTokens 23 = .ok (.ireturn, 1) := by decide +kernel
set_option maxRecDepth 20000 in
theorem fl_GrantServer_101 : hm_fl vwCl TB R_GrantServer 101 1 2 true .int := ⟨_, _, _, _, cl_Client, by decide, (TBm 241 (by decide +kernel) rfl), rfl, rfl⟩
set_option maxRecDepth 20000 in
theorem fl_GrantServer_125 : hm_fl vwCl TB R_GrantServer 125 3 4 false .int := ⟨_, _, _, _, cl_Grant, by decide, (TBm 90 (by decide +kernel) rfl), rfl, rfl⟩
set_option maxRecDepth 20000 in
theorem fl_GrantServer_126 : hm_fl vwCl TB R_GrantServer 126 3 5 false .int := ⟨_, _, _, _, cl_Grant, by decide, (TBm 91 (by decide +kernel) rfl), rfl, rfl⟩
set_option maxRecDepth 20000 in
theorem fl_GrantServer_133 : hm_fl vwCl TB R_GrantServer 133 3 6 false .boolean := ⟨_, _, _, _, cl_Grant, by decide, (TBm 93 (by decide +kernel) rfl), rfl, rfl⟩
set_option maxRecDepth 20000 in
theorem fl_GrantServer_152 : hm_fl vwCl TB R_GrantServer 152 3 2 false .int := ⟨_, _, _, _, cl_Grant, by decide, (TBm 86 (by decide +kernel) rfl), rfl, rfl⟩
set_option maxRecDepth 20000 in
theorem fl_GrantServer_156 : hm_fl vwCl TB R_GrantServer 156 3 8 false (.object "GrantServer$Family") := ⟨_, _, _, _, cl_Grant, by decide, (TBm 97 (by decide +kernel) rfl), rfl, rfl⟩
set_option maxRecDepth 20000 in
theorem fl_GrantServer_160 : hm_fl vwCl TB R_GrantServer 160 3 1 false .int := ⟨_, _, _, _, cl_Grant, by decide, (TBm 83 (by decide +kernel) rfl), rfl, rfl⟩
set_option maxRecDepth 20000 in
theorem fl_GrantServer_167 : hm_fl vwCl TB R_GrantServer 167 2 0 true .int := ⟨_, _, _, _, cl_Family, by decide, (TBm 321 (by decide +kernel) rfl), rfl, rfl⟩
set_option maxRecDepth 20000 in
theorem fl_GrantServer_256 : hm_fl vwCl TB R_GrantServer 256 2 1 true .int := ⟨_, _, _, _, cl_Family, by decide, (TBm 323 (by decide +kernel) rfl), rfl, rfl⟩
set_option maxRecDepth 20000 in
theorem fl_GrantServer_263 : hm_fl vwCl TB R_GrantServer 263 3 0 false .int := ⟨_, _, _, _, cl_Grant, by decide, (TBm 81 (by decide +kernel) rfl), rfl, rfl⟩
set_option maxRecDepth 20000 in
theorem fl_GrantServer_279 : hm_fl vwCl TB R_GrantServer 279 3 3 false .int := ⟨_, _, _, _, cl_Grant, by decide, (TBm 89 (by decide +kernel) rfl), rfl, rfl⟩
set_option maxRecDepth 20000 in
theorem fl_GrantServer_40 : hm_fl vwCl TB R_GrantServer 40 0 9 true (.object "GrantServer$Text") := ⟨_, _, _, _, cl_GrantServer, by decide, (TBm 184 (by decide +kernel) rfl), rfl, rfl⟩
set_option maxRecDepth 20000 in
theorem fl_GrantServer_46 : hm_fl vwCl TB R_GrantServer 46 0 10 true (.object "GrantServer$ClaimsReader") := ⟨_, _, _, _, cl_GrantServer, by decide, (TBm 185 (by decide +kernel) rfl), rfl, rfl⟩
set_option maxRecDepth 20000 in
theorem fl_GrantServer_74 : hm_fl vwCl TB R_GrantServer 74 0 0 true .int := ⟨_, _, _, _, cl_GrantServer, by decide, (TBm 175 (by decide +kernel) rfl), rfl, rfl⟩
set_option maxRecDepth 20000 in
theorem fl_GrantServer_77 : hm_fl vwCl TB R_GrantServer 77 0 1 true .int := ⟨_, _, _, _, cl_GrantServer, by decide, (TBm 176 (by decide +kernel) rfl), rfl, rfl⟩
set_option maxRecDepth 20000 in
theorem fl_GrantServer_80 : hm_fl vwCl TB R_GrantServer 80 0 2 true .int := ⟨_, _, _, _, cl_GrantServer, by decide, (TBm 177 (by decide +kernel) rfl), rfl, rfl⟩
set_option maxRecDepth 20000 in
theorem fl_GrantServer_98 : hm_fl vwCl TB R_GrantServer 98 1 1 true .int := ⟨_, _, _, _, cl_Client, by decide, (TBm 239 (by decide +kernel) rfl), rfl, rfl⟩
set_option maxRecDepth 20000 in
theorem me_ClaimsReader_reads : hm_meV y_ClaimsReader_reads b_ClaimsReader_reads 3 (some .boolean) 1 := ⟨⟨(TBm 559 rfl rfl), (TBm 44 (by decide +kernel) rfl), by decide +kernel⟩, (TBm 557 (by decide +kernel) rfl), (TBm 558 (by decide +kernel) rfl)⟩
set_option maxRecDepth 20000 in
theorem me_ClaimsReader_value : hm_meV y_ClaimsReader_value b_ClaimsReader_value 2 (some .int) 1 := ⟨⟨(TBm 610 rfl rfl), (TBm 44 (by decide +kernel) rfl), by decide +kernel⟩, (TBm 608 (by decide +kernel) rfl), (TBm 609 (by decide +kernel) rfl)⟩
set_option maxRecDepth 20000 in
theorem me_Family_init : hm_meI y_Family_init b_Family_init 3 2 := ⟨⟨(TBm 318 rfl rfl), (TBm 49 (by decide +kernel) rfl), by decide +kernel⟩, (TBm 317 (by decide +kernel) rfl), rfl⟩
set_option maxRecDepth 20000 in
theorem me_GrantServer_activeTokens : hm_meV y_GrantServer_activeTokens b_GrantServer_activeTokens 1 (some .int) 0 := ⟨⟨(TBm 455 rfl rfl), (TBm 40 (by decide +kernel) rfl), by decide +kernel⟩, (TBm 454 (by decide +kernel) rfl), (TBm 6 (by decide +kernel) rfl)⟩
set_option maxRecDepth 20000 in
theorem me_GrantServer_giveTokens : hm_meV y_GrantServer_giveTokens b_GrantServer_giveTokens 7 (some .int) 4 := ⟨⟨(TBm 336 rfl rfl), (TBm 40 (by decide +kernel) rfl), by decide +kernel⟩, (TBm 335 (by decide +kernel) rfl), (TBm 3 (by decide +kernel) rfl)⟩
set_option maxRecDepth 20000 in
theorem me_GrantServer_isFree : hm_meV y_GrantServer_isFree b_GrantServer_isFree 2 (some .boolean) 1 := ⟨⟨(TBm 268 rfl rfl), (TBm 40 (by decide +kernel) rfl), by decide +kernel⟩, (TBm 267 (by decide +kernel) rfl), (TBm 1 (by decide +kernel) rfl)⟩
set_option maxRecDepth 20000 in
theorem me_GrantServer_isWithin : hm_meS y_GrantServer_isWithin b_GrantServer_isWithin 2 (some .boolean) 2 := ⟨⟨(TBm 264 rfl rfl), (TBm 40 (by decide +kernel) rfl), by decide +kernel⟩, (TBm 263 (by decide +kernel) rfl)⟩
set_option maxRecDepth 20000 in
theorem me_GrantServer_judgeClaims : hm_meV y_GrantServer_judgeClaims b_GrantServer_judgeClaims 3 (some .int) 2 := ⟨⟨(TBm 606 rfl rfl), (TBm 40 (by decide +kernel) rfl), by decide +kernel⟩, (TBm 605 (by decide +kernel) rfl), (TBm 15 (by decide +kernel) rfl)⟩
set_option maxRecDepth 20000 in
theorem me_GrantServer_refusalOfNewTokens : hm_meV y_GrantServer_refusalOfNewTokens b_GrantServer_refusalOfNewTokens 2 (some .int) 1 := ⟨⟨(TBm 313 rfl rfl), (TBm 40 (by decide +kernel) rfl), by decide +kernel⟩, (TBm 312 (by decide +kernel) rfl), (TBm 2 (by decide +kernel) rfl)⟩
set_option maxRecDepth 20000 in
theorem me_GrantServer_revokeAlone : hm_meS y_GrantServer_revokeAlone b_GrantServer_revokeAlone 1 none 1 := ⟨⟨(TBm 466 rfl rfl), (TBm 40 (by decide +kernel) rfl), by decide +kernel⟩, (TBm 465 (by decide +kernel) rfl)⟩
set_option maxRecDepth 20000 in
theorem me_GrantServer_revokeFamilyOf : hm_meS y_GrantServer_revokeFamilyOf b_GrantServer_revokeFamilyOf 1 none 1 := ⟨⟨(TBm 463 rfl rfl), (TBm 40 (by decide +kernel) rfl), by decide +kernel⟩, (TBm 462 (by decide +kernel) rfl)⟩
set_option maxRecDepth 20000 in
theorem me_GrantServer_writeClaims : hm_meV y_GrantServer_writeClaims b_GrantServer_writeClaims 3 none 2 := ⟨⟨(TBm 340 rfl rfl), (TBm 40 (by decide +kernel) rfl), by decide +kernel⟩, (TBm 339 (by decide +kernel) rfl), (TBm 4 (by decide +kernel) rfl)⟩
set_option maxRecDepth 20000 in
theorem me_Grant_begin : hm_meV y_Grant_begin b_Grant_begin 6 none 5 := ⟨⟨(TBm 286 rfl rfl), (TBm 42 (by decide +kernel) rfl), by decide +kernel⟩, (TBm 284 (by decide +kernel) rfl), (TBm 285 (by decide +kernel) rfl)⟩
set_option maxRecDepth 20000 in
theorem me_Shelf_findOwned : hm_meV y_Shelf_findOwned b_Shelf_findOwned 4 (some (.object "GrantServer$Grant")) 2 := ⟨⟨(TBm 294 rfl rfl), (TBm 41 (by decide +kernel) rfl), by decide +kernel⟩, (TBm 292 (by decide +kernel) rfl), (TBm 293 (by decide +kernel) rfl)⟩
set_option maxRecDepth 20000 in
theorem me_Shelf_nextRow : hm_meV y_Shelf_nextRow b_Shelf_nextRow 1 (some (.object "GrantServer$Grant")) 0 := ⟨⟨(TBm 281 rfl rfl), (TBm 41 (by decide +kernel) rfl), by decide +kernel⟩, (TBm 279 (by decide +kernel) rfl), (TBm 280 (by decide +kernel) rfl)⟩
set_option maxRecDepth 20000 in
theorem me_Text_addNumber : hm_meV y_Text_addNumber b_Text_addNumber 3 none 1 := ⟨⟨(TBm 405 rfl rfl), (TBm 43 (by decide +kernel) rfl), by decide +kernel⟩, (TBm 403 (by decide +kernel) rfl), (TBm 404 (by decide +kernel) rfl)⟩
set_option maxRecDepth 20000 in
theorem me_Text_addText : hm_meV y_Text_addText b_Text_addText 3 none 1 := ⟨⟨(TBm 349 rfl rfl), (TBm 43 (by decide +kernel) rfl), by decide +kernel⟩, (TBm 347 (by decide +kernel) rfl), (TBm 348 (by decide +kernel) rfl)⟩
set_option maxRecDepth 20000 in
theorem me_Wrapping_hasSeal : hm_meV y_Wrapping_hasSeal b_Wrapping_hasSeal 6 (some .boolean) 1 := ⟨⟨(TBm 548 rfl rfl), (TBm 45 (by decide +kernel) rfl), by decide +kernel⟩, (TBm 546 (by decide +kernel) rfl), (TBm 547 (by decide +kernel) rfl)⟩
set_option maxRecDepth 20000 in
theorem me_Wrapping_unwrapInto : hm_meV y_Wrapping_unwrapInto b_Wrapping_unwrapInto 5 none 2 := ⟨⟨(TBm 552 rfl rfl), (TBm 45 (by decide +kernel) rfl), by decide +kernel⟩, (TBm 550 (by decide +kernel) rfl), (TBm 551 (by decide +kernel) rfl)⟩
set_option maxRecDepth 20000 in
theorem nw_GrantServer_150 : hm_nw vwCl TB R_GrantServer 150 2 3 [.int 0, .int 0, .int 0] := ⟨_, _, _, cl_Family, (TBm 314 (by decide +kernel) rfl), (TBm 315 (by decide +kernel) rfl), (TBm 49 (by decide +kernel) rfl), by decide +kernel⟩
set_option maxRecDepth 20000 in
theorem wc_GrantServer_251 : Cond.constant R_GrantServer 251 65535 ∈ TB := TBm 269 (by decide +kernel) rfl
set_option maxRecDepth 20000 in
theorem wc_GrantServer_97 : Cond.constant R_GrantServer 97 1073741823 ∈ TB := TBm 261 (by decide +kernel) rfl
set_option maxRecDepth 20000 in
theorem wl_GrantServer_104 : Cond.methodLink R_GrantServer 104 y_GrantServer_isWithin ∈ TB := TBm 262 (by decide +kernel) rfl
set_option maxRecDepth 20000 in
theorem wl_GrantServer_108 : Cond.methodLink R_GrantServer 108 y_GrantServer_isFree ∈ TB := TBm 265 (by decide +kernel) rfl
set_option maxRecDepth 20000 in
theorem wl_GrantServer_111 : Cond.methodLink R_GrantServer 111 y_Shelf_isFull ∈ TB := TBm 274 (by decide +kernel) rfl
set_option maxRecDepth 20000 in
theorem wl_GrantServer_115 : Cond.methodLink R_GrantServer 115 y_Shelf_nextRow ∈ TB := TBm 278 (by decide +kernel) rfl
set_option maxRecDepth 20000 in
theorem wl_GrantServer_119 : Cond.methodLink R_GrantServer 119 y_Grant_begin ∈ TB := TBm 283 (by decide +kernel) rfl
set_option maxRecDepth 20000 in
theorem wl_GrantServer_129 : Cond.methodLink R_GrantServer 129 y_Shelf_findOwned ∈ TB := TBm 291 (by decide +kernel) rfl
set_option maxRecDepth 20000 in
theorem wl_GrantServer_140 : Cond.methodLink R_GrantServer 140 y_Grant_isActive ∈ TB := TBm 300 (by decide +kernel) rfl
set_option maxRecDepth 20000 in
theorem wl_GrantServer_147 : Cond.methodLink R_GrantServer 147 y_GrantServer_refusalOfNewTokens ∈ TB := TBm 310 (by decide +kernel) rfl
set_option maxRecDepth 20000 in
theorem wl_GrantServer_153 : Cond.methodLink R_GrantServer 153 y_Family_init ∈ TB := TBm 316 (by decide +kernel) rfl
set_option maxRecDepth 20000 in
theorem wl_GrantServer_163 : Cond.methodLink R_GrantServer 163 y_GrantServer_giveTokens ∈ TB := TBm 333 (by decide +kernel) rfl
set_option maxRecDepth 20000 in
theorem wl_GrantServer_168 : Cond.methodLink R_GrantServer 168 y_GrantServer_activeTokens ∈ TB := TBm 452 (by decide +kernel) rfl
set_option maxRecDepth 20000 in
theorem wl_GrantServer_171 : Cond.methodLink R_GrantServer 171 y_GrantServer_revokeFamilyOf ∈ TB := TBm 461 (by decide +kernel) rfl
set_option maxRecDepth 20000 in
theorem wl_GrantServer_175 : Cond.methodLink R_GrantServer 175 y_GrantServer_revokeAlone ∈ TB := TBm 464 (by decide +kernel) rfl
set_option maxRecDepth 20000 in
theorem wl_GrantServer_189 : Cond.methodLink R_GrantServer 189 y_Wrapping_hasSeal ∈ TB := TBm 545 (by decide +kernel) rfl
set_option maxRecDepth 20000 in
theorem wl_GrantServer_192 : Cond.methodLink R_GrantServer 192 y_Wrapping_unwrapInto ∈ TB := TBm 549 (by decide +kernel) rfl
set_option maxRecDepth 20000 in
theorem wl_GrantServer_196 : Cond.methodLink R_GrantServer 196 y_ClaimsReader_reads ∈ TB := TBm 556 (by decide +kernel) rfl
set_option maxRecDepth 20000 in
theorem wl_GrantServer_199 : Cond.methodLink R_GrantServer 199 y_GrantServer_judgeClaims ∈ TB := TBm 603 (by decide +kernel) rfl
set_option maxRecDepth 20000 in
theorem wl_GrantServer_252 : Cond.methodLink R_GrantServer 252 y_Shelf_find ∈ TB := TBm 270 (by decide +kernel) rfl
set_option maxRecDepth 20000 in
theorem wl_GrantServer_259 : Cond.methodLink R_GrantServer 259 y_GrantServer_writeClaims ∈ TB := TBm 337 (by decide +kernel) rfl
set_option maxRecDepth 20000 in
theorem wl_GrantServer_268 : Cond.methodLink R_GrantServer 268 y_Text_addText ∈ TB := TBm 346 (by decide +kernel) rfl
set_option maxRecDepth 20000 in
theorem wl_GrantServer_272 : Cond.methodLink R_GrantServer 272 y_Text_addNumber ∈ TB := TBm 402 (by decide +kernel) rfl
set_option maxRecDepth 20000 in
theorem wl_GrantServer_288 : Cond.methodLink R_GrantServer 288 y_ClaimsReader_value ∈ TB := TBm 607 (by decide +kernel) rfl
set_option maxHeartbeats 4000000 in
set_option maxRecDepth 100000 in
theorem c_isFree (l : Launch) (D : va_G) (k : Nat → ClassId) (f : hm) (h : Nat) (u : Nat → Int32) (ad : Nat → Nat) (us : Nat → Nat) (g : Nat → Nat → Option Nat) (w : Nat → Nat → Nat → Int32) (m1 : Nat → Nat → Option Nat) (x : Int32) (hh : f h = some (.inr (0, gsV u ad))) (hs0 : f (ad 4) = some (.inr (4, [.ref (ad 14), .int (nI (us 0))]))) (hr0 : f (ad 14) = some (.inl (k 3, 16, .inr (.inr (.inr (.inr (g 0))))))) (hs1 : f (ad 5) = some (.inr (4, [.ref (ad 15), .int (nI (us 1))]))) (hr1 : f (ad 15) = some (.inl (k 3, 24, .inr (.inr (.inr (.inr (g 1))))))) (hu0 : us 0 ≤ 16) (hrows0 : ∀ i, i < us 0 → ∃ q, g 0 i = some q ∧ f q = some (.inr (3, gV (w 0 i) (m1 0 i)))) (hu1 : us 1 ≤ 24) (hrows1 : ∀ i, i < us 1 → ∃ q, g 1 i = some q ∧ f q = some (.inr (3, gV (w 1 i) (m1 1 i)))) : hm_Mi l D vwCl (tyL k) y_GrantServer_isFree (Cond.code y_GrantServer_isFree b_GrantServer_isFree 2 (some .boolean) :: TB) ({ frames := 1, cells := 0, slots := 0, locals := 22 }) [.ref h, .int x] f (fun (r : Int32) (f1 : hm) => z_free ((z_fi (w 0) x (us 0) 0).bind (g 0)) ((z_fi (w 1) x (us 1) 0).bind (g 1)) x = r ∧ f = f1) 0 0 := by
  refine hm_enter (Qc := fun sz => va_Qi _ (hm_R D vwCl (tyL k) f sz) (hm_A f sz)) (by decide) rfl (Nat.le_of_ble_eq_true rfl) ?_
  intro pg e s m below meth cd ls X0 hr hlk hin hK hM hS hA hl Q hQ
  have X : CallFix pg m cd b_GrantServer_isFree 2 s ([.ref h, .int x] : List Value).toArray TB R_GrantServer := ⟨X0.1, X0.2.1, X0.2.2.1, X0.2.2.2.1, fun w h => X0.2.2.2.2 w (List.mem_cons_of_mem _ h)⟩
  have hx := X.1; have hb := X.2.1; have hml := X.2.2.1; have hown := X.2.2.2.1; have hts := X.2.2.2.2
  have hl : lv_has ls 2 [(0, .ref h), (1, .int x)] := hl
  refine lv_iload_n hx hb d_GrantServer_isFree_0 rfl (lv_at hl 1 rfl) ?_
  refine lv_iconst (v := 1) hx hb d_GrantServer_isFree_1 (by decide) ?_
  refine lv_icmp_lt (tgt := 37) hx hb d_GrantServer_isFree_2 (by decide) (fun h1 => ?_) (fun h1 => ?_)
  · refine lv_iconst (v := 0) hx hb d_GrantServer_isFree_37 (by decide) ?_
    exact hm_zret X hQ hr hlk hK hM hS rfl d_GrantServer_isFree_38 ⟨(if_pos (Or.inl h1)), rfl⟩
  · refine lv_iload_n hx hb d_GrantServer_isFree_5 rfl (lv_at hl 1 rfl) ?_
    refine lv_ldc (v := 65535) hx hb hown (hts _ wc_GrantServer_251) d_GrantServer_isFree_6 ?_
    refine lv_icmp_gt (tgt := 37) hx hb d_GrantServer_isFree_8 (by decide) (fun h2 => ?_) (fun h2 => ?_)
    · refine lv_iconst (v := 0) hx hb d_GrantServer_isFree_37 (by decide) ?_
      exact hm_zret X hQ hr hlk hK hM hS rfl d_GrantServer_isFree_38 ⟨(if_pos (Or.inr (Or.inl h2))), rfl⟩
    · refine lv_aload_n hx hb d_GrantServer_isFree_11 rfl (lv_at hl 0 rfl) ?_
      refine hm_get X hK hM hh fl_GrantServer_20 (v := .ref (ad 4)) rfl d_GrantServer_isFree_12 ?_
      refine lv_iload_n hx hb d_GrantServer_isFree_15 rfl (lv_at hl 1 rfl) ?_
      refine hm_callq hS hM hA (va_runV (As := [.int x]) (rest := []) X (c_find l D k f (ad 4) (ad 14) 16 (us 0) (g 0) (w 0) (m1 0) x hs0 hr0 hu0 (by decide) hrows0 s.heap.size) (hm_cwV hts me_Shelf_find wl_GrantServer_252 rfl rfl ⟨Nat.le_of_ble_eq_true rfl, Nat.le_of_ble_eq_true rfl⟩) (hm_preV hM hK hs0 rfl) rfl rfl hl.1 rfl (lv_room (Nat.le_of_ble_eq_true rfl)) d_GrantServer_isFree_16 ⟨Nat.le_of_ble_eq_true rfl, Nat.le_of_ble_eq_true rfl⟩) (fun r5 f3 H locs p4 hM hS => ?_)
      obtain ⟨rfl, rfl⟩ := p4
      refine hm_ifnonnullq (tgt := 37) hx hb d_GrantServer_isFree_19 (by decide) (fun h6 => ?_) (fun a7 h6 => ?_)
      · refine lv_aload_n hx hb d_GrantServer_isFree_22 rfl (lv_at hl 0 rfl) ?_
        refine hm_get X hK hM hh fl_GrantServer_24 (v := .ref (ad 5)) rfl d_GrantServer_isFree_23 ?_
        refine lv_iload_n hx hb d_GrantServer_isFree_26 rfl (lv_at hl 1 rfl) ?_
        refine hm_callq hS hM hA (va_runV (As := [.int x]) (rest := []) X (c_find l D k f (ad 5) (ad 15) 24 (us 1) (g 1) (w 1) (m1 1) x hs1 hr1 hu1 (by decide) hrows1 H.size) (hm_cwV hts me_Shelf_find wl_GrantServer_252 rfl rfl ⟨Nat.le_of_ble_eq_true rfl, Nat.le_of_ble_eq_true rfl⟩) (hm_preV hM hK hs1 rfl) rfl rfl hl.1 rfl (lv_room (Nat.le_of_ble_eq_true rfl)) d_GrantServer_isFree_27 ⟨Nat.le_of_ble_eq_true rfl, Nat.le_of_ble_eq_true rfl⟩) (fun r10 f8 H locs p9 hM hS => ?_)
        obtain ⟨rfl, rfl⟩ := p9
        refine hm_ifnonnullq (tgt := 37) hx hb d_GrantServer_isFree_30 (by decide) (fun h11 => ?_) (fun a12 h11 => ?_)
        · refine lv_iconst (v := 1) hx hb d_GrantServer_isFree_33 (by decide) ?_
          refine lv_goto (tgt := 38) hx hb d_GrantServer_isFree_34 (by decide) ?_
          exact hm_zret X hQ hr hlk hK hM hS rfl d_GrantServer_isFree_38 ⟨(if_neg (fun z => z.elim h1 (fun z => z.elim h2 (fun z => z.elim (fun q => q h6) (fun q => q h11))))), rfl⟩
        · refine lv_iconst (v := 0) hx hb d_GrantServer_isFree_37 (by decide) ?_
          exact hm_zret X hQ hr hlk hK hM hS rfl d_GrantServer_isFree_38 ⟨(if_pos (Or.inr (Or.inr (Or.inr (fun z => by rw [h11] at z; cases z))))), rfl⟩
      · refine lv_iconst (v := 0) hx hb d_GrantServer_isFree_37 (by decide) ?_
        exact hm_zret X hQ hr hlk hK hM hS rfl d_GrantServer_isFree_38 ⟨(if_pos (Or.inr (Or.inr (Or.inl (fun z => by rw [h6] at z; cases z))))), rfl⟩
set_option maxHeartbeats 4000000 in
set_option maxRecDepth 100000 in
theorem c_refusal (l : Launch) (D : va_G) (k : Nat → ClassId) (f : hm) (h : Nat) (u : Nat → Int32) (ad : Nat → Nat) (us : Nat → Nat) (g : Nat → Nat → Option Nat) (w : Nat → Nat → Nat → Int32) (m1 : Nat → Nat → Option Nat) (x : Int32) (hh : f h = some (.inr (0, gsV u ad))) (hs0 : f (ad 4) = some (.inr (4, [.ref (ad 14), .int (nI (us 0))]))) (hr0 : f (ad 14) = some (.inl (k 3, 16, .inr (.inr (.inr (.inr (g 0))))))) (hs1 : f (ad 5) = some (.inr (4, [.ref (ad 15), .int (nI (us 1))]))) (hr1 : f (ad 15) = some (.inl (k 3, 24, .inr (.inr (.inr (.inr (g 1))))))) (hs2 : f (ad 6) = some (.inr (4, [.ref (ad 16), .int (nI (us 2))]))) (hr2 : f (ad 16) = some (.inl (k 3, 24, .inr (.inr (.inr (.inr (g 2))))))) (hu0 : us 0 ≤ 16) (hrows0 : ∀ i, i < us 0 → ∃ q, g 0 i = some q ∧ f q = some (.inr (3, gV (w 0 i) (m1 0 i)))) (hu1 : us 1 ≤ 24) (hrows1 : ∀ i, i < us 1 → ∃ q, g 1 i = some q ∧ f q = some (.inr (3, gV (w 1 i) (m1 1 i)))) (hu2 : us 2 ≤ 24) : hm_Mi l D vwCl (tyL k) y_GrantServer_refusalOfNewTokens (Cond.code y_GrantServer_refusalOfNewTokens b_GrantServer_refusalOfNewTokens 2 (some .int) :: TB) ({ frames := 2, cells := 0, slots := 0, locals := 43 }) [.ref h, .int x] f (fun (r : Int32) (f1 : hm) => a_ref (z_free ((z_fi (w 0) x (us 0) 0).bind (g 0)) ((z_fi (w 1) x (us 1) 0).bind (g 1)) x) (z_full (us 1) 24) (z_full (us 2) 24) = r ∧ f = f1) 0 0 := by
  refine hm_enter (Qc := fun sz => va_Qi _ (hm_R D vwCl (tyL k) f sz) (hm_A f sz)) (by decide) rfl (Nat.le_of_ble_eq_true rfl) ?_
  intro pg e s m below meth cd ls X0 hr hlk hin hK hM hS hA hl Q hQ
  have X : CallFix pg m cd b_GrantServer_refusalOfNewTokens 2 s ([.ref h, .int x] : List Value).toArray TB R_GrantServer := ⟨X0.1, X0.2.1, X0.2.2.1, X0.2.2.2.1, fun w h => X0.2.2.2.2 w (List.mem_cons_of_mem _ h)⟩
  have hx := X.1; have hb := X.2.1; have hml := X.2.2.1; have hown := X.2.2.2.1; have hts := X.2.2.2.2
  have hl : lv_has ls 2 [(0, .ref h), (1, .int x)] := hl
  refine lv_aload_n hx hb d_GrantServer_refusalOfNewTokens_0 rfl (lv_at hl 0 rfl) ?_
  refine lv_iload_n hx hb d_GrantServer_refusalOfNewTokens_1 rfl (lv_at hl 1 rfl) ?_
  refine hm_calli hS hM hA (va_runV (As := [.int x]) (rest := []) X (c_isFree l D k f h u ad us g w m1 x hh hs0 hr0 hs1 hr1 hu0 hrows0 hu1 hrows1 s.heap.size) (hm_cwV hts me_GrantServer_isFree wl_GrantServer_108 rfl rfl ⟨Nat.le_of_ble_eq_true rfl, Nat.le_of_ble_eq_true rfl⟩) (hm_preV hM hK hh rfl) rfl rfl hl.1 rfl (lv_room (Nat.le_of_ble_eq_true rfl)) d_GrantServer_refusalOfNewTokens_2 ⟨Nat.le_of_ble_eq_true rfl, Nat.le_of_ble_eq_true rfl⟩) (fun r3 f1 H locs p2 hM hS => ?_)
  obtain ⟨rfl, rfl⟩ := p2
  refine lv_if_ne (tgt := 11) hx hb d_GrantServer_refusalOfNewTokens_5 (by decide) (fun h4 => ?_) (fun h4 => ?_)
  · refine lv_aload_n hx hb d_GrantServer_refusalOfNewTokens_11 rfl (lv_at hl 0 rfl) ?_
    refine hm_get X hK hM hh fl_GrantServer_24 (v := .ref (ad 5)) rfl d_GrantServer_refusalOfNewTokens_12 ?_
    refine hm_calli hS hM hA (va_runV (As := []) (rest := []) X (c_Shelf_isFull l D k f (ad 5) (ad 15) 24 (us 1) (g 1) hs1 hr1 hu1 (by decide) H.size) (hm_cwV hts me_Shelf_isFull wl_GrantServer_111 rfl rfl ⟨Nat.le_of_ble_eq_true rfl, Nat.le_of_ble_eq_true rfl⟩) (hm_preV hM hK hs1 rfl) rfl rfl hl.1 rfl (lv_room (Nat.le_of_ble_eq_true rfl)) d_GrantServer_refusalOfNewTokens_15 ⟨Nat.le_of_ble_eq_true rfl, Nat.le_of_ble_eq_true rfl⟩) (fun r7 f5 H locs p6 hM hS => ?_)
    obtain ⟨rfl, rfl⟩ := p6
    refine lv_if_ne (tgt := 31) hx hb d_GrantServer_refusalOfNewTokens_18 (by decide) (fun h8 => ?_) (fun h8 => ?_)
    · refine lv_bipush (v := (-6)) hx hb d_GrantServer_refusalOfNewTokens_31 (by decide) ?_
      refine lv_goto (tgt := 37) hx hb d_GrantServer_refusalOfNewTokens_33 (by decide) ?_
      exact hm_iret X hQ hr hlk hK hM hS d_GrantServer_refusalOfNewTokens_37 ⟨(Eq.trans (if_neg h4) (if_pos (Or.inl (z_full_b h8)))), rfl⟩
    · refine lv_aload_n hx hb d_GrantServer_refusalOfNewTokens_21 rfl (lv_at hl 0 rfl) ?_
      refine hm_get X hK hM hh fl_GrantServer_27 (v := .ref (ad 6)) rfl d_GrantServer_refusalOfNewTokens_22 ?_
      refine hm_calli hS hM hA (va_runV (As := []) (rest := []) X (c_Shelf_isFull l D k f (ad 6) (ad 16) 24 (us 2) (g 2) hs2 hr2 hu2 (by decide) H.size) (hm_cwV hts me_Shelf_isFull wl_GrantServer_111 rfl rfl ⟨Nat.le_of_ble_eq_true rfl, Nat.le_of_ble_eq_true rfl⟩) (hm_preV hM hK hs2 rfl) rfl rfl hl.1 rfl (lv_room (Nat.le_of_ble_eq_true rfl)) d_GrantServer_refusalOfNewTokens_25 ⟨Nat.le_of_ble_eq_true rfl, Nat.le_of_ble_eq_true rfl⟩) (fun r11 f9 H locs p10 hM hS => ?_)
      obtain ⟨rfl, rfl⟩ := p10
      refine lv_if_eq (tgt := 36) hx hb d_GrantServer_refusalOfNewTokens_28 (by decide) (fun h12 => ?_) (fun h12 => ?_)
      · refine lv_iconst (v := 0) hx hb d_GrantServer_refusalOfNewTokens_36 (by decide) ?_
        exact hm_iret X hQ hr hlk hK hM hS d_GrantServer_refusalOfNewTokens_37 ⟨(Eq.trans (if_neg h4) (if_neg (fun z => z.elim (fun q => absurd (h8.symm.trans q) (by decide)) (fun q => absurd (h12.symm.trans q) (by decide))))), rfl⟩
      · refine lv_bipush (v := (-6)) hx hb d_GrantServer_refusalOfNewTokens_31 (by decide) ?_
        refine lv_goto (tgt := 37) hx hb d_GrantServer_refusalOfNewTokens_33 (by decide) ?_
        exact hm_iret X hQ hr hlk hK hM hS d_GrantServer_refusalOfNewTokens_37 ⟨(Eq.trans (if_neg h4) (if_pos (Or.inr (z_full_b h12)))), rfl⟩
  · refine lv_bipush (v := (-5)) hx hb d_GrantServer_refusalOfNewTokens_8 (by decide) ?_
    exact hm_iret X hQ hr hlk hK hM hS d_GrantServer_refusalOfNewTokens_10 ⟨(if_pos h4), rfl⟩
set_option maxHeartbeats 4000000 in
set_option maxRecDepth 100000 in
theorem c_activeTokens (l : Launch) (D : va_G) (k : Nat → ClassId) (f : hm) (h : Nat) (u : Nat → Int32) (ad : Nat → Nat) (us : Nat → Nat) (g : Nat → Nat → Option Nat) (w : Nat → Nat → Nat → Int32) (m1 : Nat → Nat → Option Nat) (fs : Nat → Nat → Int32) (fa : Nat → Nat → Int32) (fv : Nat → Nat → Int32) (hh : f h = some (.inr (0, gsV u ad))) (hs1 : f (ad 5) = some (.inr (4, [.ref (ad 15), .int (nI (us 1))]))) (hr1 : f (ad 15) = some (.inl (k 3, 24, .inr (.inr (.inr (.inr (g 1))))))) (hs2 : f (ad 6) = some (.inr (4, [.ref (ad 16), .int (nI (us 2))]))) (hr2 : f (ad 16) = some (.inl (k 3, 24, .inr (.inr (.inr (.inr (g 2))))))) (hu1 : us 1 ≤ 24) (hrows1 : ∀ i, i < us 1 → ∃ q, g 1 i = some q ∧ f q = some (.inr (3, gV (w 1 i) (m1 1 i)))) (hfam1 : ∀ i, i < us 1 → ∀ z, m1 1 i = some z → f z = some (.inr (2, [.int (fs 1 i), .int (fa 1 i), .int (fv 1 i)]))) (hu2 : us 2 ≤ 24) (hrows2 : ∀ i, i < us 2 → ∃ q, g 2 i = some q ∧ f q = some (.inr (3, gV (w 2 i) (m1 2 i)))) (hfam2 : ∀ i, i < us 2 → ∀ z, m1 2 i = some z → f z = some (.inr (2, [.int (fs 2 i), .int (fa 2 i), .int (fv 2 i)]))) : hm_Mi l D vwCl (tyL k) y_GrantServer_activeTokens (Cond.code y_GrantServer_activeTokens b_GrantServer_activeTokens 1 (some .int) :: TB) ({ frames := 2, cells := 0, slots := 0, locals := 44 }) [.ref h] f (fun (r : Int32) (f1 : hm) => nI (z_cn (w 1) (m1 1) (fv 1) (u 15) (us 1)) + nI (z_cn (w 2) (m1 2) (fv 2) (u 15) (us 2)) = r ∧ f = f1) 0 0 := by
  refine hm_enter (Qc := fun sz => va_Qi _ (hm_R D vwCl (tyL k) f sz) (hm_A f sz)) (by decide) rfl (Nat.le_of_ble_eq_true rfl) ?_
  intro pg e s m below meth cd ls X0 hr hlk hin hK hM hS hA hl Q hQ
  have X : CallFix pg m cd b_GrantServer_activeTokens 1 s ([.ref h] : List Value).toArray TB R_GrantServer := ⟨X0.1, X0.2.1, X0.2.2.1, X0.2.2.2.1, fun w h => X0.2.2.2.2 w (List.mem_cons_of_mem _ h)⟩
  have hx := X.1; have hb := X.2.1; have hml := X.2.2.1; have hown := X.2.2.2.1; have hts := X.2.2.2.2
  have hl : lv_has ls 1 [(0, .ref h)] := hl
  refine lv_aload_n hx hb d_GrantServer_activeTokens_0 rfl (lv_at hl 0 rfl) ?_
  refine hm_get X hK hM hh fl_GrantServer_24 (v := .ref (ad 5)) rfl d_GrantServer_activeTokens_1 ?_
  refine lv_aload_n hx hb d_GrantServer_activeTokens_4 rfl (lv_at hl 0 rfl) ?_
  refine hm_get X hK hM hh fl_GrantServer_60 (v := .int (u 15)) rfl d_GrantServer_activeTokens_5 ?_
  refine hm_calli hS hM hA (va_runV (As := [.int (u 15)]) (rest := []) X (c_activeRows l D k f (ad 5) (ad 15) 24 (us 1) (g 1) (w 1) (m1 1) (fs 1) (fa 1) (fv 1) (u 15) hs1 hr1 hu1 (by decide) hrows1 hfam1 s.heap.size) (hm_cwV hts me_Shelf_activeRows wl_GrantServer_237 rfl rfl ⟨Nat.le_of_ble_eq_true rfl, Nat.le_of_ble_eq_true rfl⟩) (hm_preV hM hK hs1 rfl) rfl rfl hl.1 rfl (lv_room (Nat.le_of_ble_eq_true rfl)) d_GrantServer_activeTokens_8 ⟨Nat.le_of_ble_eq_true rfl, Nat.le_of_ble_eq_true rfl⟩) (fun r3 f1 H locs p2 hM hS => ?_)
  obtain ⟨rfl, rfl⟩ := p2
  refine lv_aload_n hx hb d_GrantServer_activeTokens_11 rfl (lv_at hl 0 rfl) ?_
  refine hm_get X hK hM hh fl_GrantServer_27 (v := .ref (ad 6)) rfl d_GrantServer_activeTokens_12 ?_
  refine lv_aload_n hx hb d_GrantServer_activeTokens_15 rfl (lv_at hl 0 rfl) ?_
  refine hm_get X hK hM hh fl_GrantServer_60 (v := .int (u 15)) rfl d_GrantServer_activeTokens_16 ?_
  refine hm_calli hS hM hA (va_runV (As := [.int (u 15)]) (rest := [.int (nI (z_cn (w 1) (m1 1) (fv 1) (u 15) (us 1)))]) X (c_activeRows l D k f (ad 6) (ad 16) 24 (us 2) (g 2) (w 2) (m1 2) (fs 2) (fa 2) (fv 2) (u 15) hs2 hr2 hu2 (by decide) hrows2 hfam2 H.size) (hm_cwV hts me_Shelf_activeRows wl_GrantServer_237 rfl rfl ⟨Nat.le_of_ble_eq_true rfl, Nat.le_of_ble_eq_true rfl⟩) (hm_preV hM hK hs2 rfl) rfl rfl hl.1 rfl (lv_room (Nat.le_of_ble_eq_true rfl)) d_GrantServer_activeTokens_19 ⟨Nat.le_of_ble_eq_true rfl, Nat.le_of_ble_eq_true rfl⟩) (fun r6 f4 H locs p5 hM hS => ?_)
  obtain ⟨rfl, rfl⟩ := p5
  refine lv_iadd hx hb d_GrantServer_activeTokens_22 ?_
  exact hm_iret X hQ hr hlk hK hM hS d_GrantServer_activeTokens_23 ⟨rfl, rfl⟩
set_option maxHeartbeats 4000000 in
set_option maxRecDepth 100000 in
theorem c_writeClaims (l : Launch) (D : va_G) (k : Nat → ClassId) (sA sV : Nat → Nat) (f : hm) (h : Nat) (u : Nat → Int32) (ad : Nat → Nat) (q : Nat) (wq : Nat → Int32) (mq : Option Nat) (n9 : Int32) (y : Nat → Int32) (vl : Nat → Nat) (K : Nat → Nat) (hh : f h = some (.inr (0, gsV u ad))) (hq : f q = some (.inr (3, gV wq mq))) (ht2 : f (ad 9) = some (.inr (5, [.ref (ad 19), .int n9]))) (ha2 : f (ad 19) = some (.inl (k 2, 120, .inl y))) (hw1 : wq 1 = nI (vl 0)) (hw3 : wq 3 = nI (vl 2)) (hw0 : wq 0 = nI (vl 3)) (hw2 : wq 2 = nI (vl 4)) (hKd : ∀ i, i < 5 → z_dg (vl i) (K i)) (hvl : ∀ i, i < 5 → vl i < 2 ^ 31) (hsz : z_tot K ≤ 81) : hm_MvZ l sA sV D vwCl (tyL k) y_GrantServer_writeClaims (Cond.code y_GrantServer_writeClaims b_GrantServer_writeClaims 3 none :: TB) ({ frames := 5, cells := 0, slots := 0, locals := 107 }) [.ref h, .ref q, .int (nI (vl 1))] f (fun (f1 : hm) => ∃ (y9 : Nat → Int32), (z_pre y9 (z_tot K) (z_ct vl K)) ∧ f1 (ad 9) = some (.inr (5, [.ref (ad 19), .int (nI (z_tot K))])) ∧ f1 (ad 19) = some (.inl (k 2, 120, .inl y9)) ∧ ∀ (zq : Nat) (zx : va_E), zq ≠ (ad 9) → zq ≠ (ad 19) → f zq = some zx → f1 zq = some zx) 0 0 := by
  refine hm_enterZ (Qc := fun sz => va_Qv _ (hm_R D vwCl (tyL k) f sz) (hm_A f sz)) (by decide) rfl (Nat.le_of_ble_eq_true rfl) ?_
  intro pg e s m below meth cd ls hZ X0 hr hlk hin hK hM hS hA hl Q hQ
  have X : CallFix pg m cd b_GrantServer_writeClaims 3 s ([.ref h, .ref q, .int (nI (vl 1))] : List Value).toArray TB R_GrantServer := ⟨X0.1, X0.2.1, X0.2.2.1, X0.2.2.2.1, fun w h => X0.2.2.2.2 w (List.mem_cons_of_mem _ h)⟩
  have hx := X.1; have hb := X.2.1; have hml := X.2.2.1; have hown := X.2.2.2.1; have hts := X.2.2.2.2
  have hl : lv_has ls 3 [(0, .ref h), (1, .ref q), (2, .int (nI (vl 1)))] := hl
  have l0 : st_len.getD 0 0 = 7 := rfl
  have l1 : st_len.getD 1 0 = 7 := rfl
  have l2 : st_len.getD 2 0 = 7 := rfl
  have l3 : st_len.getD 3 0 = 7 := rfl
  have l4 : st_len.getD 4 0 = 9 := rfl
  have l5 : st_len.getD 5 0 = 1 := rfl
  have hz := hsz
  unfold z_tot at hz
  refine lv_aload_n hx hb d_GrantServer_writeClaims_0 rfl (lv_at hl 0 rfl) ?_
  refine hm_get X hK hM hh fl_GrantServer_40 (v := .ref (ad 9)) rfl d_GrantServer_writeClaims_1 ?_
  refine hm_callv hS hM hA (va_runV (As := []) (rest := []) X (c_Text_clear l D k f (ad 9) (ad 19) n9 ht2  s.heap.size) (hm_cwV hts me_Text_clear wl_GrantServer_218 rfl rfl ⟨Nat.le_of_ble_eq_true rfl, Nat.le_of_ble_eq_true rfl⟩) (hm_preV hM hK ht2 rfl) rfl rfl hl.1 rfl (lv_room (Nat.le_of_ble_eq_true rfl)) d_GrantServer_writeClaims_4 ⟨Nat.le_of_ble_eq_true rfl, Nat.le_of_ble_eq_true rfl⟩) (fun f1 H locs p2 hM hS => ?_)
  obtain ⟨g3, hfr4⟩ := p2
  have g5 : f1 (ad 9) = some (.inr (5, [.ref (ad 19), .int (nI 0)])) := g3
  have p0 : z_pre y 0 (z_ct vl K) := z_pre_0
  refine lv_aload_n hx hb d_GrantServer_writeClaims_7 rfl (lv_at hl 0 rfl) ?_
  have g6 : f1 h = some (.inr (0, gsV u ad)) := hfr4 _ _ (hm_neI hh ht2 (by decide)) hh
  refine hm_get X hK hM g6 fl_GrantServer_40 (v := .ref (ad 9)) rfl d_GrantServer_writeClaims_8 ?_
  refine hm_ldcwS hx hb hown (hZ.2.2.1 0 (by decide)) d_GrantServer_writeClaims_11 ?_
  have g7 : f1 (ad 19) = some (.inl (k 2, 120, .inl y)) := hfr4 _ _ ((hm_neA ht2 ha2).symm) ha2
  have g8 : f1 q = some (.inr (3, gV wq mq)) := hfr4 _ _ (hm_neI hq ht2 (by decide)) hq
  refine hm_callv hS hM hA (va_runV (As := [.ref (sA 0)]) (rest := []) X (c_addText l D k sA sV f1 (ad 9) (ad 19) 0 y 0 g5 g7 (by decide) (by omega) H.size) (hm_cwV hts me_Text_addText wl_GrantServer_268 rfl rfl ⟨Nat.le_of_ble_eq_true rfl, Nat.le_of_ble_eq_true rfl⟩) (hm_preVZ hZ hS hA hM hK g5 rfl) rfl rfl hl.1 rfl (lv_room (Nat.le_of_ble_eq_true rfl)) d_GrantServer_writeClaims_14 ⟨Nat.le_of_ble_eq_true rfl, Nat.le_of_ble_eq_true rfl⟩) (fun f9 H locs p10 hM hS => ?_)
  obtain ⟨x11, h12, h13, g14, g15, hfr16⟩ := p10
  have p1 : z_pre x11 (0 + st_len.getD 0 0) (z_ct vl K) := z_pre_s p0 h12 h13 (fun e he => by rw [show 0 + e = 0 + e by omega]; exact z_ct_0 vl K e (by omega))
  refine lv_aload_n hx hb d_GrantServer_writeClaims_17 rfl (lv_at hl 0 rfl) ?_
  have g17 : f9 h = some (.inr (0, gsV u ad)) := hfr16 _ _ (hm_neI g6 g5 (by decide)) (hm_neA g6 g7) g6
  refine hm_get X hK hM g17 fl_GrantServer_40 (v := .ref (ad 9)) rfl d_GrantServer_writeClaims_18 ?_
  refine lv_aload_n hx hb d_GrantServer_writeClaims_21 rfl (lv_at hl 1 rfl) ?_
  have g18 : f9 q = some (.inr (3, gV wq mq)) := hfr16 _ _ (hm_neI g8 g5 (by decide)) (hm_neA g8 g7) g8
  refine hm_get X hK hM g18 fl_GrantServer_160 (v := .int (wq 1)) rfl d_GrantServer_writeClaims_22 ?_
  refine hm_top (z := nI (vl 0)) hw1 ?_
  refine hm_callv hS hM hA (va_runV (As := [.int (nI (vl 0))]) (rest := []) X (c_addNumber l D k f9 (ad 9) (ad 19) (0 + st_len.getD 0 0) x11 (vl 0) (K 0) g14 g15 (hKd 0 (by decide)) (hvl 0 (by decide)) (by omega) H.size) (hm_cwV hts me_Text_addNumber wl_GrantServer_272 rfl rfl ⟨Nat.le_of_ble_eq_true rfl, Nat.le_of_ble_eq_true rfl⟩) (hm_preV hM hK g14 rfl) rfl rfl hl.1 rfl (lv_room (Nat.le_of_ble_eq_true rfl)) d_GrantServer_writeClaims_25 ⟨Nat.le_of_ble_eq_true rfl, Nat.le_of_ble_eq_true rfl⟩) (fun f19 H locs p20 hM hS => ?_)
  obtain ⟨x21, h22, h23, g24, g25, hfr26⟩ := p20
  have p2 : z_pre x21 (0 + st_len.getD 0 0 + (K 0 + 1)) (z_ct vl K) := z_pre_s p1 h22 h23 (fun e he => by rw [show 0 + st_len.getD 0 0 + e = 7 + e by omega]; exact z_ct_1 vl K e (by omega))
  refine lv_aload_n hx hb d_GrantServer_writeClaims_28 rfl (lv_at hl 0 rfl) ?_
  have g27 : f19 h = some (.inr (0, gsV u ad)) := hfr26 _ _ (hm_neI g17 g14 (by decide)) (hm_neA g17 g15) g17
  refine hm_get X hK hM g27 fl_GrantServer_40 (v := .ref (ad 9)) rfl d_GrantServer_writeClaims_29 ?_
  refine hm_ldcwS hx hb hown (hZ.2.2.1 1 (by decide)) d_GrantServer_writeClaims_32 ?_
  have g28 : f19 q = some (.inr (3, gV wq mq)) := hfr26 _ _ (hm_neI g18 g14 (by decide)) (hm_neA g18 g15) g18
  refine hm_callv hS hM hA (va_runV (As := [.ref (sA 1)]) (rest := []) X (c_addText l D k sA sV f19 (ad 9) (ad 19) ((0 + st_len.getD 0 0) + ((K 0) + 1)) x21 1 g24 g25 (by decide) (by omega) H.size) (hm_cwV hts me_Text_addText wl_GrantServer_268 rfl rfl ⟨Nat.le_of_ble_eq_true rfl, Nat.le_of_ble_eq_true rfl⟩) (hm_preVZ hZ hS hA hM hK g24 rfl) rfl rfl hl.1 rfl (lv_room (Nat.le_of_ble_eq_true rfl)) d_GrantServer_writeClaims_35 ⟨Nat.le_of_ble_eq_true rfl, Nat.le_of_ble_eq_true rfl⟩) (fun f29 H locs p30 hM hS => ?_)
  obtain ⟨x31, h32, h33, g34, g35, hfr36⟩ := p30
  have p3 : z_pre x31 (0 + st_len.getD 0 0 + (K 0 + 1) + st_len.getD 1 0) (z_ct vl K) := z_pre_s p2 h32 h33 (fun e he => by rw [show 0 + st_len.getD 0 0 + (K 0 + 1) + e = 7 + (K 0 + 1) + e by omega]; exact z_ct_2 vl K e (by omega))
  refine lv_aload_n hx hb d_GrantServer_writeClaims_38 rfl (lv_at hl 0 rfl) ?_
  have g37 : f29 h = some (.inr (0, gsV u ad)) := hfr36 _ _ (hm_neI g27 g24 (by decide)) (hm_neA g27 g25) g27
  refine hm_get X hK hM g37 fl_GrantServer_40 (v := .ref (ad 9)) rfl d_GrantServer_writeClaims_39 ?_
  refine lv_iload_n hx hb d_GrantServer_writeClaims_42 rfl (lv_at hl 2 rfl) ?_
  have g38 : f29 q = some (.inr (3, gV wq mq)) := hfr36 _ _ (hm_neI g28 g24 (by decide)) (hm_neA g28 g25) g28
  refine hm_callv hS hM hA (va_runV (As := [.int (nI (vl 1))]) (rest := []) X (c_addNumber l D k f29 (ad 9) (ad 19) (((0 + st_len.getD 0 0) + ((K 0) + 1)) + st_len.getD 1 0) x31 (vl 1) (K 1) g34 g35 (hKd 1 (by decide)) (hvl 1 (by decide)) (by omega) H.size) (hm_cwV hts me_Text_addNumber wl_GrantServer_272 rfl rfl ⟨Nat.le_of_ble_eq_true rfl, Nat.le_of_ble_eq_true rfl⟩) (hm_preV hM hK g34 rfl) rfl rfl hl.1 rfl (lv_room (Nat.le_of_ble_eq_true rfl)) d_GrantServer_writeClaims_43 ⟨Nat.le_of_ble_eq_true rfl, Nat.le_of_ble_eq_true rfl⟩) (fun f39 H locs p40 hM hS => ?_)
  obtain ⟨x41, h42, h43, g44, g45, hfr46⟩ := p40
  have p4 : z_pre x41 (0 + st_len.getD 0 0 + (K 0 + 1) + st_len.getD 1 0 + (K 1 + 1)) (z_ct vl K) := z_pre_s p3 h42 h43 (fun e he => by rw [show 0 + st_len.getD 0 0 + (K 0 + 1) + st_len.getD 1 0 + e = 7 + (K 0 + 1) + 7 + e by omega]; exact z_ct_3 vl K e (by omega))
  refine lv_aload_n hx hb d_GrantServer_writeClaims_46 rfl (lv_at hl 0 rfl) ?_
  have g47 : f39 h = some (.inr (0, gsV u ad)) := hfr46 _ _ (hm_neI g37 g34 (by decide)) (hm_neA g37 g35) g37
  refine hm_get X hK hM g47 fl_GrantServer_40 (v := .ref (ad 9)) rfl d_GrantServer_writeClaims_47 ?_
  refine hm_ldcwS hx hb hown (hZ.2.2.1 2 (by decide)) d_GrantServer_writeClaims_50 ?_
  have g48 : f39 q = some (.inr (3, gV wq mq)) := hfr46 _ _ (hm_neI g38 g34 (by decide)) (hm_neA g38 g35) g38
  refine hm_callv hS hM hA (va_runV (As := [.ref (sA 2)]) (rest := []) X (c_addText l D k sA sV f39 (ad 9) (ad 19) ((((0 + st_len.getD 0 0) + ((K 0) + 1)) + st_len.getD 1 0) + ((K 1) + 1)) x41 2 g44 g45 (by decide) (by omega) H.size) (hm_cwV hts me_Text_addText wl_GrantServer_268 rfl rfl ⟨Nat.le_of_ble_eq_true rfl, Nat.le_of_ble_eq_true rfl⟩) (hm_preVZ hZ hS hA hM hK g44 rfl) rfl rfl hl.1 rfl (lv_room (Nat.le_of_ble_eq_true rfl)) d_GrantServer_writeClaims_53 ⟨Nat.le_of_ble_eq_true rfl, Nat.le_of_ble_eq_true rfl⟩) (fun f49 H locs p50 hM hS => ?_)
  obtain ⟨x51, h52, h53, g54, g55, hfr56⟩ := p50
  have p5 : z_pre x51 (0 + st_len.getD 0 0 + (K 0 + 1) + st_len.getD 1 0 + (K 1 + 1) + st_len.getD 2 0) (z_ct vl K) := z_pre_s p4 h52 h53 (fun e he => by rw [show 0 + st_len.getD 0 0 + (K 0 + 1) + st_len.getD 1 0 + (K 1 + 1) + e = 7 + (K 0 + 1) + 7 + (K 1 + 1) + e by omega]; exact z_ct_4 vl K e (by omega))
  refine lv_aload_n hx hb d_GrantServer_writeClaims_56 rfl (lv_at hl 0 rfl) ?_
  have g57 : f49 h = some (.inr (0, gsV u ad)) := hfr56 _ _ (hm_neI g47 g44 (by decide)) (hm_neA g47 g45) g47
  refine hm_get X hK hM g57 fl_GrantServer_40 (v := .ref (ad 9)) rfl d_GrantServer_writeClaims_57 ?_
  refine lv_aload_n hx hb d_GrantServer_writeClaims_60 rfl (lv_at hl 1 rfl) ?_
  have g58 : f49 q = some (.inr (3, gV wq mq)) := hfr56 _ _ (hm_neI g48 g44 (by decide)) (hm_neA g48 g45) g48
  refine hm_get X hK hM g58 fl_GrantServer_279 (v := .int (wq 3)) rfl d_GrantServer_writeClaims_61 ?_
  refine hm_top (z := nI (vl 2)) hw3 ?_
  refine hm_callv hS hM hA (va_runV (As := [.int (nI (vl 2))]) (rest := []) X (c_addNumber l D k f49 (ad 9) (ad 19) (((((0 + st_len.getD 0 0) + ((K 0) + 1)) + st_len.getD 1 0) + ((K 1) + 1)) + st_len.getD 2 0) x51 (vl 2) (K 2) g54 g55 (hKd 2 (by decide)) (hvl 2 (by decide)) (by omega) H.size) (hm_cwV hts me_Text_addNumber wl_GrantServer_272 rfl rfl ⟨Nat.le_of_ble_eq_true rfl, Nat.le_of_ble_eq_true rfl⟩) (hm_preV hM hK g54 rfl) rfl rfl hl.1 rfl (lv_room (Nat.le_of_ble_eq_true rfl)) d_GrantServer_writeClaims_64 ⟨Nat.le_of_ble_eq_true rfl, Nat.le_of_ble_eq_true rfl⟩) (fun f59 H locs p60 hM hS => ?_)
  obtain ⟨x61, h62, h63, g64, g65, hfr66⟩ := p60
  have p6 : z_pre x61 (0 + st_len.getD 0 0 + (K 0 + 1) + st_len.getD 1 0 + (K 1 + 1) + st_len.getD 2 0 + (K 2 + 1)) (z_ct vl K) := z_pre_s p5 h62 h63 (fun e he => by rw [show 0 + st_len.getD 0 0 + (K 0 + 1) + st_len.getD 1 0 + (K 1 + 1) + st_len.getD 2 0 + e = 7 + (K 0 + 1) + 7 + (K 1 + 1) + 7 + e by omega]; exact z_ct_5 vl K e (by omega))
  refine lv_aload_n hx hb d_GrantServer_writeClaims_67 rfl (lv_at hl 0 rfl) ?_
  have g67 : f59 h = some (.inr (0, gsV u ad)) := hfr66 _ _ (hm_neI g57 g54 (by decide)) (hm_neA g57 g55) g57
  refine hm_get X hK hM g67 fl_GrantServer_40 (v := .ref (ad 9)) rfl d_GrantServer_writeClaims_68 ?_
  refine hm_ldcwS hx hb hown (hZ.2.2.1 3 (by decide)) d_GrantServer_writeClaims_71 ?_
  have g68 : f59 q = some (.inr (3, gV wq mq)) := hfr66 _ _ (hm_neI g58 g54 (by decide)) (hm_neA g58 g55) g58
  refine hm_callv hS hM hA (va_runV (As := [.ref (sA 3)]) (rest := []) X (c_addText l D k sA sV f59 (ad 9) (ad 19) ((((((0 + st_len.getD 0 0) + ((K 0) + 1)) + st_len.getD 1 0) + ((K 1) + 1)) + st_len.getD 2 0) + ((K 2) + 1)) x61 3 g64 g65 (by decide) (by omega) H.size) (hm_cwV hts me_Text_addText wl_GrantServer_268 rfl rfl ⟨Nat.le_of_ble_eq_true rfl, Nat.le_of_ble_eq_true rfl⟩) (hm_preVZ hZ hS hA hM hK g64 rfl) rfl rfl hl.1 rfl (lv_room (Nat.le_of_ble_eq_true rfl)) d_GrantServer_writeClaims_74 ⟨Nat.le_of_ble_eq_true rfl, Nat.le_of_ble_eq_true rfl⟩) (fun f69 H locs p70 hM hS => ?_)
  obtain ⟨x71, h72, h73, g74, g75, hfr76⟩ := p70
  have p7 : z_pre x71 (0 + st_len.getD 0 0 + (K 0 + 1) + st_len.getD 1 0 + (K 1 + 1) + st_len.getD 2 0 + (K 2 + 1) + st_len.getD 3 0) (z_ct vl K) := z_pre_s p6 h72 h73 (fun e he => by rw [show 0 + st_len.getD 0 0 + (K 0 + 1) + st_len.getD 1 0 + (K 1 + 1) + st_len.getD 2 0 + (K 2 + 1) + e = 7 + (K 0 + 1) + 7 + (K 1 + 1) + 7 + (K 2 + 1) + e by omega]; exact z_ct_6 vl K e (by omega))
  refine lv_aload_n hx hb d_GrantServer_writeClaims_77 rfl (lv_at hl 0 rfl) ?_
  have g77 : f69 h = some (.inr (0, gsV u ad)) := hfr76 _ _ (hm_neI g67 g64 (by decide)) (hm_neA g67 g65) g67
  refine hm_get X hK hM g77 fl_GrantServer_40 (v := .ref (ad 9)) rfl d_GrantServer_writeClaims_78 ?_
  refine lv_aload_n hx hb d_GrantServer_writeClaims_81 rfl (lv_at hl 1 rfl) ?_
  have g78 : f69 q = some (.inr (3, gV wq mq)) := hfr76 _ _ (hm_neI g68 g64 (by decide)) (hm_neA g68 g65) g68
  refine hm_get X hK hM g78 fl_GrantServer_263 (v := .int (wq 0)) rfl d_GrantServer_writeClaims_82 ?_
  refine hm_top (z := nI (vl 3)) hw0 ?_
  refine hm_callv hS hM hA (va_runV (As := [.int (nI (vl 3))]) (rest := []) X (c_addNumber l D k f69 (ad 9) (ad 19) (((((((0 + st_len.getD 0 0) + ((K 0) + 1)) + st_len.getD 1 0) + ((K 1) + 1)) + st_len.getD 2 0) + ((K 2) + 1)) + st_len.getD 3 0) x71 (vl 3) (K 3) g74 g75 (hKd 3 (by decide)) (hvl 3 (by decide)) (by omega) H.size) (hm_cwV hts me_Text_addNumber wl_GrantServer_272 rfl rfl ⟨Nat.le_of_ble_eq_true rfl, Nat.le_of_ble_eq_true rfl⟩) (hm_preV hM hK g74 rfl) rfl rfl hl.1 rfl (lv_room (Nat.le_of_ble_eq_true rfl)) d_GrantServer_writeClaims_85 ⟨Nat.le_of_ble_eq_true rfl, Nat.le_of_ble_eq_true rfl⟩) (fun f79 H locs p80 hM hS => ?_)
  obtain ⟨x81, h82, h83, g84, g85, hfr86⟩ := p80
  have p8 : z_pre x81 (0 + st_len.getD 0 0 + (K 0 + 1) + st_len.getD 1 0 + (K 1 + 1) + st_len.getD 2 0 + (K 2 + 1) + st_len.getD 3 0 + (K 3 + 1)) (z_ct vl K) := z_pre_s p7 h82 h83 (fun e he => by rw [show 0 + st_len.getD 0 0 + (K 0 + 1) + st_len.getD 1 0 + (K 1 + 1) + st_len.getD 2 0 + (K 2 + 1) + st_len.getD 3 0 + e = 7 + (K 0 + 1) + 7 + (K 1 + 1) + 7 + (K 2 + 1) + 7 + e by omega]; exact z_ct_7 vl K e (by omega))
  refine lv_aload_n hx hb d_GrantServer_writeClaims_88 rfl (lv_at hl 0 rfl) ?_
  have g87 : f79 h = some (.inr (0, gsV u ad)) := hfr86 _ _ (hm_neI g77 g74 (by decide)) (hm_neA g77 g75) g77
  refine hm_get X hK hM g87 fl_GrantServer_40 (v := .ref (ad 9)) rfl d_GrantServer_writeClaims_89 ?_
  refine hm_ldcwS hx hb hown (hZ.2.2.1 4 (by decide)) d_GrantServer_writeClaims_92 ?_
  have g88 : f79 q = some (.inr (3, gV wq mq)) := hfr86 _ _ (hm_neI g78 g74 (by decide)) (hm_neA g78 g75) g78
  refine hm_callv hS hM hA (va_runV (As := [.ref (sA 4)]) (rest := []) X (c_addText l D k sA sV f79 (ad 9) (ad 19) ((((((((0 + st_len.getD 0 0) + ((K 0) + 1)) + st_len.getD 1 0) + ((K 1) + 1)) + st_len.getD 2 0) + ((K 2) + 1)) + st_len.getD 3 0) + ((K 3) + 1)) x81 4 g84 g85 (by decide) (by omega) H.size) (hm_cwV hts me_Text_addText wl_GrantServer_268 rfl rfl ⟨Nat.le_of_ble_eq_true rfl, Nat.le_of_ble_eq_true rfl⟩) (hm_preVZ hZ hS hA hM hK g84 rfl) rfl rfl hl.1 rfl (lv_room (Nat.le_of_ble_eq_true rfl)) d_GrantServer_writeClaims_95 ⟨Nat.le_of_ble_eq_true rfl, Nat.le_of_ble_eq_true rfl⟩) (fun f89 H locs p90 hM hS => ?_)
  obtain ⟨x91, h92, h93, g94, g95, hfr96⟩ := p90
  have p9 : z_pre x91 (0 + st_len.getD 0 0 + (K 0 + 1) + st_len.getD 1 0 + (K 1 + 1) + st_len.getD 2 0 + (K 2 + 1) + st_len.getD 3 0 + (K 3 + 1) + st_len.getD 4 0) (z_ct vl K) := z_pre_s p8 h92 h93 (fun e he => by rw [show 0 + st_len.getD 0 0 + (K 0 + 1) + st_len.getD 1 0 + (K 1 + 1) + st_len.getD 2 0 + (K 2 + 1) + st_len.getD 3 0 + (K 3 + 1) + e = 7 + (K 0 + 1) + 7 + (K 1 + 1) + 7 + (K 2 + 1) + 7 + (K 3 + 1) + e by omega]; exact z_ct_8 vl K e (by omega))
  refine lv_aload_n hx hb d_GrantServer_writeClaims_98 rfl (lv_at hl 0 rfl) ?_
  have g97 : f89 h = some (.inr (0, gsV u ad)) := hfr96 _ _ (hm_neI g87 g84 (by decide)) (hm_neA g87 g85) g87
  refine hm_get X hK hM g97 fl_GrantServer_40 (v := .ref (ad 9)) rfl d_GrantServer_writeClaims_99 ?_
  refine lv_aload_n hx hb d_GrantServer_writeClaims_102 rfl (lv_at hl 1 rfl) ?_
  have g98 : f89 q = some (.inr (3, gV wq mq)) := hfr96 _ _ (hm_neI g88 g84 (by decide)) (hm_neA g88 g85) g88
  refine hm_get X hK hM g98 fl_GrantServer_152 (v := .int (wq 2)) rfl d_GrantServer_writeClaims_103 ?_
  refine hm_top (z := nI (vl 4)) hw2 ?_
  refine hm_callv hS hM hA (va_runV (As := [.int (nI (vl 4))]) (rest := []) X (c_addNumber l D k f89 (ad 9) (ad 19) (((((((((0 + st_len.getD 0 0) + ((K 0) + 1)) + st_len.getD 1 0) + ((K 1) + 1)) + st_len.getD 2 0) + ((K 2) + 1)) + st_len.getD 3 0) + ((K 3) + 1)) + st_len.getD 4 0) x91 (vl 4) (K 4) g94 g95 (hKd 4 (by decide)) (hvl 4 (by decide)) (by omega) H.size) (hm_cwV hts me_Text_addNumber wl_GrantServer_272 rfl rfl ⟨Nat.le_of_ble_eq_true rfl, Nat.le_of_ble_eq_true rfl⟩) (hm_preV hM hK g94 rfl) rfl rfl hl.1 rfl (lv_room (Nat.le_of_ble_eq_true rfl)) d_GrantServer_writeClaims_106 ⟨Nat.le_of_ble_eq_true rfl, Nat.le_of_ble_eq_true rfl⟩) (fun f99 H locs p100 hM hS => ?_)
  obtain ⟨x101, h102, h103, g104, g105, hfr106⟩ := p100
  have p10 : z_pre x101 (0 + st_len.getD 0 0 + (K 0 + 1) + st_len.getD 1 0 + (K 1 + 1) + st_len.getD 2 0 + (K 2 + 1) + st_len.getD 3 0 + (K 3 + 1) + st_len.getD 4 0 + (K 4 + 1)) (z_ct vl K) := z_pre_s p9 h102 h103 (fun e he => by rw [show 0 + st_len.getD 0 0 + (K 0 + 1) + st_len.getD 1 0 + (K 1 + 1) + st_len.getD 2 0 + (K 2 + 1) + st_len.getD 3 0 + (K 3 + 1) + st_len.getD 4 0 + e = 7 + (K 0 + 1) + 7 + (K 1 + 1) + 7 + (K 2 + 1) + 7 + (K 3 + 1) + 9 + e by omega]; exact z_ct_9 vl K e (by omega))
  refine lv_aload_n hx hb d_GrantServer_writeClaims_109 rfl (lv_at hl 0 rfl) ?_
  have g107 : f99 h = some (.inr (0, gsV u ad)) := hfr106 _ _ (hm_neI g97 g94 (by decide)) (hm_neA g97 g95) g97
  refine hm_get X hK hM g107 fl_GrantServer_40 (v := .ref (ad 9)) rfl d_GrantServer_writeClaims_110 ?_
  refine hm_ldcwS hx hb hown (hZ.2.2.1 5 (by decide)) d_GrantServer_writeClaims_113 ?_
  have g108 : f99 q = some (.inr (3, gV wq mq)) := hfr106 _ _ (hm_neI g98 g94 (by decide)) (hm_neA g98 g95) g98
  refine hm_callv hS hM hA (va_runV (As := [.ref (sA 5)]) (rest := []) X (c_addText l D k sA sV f99 (ad 9) (ad 19) ((((((((((0 + st_len.getD 0 0) + ((K 0) + 1)) + st_len.getD 1 0) + ((K 1) + 1)) + st_len.getD 2 0) + ((K 2) + 1)) + st_len.getD 3 0) + ((K 3) + 1)) + st_len.getD 4 0) + ((K 4) + 1)) x101 5 g104 g105 (by decide) (by omega) H.size) (hm_cwV hts me_Text_addText wl_GrantServer_268 rfl rfl ⟨Nat.le_of_ble_eq_true rfl, Nat.le_of_ble_eq_true rfl⟩) (hm_preVZ hZ hS hA hM hK g104 rfl) rfl rfl hl.1 rfl (lv_room (Nat.le_of_ble_eq_true rfl)) d_GrantServer_writeClaims_116 ⟨Nat.le_of_ble_eq_true rfl, Nat.le_of_ble_eq_true rfl⟩) (fun f109 H locs p110 hM hS => ?_)
  obtain ⟨x111, h112, h113, g114, g115, hfr116⟩ := p110
  have p11 : z_pre x111 (0 + st_len.getD 0 0 + (K 0 + 1) + st_len.getD 1 0 + (K 1 + 1) + st_len.getD 2 0 + (K 2 + 1) + st_len.getD 3 0 + (K 3 + 1) + st_len.getD 4 0 + (K 4 + 1) + st_len.getD 5 0) (z_ct vl K) := z_pre_s p10 h112 h113 (fun e he => by rw [show 0 + st_len.getD 0 0 + (K 0 + 1) + st_len.getD 1 0 + (K 1 + 1) + st_len.getD 2 0 + (K 2 + 1) + st_len.getD 3 0 + (K 3 + 1) + st_len.getD 4 0 + (K 4 + 1) + e = 7 + (K 0 + 1) + 7 + (K 1 + 1) + 7 + (K 2 + 1) + 7 + (K 3 + 1) + 9 + (K 4 + 1) + e by omega]; exact z_ct_10 vl K e (by omega))
  have e9 : 0 + st_len.getD 0 0 + (K 0 + 1) + st_len.getD 1 0 + (K 1 + 1) + st_len.getD 2 0 + (K 2 + 1) + st_len.getD 3 0 + (K 3 + 1) + st_len.getD 4 0 + (K 4 + 1) + st_len.getD 5 0 = z_tot K := by unfold z_tot; omega
  exact hm_vret X hQ hr hlk hK hM hS d_GrantServer_writeClaims_119 ⟨x111, e9 ▸ p11, by rw [← e9]; exact g114, g115, (fun zq zx n0 n1 hq => by have t0 := hq; have t1 := hfr4 _ _ n0 t0; have t2 := hfr16 _ _ n0 n1 t1; have t3 := hfr26 _ _ n0 n1 t2; have t4 := hfr36 _ _ n0 n1 t3; have t5 := hfr46 _ _ n0 n1 t4; have t6 := hfr56 _ _ n0 n1 t5; have t7 := hfr66 _ _ n0 n1 t6; have t8 := hfr76 _ _ n0 n1 t7; have t9 := hfr86 _ _ n0 n1 t8; have t10 := hfr96 _ _ n0 n1 t9; have t11 := hfr106 _ _ n0 n1 t10; have t12 := hfr116 _ _ n0 n1 t11; exact t12)⟩
set_option maxHeartbeats 4000000 in
set_option maxRecDepth 100000 in
theorem c_giveTokens (l : Launch) (D : va_G) (k : Nat → ClassId) (sA sV : Nat → Nat) (f : hm) (h : Nat) (u : Nat → Int32) (ad : Nat → Nat) (us : Nat → Nat) (g : Nat → Nat → Option Nat) (qa : Nat) (wa : Nat → Int32) (ma : Option Nat) (qb : Nat) (wb : Nat → Int32) (mb : Option Nat) (qf : Nat) (fs : Int32) (fv : Int32) (n9 : Int32) (y : Nat → Int32) (n8 : Int32) (y8 : Nat → Int32) (ky : Int32) (vl : Nat → Nat) (K : Nat → Nat) (x : Int32) (hh : f h = some (.inr (0, gsV u ad))) (hs1 : f (ad 5) = some (.inr (4, [.ref (ad 15), .int (nI (us 1))]))) (hr1 : f (ad 15) = some (.inl (k 3, 24, .inr (.inr (.inr (.inr (g 1))))))) (hs2 : f (ad 6) = some (.inr (4, [.ref (ad 16), .int (nI (us 2))]))) (hr2 : f (ad 16) = some (.inl (k 3, 24, .inr (.inr (.inr (.inr (g 2))))))) (hqa : f qa = some (.inr (3, gV wa ma))) (hqb : f qb = some (.inr (3, gV wb mb))) (hqf : f qf = some (.inr (2, [.int fs, .int (nI (vl 1)), .int fv]))) (ht2 : f (ad 9) = some (.inr (5, [.ref (ad 19), .int n9]))) (ha2 : f (ad 19) = some (.inl (k 2, 120, .inl y))) (ht1 : f (ad 8) = some (.inr (5, [.ref (ad 18), .int n8]))) (ha1 : f (ad 18) = some (.inl (k 2, 120, .inl y8))) (hw : f (ad 11) = some (.inr (6, [.int ky]))) (hap : gs_ap ad) (hu1 : us 1 < 24) (hu2 : us 2 < 24) (hga : g 1 (us 1) = some qa) (hgb : g 2 (us 2) = some qb) (hqab : qa ≠ qb) (hen : u 15 + u 1 = nI (vl 2)) (hmd : u 14 + 1 = nI (vl 3)) (hKd : ∀ i, i < 5 → z_dg (vl i) (K i)) (hvl : ∀ i, i < 5 → vl i < 2 ^ 31) (hsz : z_tot K ≤ 81) : hm_MiZ l sA sV D vwCl (tyL k) y_GrantServer_giveTokens (Cond.code y_GrantServer_giveTokens b_GrantServer_giveTokens 7 (some .int) :: TB) ({ frames := 6, cells := 0, slots := 0, locals := 133 }) [.ref h, .ref qf, .int (nI (vl 0)), .int (nI (vl 4)), .int x] f (fun (r : Int32) (f1 : hm) => ∃ (y9 : Nat → Int32) (y2 : Nat → Int32), nI (vl 3) = r ∧ (∀ i, i < (z_tot K * 8 + 5) / 6 → y2 i = nI (st_chr 6 (z_six (z_tot K) (z_ct vl K) i))) ∧ (y2 ((z_tot K * 8 + 5) / 6) = 46) ∧ (∀ i, i < 10 → y2 ((z_tot K * 8 + 5) / 6 + 1 + i) = nI (st_chr 6 (z_ss (z_seal ky.toInt64 y2 ((z_tot K * 8 + 5) / 6)) i))) ∧ f1 h = some (.inr (0, gsV (upd u 14 (nI (vl 3))) ad)) ∧ f1 (ad 5) = some (.inr (4, [.ref (ad 15), .int (nI (us 1 + 1))])) ∧ f1 (ad 15) = some (.inl (k 3, 24, .inr (.inr (.inr (.inr (g 1)))))) ∧ f1 qa = some (.inr (3, gV (upd (upd (upd (upd (upd (upd wa 0 x) 1 (nI (vl 0))) 2 fs) 3 (u 15 + u 2)) 6 0) 7 0) (some qf))) ∧ f1 (ad 6) = some (.inr (4, [.ref (ad 16), .int (nI (us 2 + 1))])) ∧ f1 (ad 16) = some (.inl (k 3, 24, .inr (.inr (.inr (.inr (g 2)))))) ∧ f1 qb = some (.inr (3, gV (upd (upd (upd (upd (upd (upd wb 0 (nI (vl 3))) 1 (nI (vl 0))) 2 (nI (vl 4))) 3 (nI (vl 2))) 6 0) 7 0) (some qf))) ∧ f1 (ad 9) = some (.inr (5, [.ref (ad 19), .int (nI (z_tot K))])) ∧ f1 (ad 19) = some (.inl (k 2, 120, .inl y9)) ∧ f1 (ad 8) = some (.inr (5, [.ref (ad 18), .int (nI ((z_tot K * 8 + 5) / 6 + 11))])) ∧ f1 (ad 18) = some (.inl (k 2, 120, .inl y2)) ∧ ∀ (zq : Nat) (zx : va_E), zq ≠ h → zq ≠ (ad 5) → zq ≠ (ad 15) → zq ≠ qa → zq ≠ (ad 6) → zq ≠ (ad 16) → zq ≠ qb → zq ≠ (ad 9) → zq ≠ (ad 19) → zq ≠ (ad 8) → zq ≠ (ad 18) → f zq = some zx → f1 zq = some zx) 0 0 := by
  refine hm_enterZ (Qc := fun sz => va_Qi _ (hm_R D vwCl (tyL k) f sz) (hm_A f sz)) (by decide) rfl (Nat.le_of_ble_eq_true rfl) ?_
  intro pg e s m below meth cd ls hZ X0 hr hlk hin hK hM hS hA hl Q hQ
  have X : CallFix pg m cd b_GrantServer_giveTokens 7 s ([.ref h, .ref qf, .int (nI (vl 0)), .int (nI (vl 4)), .int x] : List Value).toArray TB R_GrantServer := ⟨X0.1, X0.2.1, X0.2.2.1, X0.2.2.2.1, fun w h => X0.2.2.2.2 w (List.mem_cons_of_mem _ h)⟩
  have hx := X.1; have hb := X.2.1; have hml := X.2.2.1; have hown := X.2.2.2.1; have hts := X.2.2.2.2
  have hl : lv_has ls 7 [(0, .ref h), (1, .ref qf), (2, .int (nI (vl 0))), (3, .int (nI (vl 4))), (4, .int x)] := hl
  have hz := hsz
  unfold z_tot at hz
  refine lv_aload_n hx hb d_GrantServer_giveTokens_0 rfl (lv_at hl 0 rfl) ?_
  refine hm_get X hK hM hh fl_GrantServer_24 (v := .ref (ad 5)) rfl d_GrantServer_giveTokens_1 ?_
  refine hm_callq hS hM hA (va_runV (As := []) (rest := []) X (c_nextRow l D k f (ad 5) (ad 15) 24 (us 1) (g 1) hs1 hr1 hu1 (by decide) s.heap.size) (hm_cwV hts me_Shelf_nextRow wl_GrantServer_115 rfl rfl ⟨Nat.le_of_ble_eq_true rfl, Nat.le_of_ble_eq_true rfl⟩) (hm_preV hM hK hs1 rfl) rfl rfl hl.1 rfl (lv_room (Nat.le_of_ble_eq_true rfl)) d_GrantServer_giveTokens_4 ⟨Nat.le_of_ble_eq_true rfl, Nat.le_of_ble_eq_true rfl⟩) (fun r3 f1 H locs p2 hM hS => ?_)
  obtain ⟨rfl, g4, g5, hfr6⟩ := p2
  refine hm_ref hga ?_
  refine lv_astore (lv' := [(5, .ref qa), (0, .ref h), (1, .ref qf), (2, .int (nI (vl 0))), (3, .int (nI (vl 4))), (4, .int x)]) hx hb d_GrantServer_giveTokens_7 hl (by decide) rfl (fun ls hl => ?_)
  refine lv_aload hx hb d_GrantServer_giveTokens_9 (lv_at hl 0 rfl) ?_
  refine lv_iload hx hb d_GrantServer_giveTokens_11 (lv_at hl 5 rfl) ?_
  refine lv_iload_n hx hb d_GrantServer_giveTokens_13 rfl (lv_at hl 3 rfl) ?_
  refine lv_aload_n hx hb d_GrantServer_giveTokens_14 rfl (lv_at hl 2 rfl) ?_
  have g7 : f1 qf = some (.inr (2, [.int fs, .int (nI (vl 1)), .int fv])) := hfr6 _ _ (hm_neI hqf hs1 (by decide)) (hm_neA hqf hr1) hqf
  refine hm_get X hK hM g7 fl_GrantServer_167 (v := .int fs) rfl d_GrantServer_giveTokens_15 ?_
  refine lv_aload_n hx hb d_GrantServer_giveTokens_18 rfl (lv_at hl 1 rfl) ?_
  have g8 : f1 h = some (.inr (0, gsV u ad)) := hfr6 _ _ (hm_neI hh hs1 (by decide)) (hm_neA hh hr1) hh
  refine hm_get X hK hM g8 fl_GrantServer_60 (v := .int (u 15)) rfl d_GrantServer_giveTokens_19 ?_
  refine lv_aload_n hx hb d_GrantServer_giveTokens_22 rfl (lv_at hl 1 rfl) ?_
  refine hm_get X hK hM g8 fl_GrantServer_80 (v := .int (u 2)) rfl d_GrantServer_giveTokens_23 ?_
  refine lv_iadd hx hb d_GrantServer_giveTokens_26 ?_
  refine lv_aload_n hx hb d_GrantServer_giveTokens_27 rfl (lv_at hl 2 rfl) ?_
  have g9 : f1 qa = some (.inr (3, gV wa ma)) := hfr6 _ _ (hm_neI hqa hs1 (by decide)) (hm_neA hqa hr1) hqa
  have g10 : f1 (ad 6) = some (.inr (4, [.ref (ad 16), .int (nI (us 2))])) := hfr6 _ _ (fun z => absurd (hap 6 5 (by decide) (by decide) rfl rfl z) (by decide)) (fun z => absurd (hap 6 15 (by decide) (by decide) rfl rfl z) (by decide)) hs2
  have g11 : f1 (ad 16) = some (.inl (k 3, 24, .inr (.inr (.inr (.inr (g 2)))))) := hfr6 _ _ (fun z => absurd (hap 16 5 (by decide) (by decide) rfl rfl z) (by decide)) (fun z => absurd (hap 16 15 (by decide) (by decide) rfl rfl z) (by decide)) hr2
  have g12 : f1 qb = some (.inr (3, gV wb mb)) := hfr6 _ _ (hm_neI hqb hs1 (by decide)) (hm_neA hqb hr1) hqb
  have g13 : f1 (ad 9) = some (.inr (5, [.ref (ad 19), .int n9])) := hfr6 _ _ (fun z => absurd (hap 9 5 (by decide) (by decide) rfl rfl z) (by decide)) (fun z => absurd (hap 9 15 (by decide) (by decide) rfl rfl z) (by decide)) ht2
  have g14 : f1 (ad 19) = some (.inl (k 2, 120, .inl y)) := hfr6 _ _ (fun z => absurd (hap 19 5 (by decide) (by decide) rfl rfl z) (by decide)) (fun z => absurd (hap 19 15 (by decide) (by decide) rfl rfl z) (by decide)) ha2
  have g15 : f1 (ad 8) = some (.inr (5, [.ref (ad 18), .int n8])) := hfr6 _ _ (fun z => absurd (hap 8 5 (by decide) (by decide) rfl rfl z) (by decide)) (fun z => absurd (hap 8 15 (by decide) (by decide) rfl rfl z) (by decide)) ht1
  have g16 : f1 (ad 18) = some (.inl (k 2, 120, .inl y8)) := hfr6 _ _ (fun z => absurd (hap 18 5 (by decide) (by decide) rfl rfl z) (by decide)) (fun z => absurd (hap 18 15 (by decide) (by decide) rfl rfl z) (by decide)) ha1
  have g17 : f1 (ad 11) = some (.inr (6, [.int ky])) := hfr6 _ _ (fun z => absurd (hap 11 5 (by decide) (by decide) rfl rfl z) (by decide)) (fun z => absurd (hap 11 15 (by decide) (by decide) rfl rfl z) (by decide)) hw
  refine hm_callv hS hM hA (va_runV (As := [.int x, .int (nI (vl 0)), .int fs, .int ((u 15) + (u 2)), .ref qf]) (rest := []) X (c_Grant_begin l D k f1 qa wa ma x (nI (vl 0)) fs ((u 15) + (u 2)) (some qf) g9  H.size) (hm_cwV hts me_Grant_begin wl_GrantServer_119 rfl rfl ⟨Nat.le_of_ble_eq_true rfl, Nat.le_of_ble_eq_true rfl⟩) (hm_preV hM hK g9 rfl) rfl rfl hl.1 rfl (lv_room (Nat.le_of_ble_eq_true rfl)) d_GrantServer_giveTokens_28 ⟨Nat.le_of_ble_eq_true rfl, Nat.le_of_ble_eq_true rfl⟩) (fun f18 H locs p19 hM hS => ?_)
  obtain ⟨g20, hfr21⟩ := p19
  refine lv_aload_n hx hb d_GrantServer_giveTokens_31 rfl (lv_at hl 1 rfl) ?_
  refine lv_dup hx hb d_GrantServer_giveTokens_32 rfl ?_
  have g22 : f18 h = some (.inr (0, gsV u ad)) := hfr21 _ _ (hm_neI g8 g9 (by decide)) g8
  refine hm_get X hK hM g22 fl_GrantServer_57 (v := .int (u 14)) rfl d_GrantServer_giveTokens_33 ?_
  refine lv_iconst (v := 1) hx hb d_GrantServer_giveTokens_36 (by decide) ?_
  refine lv_iadd hx hb d_GrantServer_giveTokens_37 ?_
  refine hm_top (z := nI (vl 3)) hmd ?_
  refine hm_put X hK hM hS (fs' := gsV (upd u 14 (nI (vl 3))) ad) g22 fl_GrantServer_57 rfl rfl (Nat.le_of_ble_eq_true rfl) rfl d_GrantServer_giveTokens_38 (fun f23 H locs e24 hM hS => ?_)
  refine lv_aload_n hx hb d_GrantServer_giveTokens_41 rfl (lv_at hl 1 rfl) ?_
  have g25 : f23 h = some (.inr (0, gsV (upd u 14 (nI (vl 3))) ad)) := by rw [e24, hm_up_s]
  refine hm_get X hK hM g25 fl_GrantServer_27 (v := .ref (ad 6)) rfl d_GrantServer_giveTokens_42 ?_
  have g26 : f18 (ad 6) = some (.inr (4, [.ref (ad 16), .int (nI (us 2))])) := hfr21 _ _ (hm_neI g10 g9 (by decide)) g10
  have g27 : f23 (ad 6) = some (.inr (4, [.ref (ad 16), .int (nI (us 2))])) := by rw [e24, hm_up_n (hm_neI g26 g22 (by decide))]; exact g26
  have g28 : f18 (ad 16) = some (.inl (k 3, 24, .inr (.inr (.inr (.inr (g 2)))))) := hfr21 _ _ ((hm_neA g9 g11).symm) g11
  have g29 : f23 (ad 16) = some (.inl (k 3, 24, .inr (.inr (.inr (.inr (g 2)))))) := by rw [e24, hm_up_n ((hm_neA g22 g28).symm)]; exact g28
  have g30 : f18 (ad 5) = some (.inr (4, [.ref (ad 15), .int (nI ((us 1) + 1))])) := hfr21 _ _ (hm_neI g4 g9 (by decide)) g4
  have g31 : f23 (ad 5) = some (.inr (4, [.ref (ad 15), .int (nI ((us 1) + 1))])) := by rw [e24, hm_up_n (hm_neI g30 g22 (by decide))]; exact g30
  have g32 : f18 (ad 15) = some (.inl (k 3, 24, .inr (.inr (.inr (.inr (g 1)))))) := hfr21 _ _ ((hm_neA g9 g5).symm) g5
  have g33 : f23 (ad 15) = some (.inl (k 3, 24, .inr (.inr (.inr (.inr (g 1)))))) := by rw [e24, hm_up_n ((hm_neA g22 g32).symm)]; exact g32
  have g34 : f23 qa = some (.inr (3, gV (upd (upd (upd (upd (upd (upd wa 0 x) 1 (nI (vl 0))) 2 fs) 3 ((u 15) + (u 2))) 6 0) 7 0) (some qf))) := by rw [e24, hm_up_n (hm_neI g20 g22 (by decide))]; exact g20
  have g35 : f18 qb = some (.inr (3, gV wb mb)) := hfr21 _ _ hqab.symm g12
  have g36 : f23 qb = some (.inr (3, gV wb mb)) := by rw [e24, hm_up_n (hm_neI g35 g22 (by decide))]; exact g35
  have g37 : f18 qf = some (.inr (2, [.int fs, .int (nI (vl 1)), .int fv])) := hfr21 _ _ (hm_neI g7 g9 (by decide)) g7
  have g38 : f23 qf = some (.inr (2, [.int fs, .int (nI (vl 1)), .int fv])) := by rw [e24, hm_up_n (hm_neI g37 g22 (by decide))]; exact g37
  have g39 : f18 (ad 9) = some (.inr (5, [.ref (ad 19), .int n9])) := hfr21 _ _ (hm_neI g13 g9 (by decide)) g13
  have g40 : f23 (ad 9) = some (.inr (5, [.ref (ad 19), .int n9])) := by rw [e24, hm_up_n (hm_neI g39 g22 (by decide))]; exact g39
  have g41 : f18 (ad 19) = some (.inl (k 2, 120, .inl y)) := hfr21 _ _ ((hm_neA g9 g14).symm) g14
  have g42 : f23 (ad 19) = some (.inl (k 2, 120, .inl y)) := by rw [e24, hm_up_n ((hm_neA g22 g41).symm)]; exact g41
  have g43 : f18 (ad 8) = some (.inr (5, [.ref (ad 18), .int n8])) := hfr21 _ _ (hm_neI g15 g9 (by decide)) g15
  have g44 : f23 (ad 8) = some (.inr (5, [.ref (ad 18), .int n8])) := by rw [e24, hm_up_n (hm_neI g43 g22 (by decide))]; exact g43
  have g45 : f18 (ad 18) = some (.inl (k 2, 120, .inl y8)) := hfr21 _ _ ((hm_neA g9 g16).symm) g16
  have g46 : f23 (ad 18) = some (.inl (k 2, 120, .inl y8)) := by rw [e24, hm_up_n ((hm_neA g22 g45).symm)]; exact g45
  have g47 : f18 (ad 11) = some (.inr (6, [.int ky])) := hfr21 _ _ (hm_neI g17 g9 (by decide)) g17
  have g48 : f23 (ad 11) = some (.inr (6, [.int ky])) := by rw [e24, hm_up_n (hm_neI g47 g22 (by decide))]; exact g47
  refine hm_callq hS hM hA (va_runV (As := []) (rest := []) X (c_nextRow l D k f23 (ad 6) (ad 16) 24 (us 2) (g 2) g27 g29 hu2 (by decide) H.size) (hm_cwV hts me_Shelf_nextRow wl_GrantServer_115 rfl rfl ⟨Nat.le_of_ble_eq_true rfl, Nat.le_of_ble_eq_true rfl⟩) (hm_preV hM hK g27 rfl) rfl rfl hl.1 rfl (lv_room (Nat.le_of_ble_eq_true rfl)) d_GrantServer_giveTokens_45 ⟨Nat.le_of_ble_eq_true rfl, Nat.le_of_ble_eq_true rfl⟩) (fun r51 f49 H locs p50 hM hS => ?_)
  obtain ⟨rfl, g52, g53, hfr54⟩ := p50
  refine hm_ref hgb ?_
  refine lv_astore (lv' := [(6, .ref qb), (5, .ref qa), (0, .ref h), (1, .ref qf), (2, .int (nI (vl 0))), (3, .int (nI (vl 4))), (4, .int x)]) hx hb d_GrantServer_giveTokens_48 hl (by decide) rfl (fun ls hl => ?_)
  refine lv_aload hx hb d_GrantServer_giveTokens_50 (lv_at hl 0 rfl) ?_
  refine lv_aload_n hx hb d_GrantServer_giveTokens_52 rfl (lv_at hl 2 rfl) ?_
  have g55 : f49 h = some (.inr (0, gsV (upd u 14 (nI (vl 3))) ad)) := hfr54 _ _ (hm_neI g25 g27 (by decide)) (hm_neA g25 g29) g25
  refine hm_get X hK hM g55 fl_GrantServer_57 (v := .int (nI (vl 3))) rfl d_GrantServer_giveTokens_53 ?_
  refine lv_iload_n hx hb d_GrantServer_giveTokens_56 rfl (lv_at hl 4 rfl) ?_
  refine lv_iload_n hx hb d_GrantServer_giveTokens_57 rfl (lv_at hl 5 rfl) ?_
  refine lv_aload_n hx hb d_GrantServer_giveTokens_58 rfl (lv_at hl 2 rfl) ?_
  refine hm_get X hK hM g55 fl_GrantServer_60 (v := .int (u 15)) rfl d_GrantServer_giveTokens_59 ?_
  refine lv_aload_n hx hb d_GrantServer_giveTokens_62 rfl (lv_at hl 2 rfl) ?_
  refine hm_get X hK hM g55 fl_GrantServer_77 (v := .int (u 1)) rfl d_GrantServer_giveTokens_63 ?_
  refine lv_iadd hx hb d_GrantServer_giveTokens_66 ?_
  refine hm_top (z := nI (vl 2)) hen ?_
  refine lv_aload_n hx hb d_GrantServer_giveTokens_67 rfl (lv_at hl 3 rfl) ?_
  have g56 : f49 qb = some (.inr (3, gV wb mb)) := hfr54 _ _ (hm_neI g36 g27 (by decide)) (hm_neA g36 g29) g36
  have g57 : f49 (ad 5) = some (.inr (4, [.ref (ad 15), .int (nI ((us 1) + 1))])) := hfr54 _ _ (fun z => absurd (hap 5 6 (by decide) (by decide) rfl rfl z) (by decide)) (fun z => absurd (hap 5 16 (by decide) (by decide) rfl rfl z) (by decide)) g31
  have g58 : f49 (ad 15) = some (.inl (k 3, 24, .inr (.inr (.inr (.inr (g 1)))))) := hfr54 _ _ (fun z => absurd (hap 15 6 (by decide) (by decide) rfl rfl z) (by decide)) (fun z => absurd (hap 15 16 (by decide) (by decide) rfl rfl z) (by decide)) g33
  have g59 : f49 qa = some (.inr (3, gV (upd (upd (upd (upd (upd (upd wa 0 x) 1 (nI (vl 0))) 2 fs) 3 ((u 15) + (u 2))) 6 0) 7 0) (some qf))) := hfr54 _ _ (hm_neI g34 g27 (by decide)) (hm_neA g34 g29) g34
  have g60 : f49 qf = some (.inr (2, [.int fs, .int (nI (vl 1)), .int fv])) := hfr54 _ _ (hm_neI g38 g27 (by decide)) (hm_neA g38 g29) g38
  have g61 : f49 (ad 9) = some (.inr (5, [.ref (ad 19), .int n9])) := hfr54 _ _ (fun z => absurd (hap 9 6 (by decide) (by decide) rfl rfl z) (by decide)) (fun z => absurd (hap 9 16 (by decide) (by decide) rfl rfl z) (by decide)) g40
  have g62 : f49 (ad 19) = some (.inl (k 2, 120, .inl y)) := hfr54 _ _ (fun z => absurd (hap 19 6 (by decide) (by decide) rfl rfl z) (by decide)) (fun z => absurd (hap 19 16 (by decide) (by decide) rfl rfl z) (by decide)) g42
  have g63 : f49 (ad 8) = some (.inr (5, [.ref (ad 18), .int n8])) := hfr54 _ _ (fun z => absurd (hap 8 6 (by decide) (by decide) rfl rfl z) (by decide)) (fun z => absurd (hap 8 16 (by decide) (by decide) rfl rfl z) (by decide)) g44
  have g64 : f49 (ad 18) = some (.inl (k 2, 120, .inl y8)) := hfr54 _ _ (fun z => absurd (hap 18 6 (by decide) (by decide) rfl rfl z) (by decide)) (fun z => absurd (hap 18 16 (by decide) (by decide) rfl rfl z) (by decide)) g46
  have g65 : f49 (ad 11) = some (.inr (6, [.int ky])) := hfr54 _ _ (fun z => absurd (hap 11 6 (by decide) (by decide) rfl rfl z) (by decide)) (fun z => absurd (hap 11 16 (by decide) (by decide) rfl rfl z) (by decide)) g48
  refine hm_callv hS hM hA (va_runV (As := [.int (nI (vl 3)), .int (nI (vl 0)), .int (nI (vl 4)), .int (nI (vl 2)), .ref qf]) (rest := []) X (c_Grant_begin l D k f49 qb wb mb (nI (vl 3)) (nI (vl 0)) (nI (vl 4)) (nI (vl 2)) (some qf) g56  H.size) (hm_cwV hts me_Grant_begin wl_GrantServer_119 rfl rfl ⟨Nat.le_of_ble_eq_true rfl, Nat.le_of_ble_eq_true rfl⟩) (hm_preV hM hK g56 rfl) rfl rfl hl.1 rfl (lv_room (Nat.le_of_ble_eq_true rfl)) d_GrantServer_giveTokens_68 ⟨Nat.le_of_ble_eq_true rfl, Nat.le_of_ble_eq_true rfl⟩) (fun f66 H locs p67 hM hS => ?_)
  obtain ⟨g68, hfr69⟩ := p67
  refine lv_aload_n hx hb d_GrantServer_giveTokens_71 rfl (lv_at hl 2 rfl) ?_
  refine lv_aload hx hb d_GrantServer_giveTokens_72 (lv_at hl 0 rfl) ?_
  refine lv_aload_n hx hb d_GrantServer_giveTokens_74 rfl (lv_at hl 3 rfl) ?_
  have g70 : f66 qf = some (.inr (2, [.int fs, .int (nI (vl 1)), .int fv])) := hfr69 _ _ (hm_neI g60 g56 (by decide)) g60
  refine hm_get X hK hM g70 fl_GrantServer_256 (v := .int (nI (vl 1))) rfl d_GrantServer_giveTokens_75 ?_
  have g71 : f66 h = some (.inr (0, gsV (upd u 14 (nI (vl 3))) ad)) := hfr69 _ _ (hm_neI g55 g56 (by decide)) g55
  have g72 : f66 (ad 9) = some (.inr (5, [.ref (ad 19), .int n9])) := hfr69 _ _ (hm_neI g61 g56 (by decide)) g61
  have g73 : f66 (ad 19) = some (.inl (k 2, 120, .inl y)) := hfr69 _ _ ((hm_neA g56 g62).symm) g62
  have g74 : f66 (ad 5) = some (.inr (4, [.ref (ad 15), .int (nI ((us 1) + 1))])) := hfr69 _ _ (hm_neI g57 g56 (by decide)) g57
  have g75 : f66 (ad 15) = some (.inl (k 3, 24, .inr (.inr (.inr (.inr (g 1)))))) := hfr69 _ _ ((hm_neA g56 g58).symm) g58
  have g76 : f66 (ad 6) = some (.inr (4, [.ref (ad 16), .int (nI ((us 2) + 1))])) := hfr69 _ _ (hm_neI g52 g56 (by decide)) g52
  have g77 : f66 (ad 16) = some (.inl (k 3, 24, .inr (.inr (.inr (.inr (g 2)))))) := hfr69 _ _ ((hm_neA g56 g53).symm) g53
  have g78 : f66 qa = some (.inr (3, gV (upd (upd (upd (upd (upd (upd wa 0 x) 1 (nI (vl 0))) 2 fs) 3 ((u 15) + (u 2))) 6 0) 7 0) (some qf))) := hfr69 _ _ hqab g59
  have g79 : f66 (ad 8) = some (.inr (5, [.ref (ad 18), .int n8])) := hfr69 _ _ (hm_neI g63 g56 (by decide)) g63
  have g80 : f66 (ad 18) = some (.inl (k 2, 120, .inl y8)) := hfr69 _ _ ((hm_neA g56 g64).symm) g64
  have g81 : f66 (ad 11) = some (.inr (6, [.int ky])) := hfr69 _ _ (hm_neI g65 g56 (by decide)) g65
  refine hm_callv hS hM hA (va_runV (As := [.ref qb, .int (nI (vl 1))]) (rest := []) X (c_writeClaims l D k sA sV f66 h (upd u 14 (nI (vl 3))) ad qb (upd (upd (upd (upd (upd (upd wb 0 (nI (vl 3))) 1 (nI (vl 0))) 2 (nI (vl 4))) 3 (nI (vl 2))) 6 0) 7 0) (some qf) n9 y vl K g71 g68 g72 g73 (by simp [upd]) (by simp [upd]) (by simp [upd]) (by simp [upd]) hKd hvl hsz H.size) (hm_cwV hts me_GrantServer_writeClaims wl_GrantServer_259 rfl rfl ⟨Nat.le_of_ble_eq_true rfl, Nat.le_of_ble_eq_true rfl⟩) (hm_preVZ hZ hS hA hM hK g71 rfl) rfl rfl hl.1 rfl (lv_room (Nat.le_of_ble_eq_true rfl)) d_GrantServer_giveTokens_78 ⟨Nat.le_of_ble_eq_true rfl, Nat.le_of_ble_eq_true rfl⟩) (fun f82 H locs p83 hM hS => ?_)
  obtain ⟨x84, h85, g86, g87, hfr88⟩ := p83
  refine lv_aload_n hx hb d_GrantServer_giveTokens_81 rfl (lv_at hl 2 rfl) ?_
  have g89 : f82 h = some (.inr (0, gsV (upd u 14 (nI (vl 3))) ad)) := hfr88 _ _ (hm_neI g71 g72 (by decide)) (hm_neA g71 g73) g71
  refine hm_get X hK hM g89 fl_GrantServer_66 (v := .ref (ad 11)) rfl d_GrantServer_giveTokens_82 ?_
  refine lv_aload_n hx hb d_GrantServer_giveTokens_85 rfl (lv_at hl 2 rfl) ?_
  refine hm_get X hK hM g89 fl_GrantServer_40 (v := .ref (ad 9)) rfl d_GrantServer_giveTokens_86 ?_
  refine lv_aload_n hx hb d_GrantServer_giveTokens_89 rfl (lv_at hl 2 rfl) ?_
  refine hm_get X hK hM g89 fl_GrantServer_37 (v := .ref (ad 8)) rfl d_GrantServer_giveTokens_90 ?_
  have g90 : f82 (ad 11) = some (.inr (6, [.int ky])) := hfr88 _ _ (fun z => absurd (hap 11 9 (by decide) (by decide) rfl rfl z) (by decide)) (fun z => absurd (hap 11 19 (by decide) (by decide) rfl rfl z) (by decide)) g81
  have g91 : f82 (ad 8) = some (.inr (5, [.ref (ad 18), .int n8])) := hfr88 _ _ (fun z => absurd (hap 8 9 (by decide) (by decide) rfl rfl z) (by decide)) (fun z => absurd (hap 8 19 (by decide) (by decide) rfl rfl z) (by decide)) g79
  have g92 : f82 (ad 18) = some (.inl (k 2, 120, .inl y8)) := hfr88 _ _ (fun z => absurd (hap 18 9 (by decide) (by decide) rfl rfl z) (by decide)) (fun z => absurd (hap 18 19 (by decide) (by decide) rfl rfl z) (by decide)) g80
  have g93 : f82 (ad 5) = some (.inr (4, [.ref (ad 15), .int (nI ((us 1) + 1))])) := hfr88 _ _ (fun z => absurd (hap 5 9 (by decide) (by decide) rfl rfl z) (by decide)) (fun z => absurd (hap 5 19 (by decide) (by decide) rfl rfl z) (by decide)) g74
  have g94 : f82 (ad 15) = some (.inl (k 3, 24, .inr (.inr (.inr (.inr (g 1)))))) := hfr88 _ _ (fun z => absurd (hap 15 9 (by decide) (by decide) rfl rfl z) (by decide)) (fun z => absurd (hap 15 19 (by decide) (by decide) rfl rfl z) (by decide)) g75
  have g95 : f82 (ad 6) = some (.inr (4, [.ref (ad 16), .int (nI ((us 2) + 1))])) := hfr88 _ _ (fun z => absurd (hap 6 9 (by decide) (by decide) rfl rfl z) (by decide)) (fun z => absurd (hap 6 19 (by decide) (by decide) rfl rfl z) (by decide)) g76
  have g96 : f82 (ad 16) = some (.inl (k 3, 24, .inr (.inr (.inr (.inr (g 2)))))) := hfr88 _ _ (fun z => absurd (hap 16 9 (by decide) (by decide) rfl rfl z) (by decide)) (fun z => absurd (hap 16 19 (by decide) (by decide) rfl rfl z) (by decide)) g77
  have g97 : f82 qa = some (.inr (3, gV (upd (upd (upd (upd (upd (upd wa 0 x) 1 (nI (vl 0))) 2 fs) 3 ((u 15) + (u 2))) 6 0) 7 0) (some qf))) := hfr88 _ _ (hm_neI g78 g72 (by decide)) (hm_neA g78 g73) g78
  have g98 : f82 qb = some (.inr (3, gV (upd (upd (upd (upd (upd (upd wb 0 (nI (vl 3))) 1 (nI (vl 0))) 2 (nI (vl 4))) 3 (nI (vl 2))) 6 0) 7 0) (some qf))) := hfr88 _ _ (hm_neI g68 g72 (by decide)) (hm_neA g68 g73) g68
  have g99 : f82 qf = some (.inr (2, [.int fs, .int (nI (vl 1)), .int fv])) := hfr88 _ _ (hm_neI g70 g72 (by decide)) (hm_neA g70 g73) g70
  refine hm_callv hS hM hA (va_runV (As := [.ref (ad 9), .ref (ad 8)]) (rest := []) X (c_wrapInto l D k sA sV f82 (ad 11) ky (ad 9) (ad 19) (z_tot K) x84 (z_ct vl K) (ad 8) (ad 18) n8 y8 g90 g86 g87 g91 g92 (by omega) (fun j hj => ⟨h85 j hj, by have := z_ct_lt vl K hj; omega⟩) (by omega) (fun z => absurd (hap 9 8 (by decide) (by decide) rfl rfl z) (by decide)) (fun z => absurd (hap 19 18 (by decide) (by decide) rfl rfl z) (by decide)) H.size) (hm_cwV hts me_Wrapping_wrapInto wl_GrantServer_231 rfl rfl ⟨Nat.le_of_ble_eq_true rfl, Nat.le_of_ble_eq_true rfl⟩) (hm_preVZ hZ hS hA hM hK g90 rfl) rfl rfl hl.1 rfl (lv_room (Nat.le_of_ble_eq_true rfl)) d_GrantServer_giveTokens_93 ⟨Nat.le_of_ble_eq_true rfl, Nat.le_of_ble_eq_true rfl⟩) (fun f100 H locs p101 hM hS => ?_)
  obtain ⟨x102, h103, h104, h105, g106, g107, hfr108⟩ := p101
  refine lv_aload hx hb d_GrantServer_giveTokens_96 (lv_at hl 0 rfl) ?_
  have g109 : f100 qb = some (.inr (3, gV (upd (upd (upd (upd (upd (upd wb 0 (nI (vl 3))) 1 (nI (vl 0))) 2 (nI (vl 4))) 3 (nI (vl 2))) 6 0) 7 0) (some qf))) := hfr108 _ _ (hm_neI g98 g91 (by decide)) (hm_neA g98 g92) g98
  refine hm_get X hK hM g109 fl_GrantServer_263 (v := .int (nI (vl 3))) rfl d_GrantServer_giveTokens_98 ?_
  have g110 : f100 h = some (.inr (0, gsV (upd u 14 (nI (vl 3))) ad)) := hfr108 _ _ (hm_neI g89 g91 (by decide)) (hm_neA g89 g92) g89
  have g111 : f100 (ad 5) = some (.inr (4, [.ref (ad 15), .int (nI ((us 1) + 1))])) := hfr108 _ _ (fun z => absurd (hap 5 8 (by decide) (by decide) rfl rfl z) (by decide)) (fun z => absurd (hap 5 18 (by decide) (by decide) rfl rfl z) (by decide)) g93
  have g112 : f100 (ad 15) = some (.inl (k 3, 24, .inr (.inr (.inr (.inr (g 1)))))) := hfr108 _ _ (fun z => absurd (hap 15 8 (by decide) (by decide) rfl rfl z) (by decide)) (fun z => absurd (hap 15 18 (by decide) (by decide) rfl rfl z) (by decide)) g94
  have g113 : f100 qa = some (.inr (3, gV (upd (upd (upd (upd (upd (upd wa 0 x) 1 (nI (vl 0))) 2 fs) 3 ((u 15) + (u 2))) 6 0) 7 0) (some qf))) := hfr108 _ _ (hm_neI g97 g91 (by decide)) (hm_neA g97 g92) g97
  have g114 : f100 (ad 6) = some (.inr (4, [.ref (ad 16), .int (nI ((us 2) + 1))])) := hfr108 _ _ (fun z => absurd (hap 6 8 (by decide) (by decide) rfl rfl z) (by decide)) (fun z => absurd (hap 6 18 (by decide) (by decide) rfl rfl z) (by decide)) g95
  have g115 : f100 (ad 16) = some (.inl (k 3, 24, .inr (.inr (.inr (.inr (g 2)))))) := hfr108 _ _ (fun z => absurd (hap 16 8 (by decide) (by decide) rfl rfl z) (by decide)) (fun z => absurd (hap 16 18 (by decide) (by decide) rfl rfl z) (by decide)) g96
  have g116 : f100 (ad 9) = some (.inr (5, [.ref (ad 19), .int (nI (z_tot K))])) := hfr108 _ _ (fun z => absurd (hap 9 8 (by decide) (by decide) rfl rfl z) (by decide)) (fun z => absurd (hap 9 18 (by decide) (by decide) rfl rfl z) (by decide)) g86
  have g117 : f100 (ad 19) = some (.inl (k 2, 120, .inl x84)) := hfr108 _ _ (fun z => absurd (hap 19 8 (by decide) (by decide) rfl rfl z) (by decide)) (fun z => absurd (hap 19 18 (by decide) (by decide) rfl rfl z) (by decide)) g87
  exact hm_iret X hQ hr hlk hK hM hS d_GrantServer_giveTokens_101 ⟨x84, x102, rfl, h103, h104, h105, g110, g111, g112, g113, g114, g115, g109, g116, g117, g106, g107, (fun zq zx n0 n1 n2 n3 n4 n5 n6 n7 n8 n9 n10 hq => by have t0 := hq; have t1 := hfr6 _ _ n1 n2 t0; have t2 := hfr21 _ _ n3 t1; have t3 := hm_keep e24 n0 t2; have t4 := hfr54 _ _ n4 n5 t3; have t5 := hfr69 _ _ n6 t4; have t6 := hfr88 _ _ n7 n8 t5; have t7 := hfr108 _ _ n9 n10 t6; exact t7)⟩
set_option maxHeartbeats 4000000 in
set_option maxRecDepth 100000 in
theorem c_auth_no (l : Launch) (D : va_G) (k : Nat → ClassId) (f : hm) (h : Nat) (u : Nat → Int32) (ad : Nat → Nat) (cn : Nat → Option Nat) (n : Nat) (j : Nat) (a : Nat) (s1 : Int32) (s2 : Int32) (s3 : Int32) (us : Nat → Nat) (g : Nat → Nat → Option Nat) (w : Nat → Nat → Nat → Int32) (m1 : Nat → Nat → Option Nat) (red : Int32) (sc : Int32) (ch : Int32) (x : Int32) (hh : f h = some (.inr (0, gsV u ad))) (h3 : f (ad 3) = some (.inl (k 4, 4, .inr (.inr (.inr (.inr cn)))))) (hca : f a = some (.inr (1, [.int s1, .int s2, .int s3]))) (hs0 : f (ad 4) = some (.inr (4, [.ref (ad 14), .int (nI (us 0))]))) (hr0 : f (ad 14) = some (.inl (k 3, 16, .inr (.inr (.inr (.inr (g 0))))))) (hs1 : f (ad 5) = some (.inr (4, [.ref (ad 15), .int (nI (us 1))]))) (hr1 : f (ad 15) = some (.inl (k 3, 24, .inr (.inr (.inr (.inr (g 1))))))) (hn : u 12 = nI n) (hn4 : n ≤ 4) (hj : j < n) (hcj : cn j = some a) (hu0 : us 0 ≤ 16) (hrows0 : ∀ i, i < us 0 → ∃ q, g 0 i = some q ∧ f q = some (.inr (3, gV (w 0 i) (m1 0 i)))) (hu1 : us 1 ≤ 24) (hrows1 : ∀ i, i < us 1 → ∃ q, g 1 i = some q ∧ f q = some (.inr (3, gV (w 1 i) (m1 1 i)))) (hne : ¬ a_auth s2 s3 red sc ch (z_free ((z_fi (w 0) x (us 0) 0).bind (g 0)) ((z_fi (w 1) x (us 1) 0).bind (g 1)) x) (z_full (us 0) 16) = 0) : hm_Mi l D vwCl (tyL k) y_GrantServer_authorize (Cond.code y_GrantServer_authorize b_GrantServer_authorize 8 (some .int) :: TB) ({ frames := 2, cells := 0, slots := 0, locals := 43 }) [.ref h, .int (nI j), .int red, .int sc, .int ch, .int x] f (fun (r : Int32) (f1 : hm) => a_auth s2 s3 red sc ch (z_free ((z_fi (w 0) x (us 0) 0).bind (g 0)) ((z_fi (w 1) x (us 1) 0).bind (g 1)) x) (z_full (us 0) 16) = r ∧ f = f1) 0 0 := by
  refine hm_enter (Qc := fun sz => va_Qi _ (hm_R D vwCl (tyL k) f sz) (hm_A f sz)) (by decide) rfl (Nat.le_of_ble_eq_true rfl) ?_
  intro pg e s m below meth cd ls X0 hr hlk hin hK hM hS hA hl Q hQ
  have X : CallFix pg m cd b_GrantServer_authorize 8 s ([.ref h, .int (nI j), .int red, .int sc, .int ch, .int x] : List Value).toArray TB R_GrantServer := ⟨X0.1, X0.2.1, X0.2.2.1, X0.2.2.2.1, fun w h => X0.2.2.2.2 w (List.mem_cons_of_mem _ h)⟩
  have hx := X.1; have hb := X.2.1; have hml := X.2.2.1; have hown := X.2.2.2.1; have hts := X.2.2.2.2
  have hl : lv_has ls 8 [(0, .ref h), (1, .int (nI j)), (2, .int red), (3, .int sc), (4, .int ch), (5, .int x)] := hl
  refine lv_aload_n hx hb d_GrantServer_authorize_0 rfl (lv_at hl 0 rfl) ?_
  refine lv_iload_n hx hb d_GrantServer_authorize_1 rfl (lv_at hl 1 rfl) ?_
  refine hm_callq hS hM hA (va_runV (As := [.int (nI j)]) (rest := []) X (c_clientWith l D k f h u ad cn n j hh h3 hn hn4 hj s.heap.size) (hm_cwV hts me_GrantServer_clientWith wl_GrantServer_90 rfl rfl ⟨Nat.le_of_ble_eq_true rfl, Nat.le_of_ble_eq_true rfl⟩) (hm_preV hM hK hh rfl) rfl rfl hl.1 rfl (lv_room (Nat.le_of_ble_eq_true rfl)) d_GrantServer_authorize_2 ⟨Nat.le_of_ble_eq_true rfl, Nat.le_of_ble_eq_true rfl⟩) (fun r3 f1 H locs p2 hM hS => ?_)
  obtain ⟨rfl, rfl⟩ := p2
  refine hm_ref hcj ?_
  refine lv_astore (lv' := [(6, .ref a), (0, .ref h), (1, .int (nI j)), (2, .int red), (3, .int sc), (4, .int ch), (5, .int x)]) hx hb d_GrantServer_authorize_5 hl (by decide) rfl (fun ls hl => ?_)
  refine lv_aload hx hb d_GrantServer_authorize_7 (lv_at hl 0 rfl) ?_
  refine lv_ifnull hx hb d_GrantServer_authorize_9 ?_
  refine lv_iload hx hb d_GrantServer_authorize_12 (lv_at hl 5 rfl) ?_
  refine lv_if_lt (tgt := 24) hx hb d_GrantServer_authorize_14 (by decide) (fun h4 => ?_) (fun h4 => ?_)
  · refine lv_iconst (v := (-1)) hx hb d_GrantServer_authorize_24 (by decide) ?_
    exact hm_iret X hQ hr hlk hK hM hS d_GrantServer_authorize_25 ⟨(if_pos (Or.inl h4)), rfl⟩
  · refine lv_iload hx hb d_GrantServer_authorize_17 (lv_at hl 5 rfl) ?_
    refine lv_ldc (v := 1073741823) hx hb hown (hts _ wc_GrantServer_97) d_GrantServer_authorize_19 ?_
    refine lv_icmp_le (tgt := 26) hx hb d_GrantServer_authorize_21 (by decide) (fun h5 => ?_) (fun h5 => ?_)
    · refine lv_aload hx hb d_GrantServer_authorize_26 (lv_at hl 0 rfl) ?_
      refine hm_get X hK hM hca fl_GrantServer_98 (v := .int s2) rfl d_GrantServer_authorize_28 ?_
      refine lv_iload_n hx hb d_GrantServer_authorize_31 rfl (lv_at hl 3 rfl) ?_
      refine lv_icmp_eq (tgt := 38) hx hb d_GrantServer_authorize_32 (by decide) (fun h6 => ?_) (fun h6 => ?_)
      · refine lv_iload_n hx hb d_GrantServer_authorize_38 rfl (lv_at hl 4 rfl) ?_
        refine hm_calli hS hM hA (va_runS (As := [.int sc]) (rest := []) X (c_isSomeScopes l D k f sc   H.size) (hm_cwS hts me_GrantServer_isSomeScopes wl_GrantServer_83 rfl rfl ⟨Nat.le_of_ble_eq_true rfl, Nat.le_of_ble_eq_true rfl⟩) (hm_preS hM hK) rfl rfl hl.1 rfl (lv_room (Nat.le_of_ble_eq_true rfl)) d_GrantServer_authorize_39 ⟨Nat.le_of_ble_eq_true rfl, Nat.le_of_ble_eq_true rfl⟩) (fun r9 f7 H locs p8 hM hS => ?_)
        obtain ⟨rfl, rfl⟩ := p8
        refine lv_if_eq (tgt := 57) hx hb d_GrantServer_authorize_42 (by decide) (fun h10 => ?_) (fun h10 => ?_)
        · refine lv_bipush (v := (-4)) hx hb d_GrantServer_authorize_57 (by decide) ?_
          exact hm_iret X hQ hr hlk hK hM hS d_GrantServer_authorize_59 ⟨(Eq.trans (if_neg (fun z => z.elim h4 (Int32.not_lt.mpr h5))) (Eq.trans (if_neg (fun z => z h6)) (if_pos (z_some_l h10)))), rfl⟩
        · refine lv_iload_n hx hb d_GrantServer_authorize_45 rfl (lv_at hl 4 rfl) ?_
          refine lv_aload hx hb d_GrantServer_authorize_46 (lv_at hl 0 rfl) ?_
          refine hm_get X hK hM hca fl_GrantServer_101 (v := .int s3) rfl d_GrantServer_authorize_48 ?_
          refine hm_calli hS hM hA (va_runS (As := [.int sc, .int s3]) (rest := []) X (c_isWithin l D k f sc s3   H.size) (hm_cwS hts me_GrantServer_isWithin wl_GrantServer_104 rfl rfl ⟨Nat.le_of_ble_eq_true rfl, Nat.le_of_ble_eq_true rfl⟩) (hm_preS hM hK) rfl rfl hl.1 rfl (lv_room (Nat.le_of_ble_eq_true rfl)) d_GrantServer_authorize_51 ⟨Nat.le_of_ble_eq_true rfl, Nat.le_of_ble_eq_true rfl⟩) (fun r13 f11 H locs p12 hM hS => ?_)
          obtain ⟨rfl, rfl⟩ := p12
          refine lv_if_ne (tgt := 60) hx hb d_GrantServer_authorize_54 (by decide) (fun h14 => ?_) (fun h14 => ?_)
          · refine lv_aload_n hx hb d_GrantServer_authorize_60 rfl (lv_at hl 1 rfl) ?_
            refine lv_iload hx hb d_GrantServer_authorize_61 (lv_at hl 6 rfl) ?_
            refine hm_calli hS hM hA (va_runV (As := [.int x]) (rest := []) X (c_isFree l D k f h u ad us g w m1 x hh hs0 hr0 hs1 hr1 hu0 hrows0 hu1 hrows1 H.size) (hm_cwV hts me_GrantServer_isFree wl_GrantServer_108 rfl rfl ⟨Nat.le_of_ble_eq_true rfl, Nat.le_of_ble_eq_true rfl⟩) (hm_preV hM hK hh rfl) rfl rfl hl.1 rfl (lv_room (Nat.le_of_ble_eq_true rfl)) d_GrantServer_authorize_63 ⟨Nat.le_of_ble_eq_true rfl, Nat.le_of_ble_eq_true rfl⟩) (fun r17 f15 H locs p16 hM hS => ?_)
            obtain ⟨rfl, rfl⟩ := p16
            refine lv_if_ne (tgt := 72) hx hb d_GrantServer_authorize_66 (by decide) (fun h18 => ?_) (fun h18 => ?_)
            · refine lv_aload_n hx hb d_GrantServer_authorize_72 rfl (lv_at hl 1 rfl) ?_
              refine hm_get X hK hM hh fl_GrantServer_20 (v := .ref (ad 4)) rfl d_GrantServer_authorize_73 ?_
              refine hm_calli hS hM hA (va_runV (As := []) (rest := []) X (c_Shelf_isFull l D k f (ad 4) (ad 14) 16 (us 0) (g 0) hs0 hr0 hu0 (by decide) H.size) (hm_cwV hts me_Shelf_isFull wl_GrantServer_111 rfl rfl ⟨Nat.le_of_ble_eq_true rfl, Nat.le_of_ble_eq_true rfl⟩) (hm_preV hM hK hs0 rfl) rfl rfl hl.1 rfl (lv_room (Nat.le_of_ble_eq_true rfl)) d_GrantServer_authorize_76 ⟨Nat.le_of_ble_eq_true rfl, Nat.le_of_ble_eq_true rfl⟩) (fun r21 f19 H locs p20 hM hS => ?_)
              obtain ⟨rfl, rfl⟩ := p20
              refine lv_if_eq (tgt := 85) hx hb d_GrantServer_authorize_79 (by decide) (fun h22 => ?_) (fun h22 => ?_)
              · exact absurd (Eq.trans (if_neg (fun z => z.elim h4 (Int32.not_lt.mpr h5))) (Eq.trans (if_neg (fun z => z h6)) (Eq.trans (if_neg (fun z => z.elim (z_some_1 h10).1 (fun z => z.elim (z_some_1 h10).2 h14))) (Eq.trans (if_neg h18) (if_neg (fun z => absurd (h22.symm.trans z) (by decide))))))) hne
              · refine lv_bipush (v := (-6)) hx hb d_GrantServer_authorize_82 (by decide) ?_
                exact hm_iret X hQ hr hlk hK hM hS d_GrantServer_authorize_84 ⟨(Eq.trans (if_neg (fun z => z.elim h4 (Int32.not_lt.mpr h5))) (Eq.trans (if_neg (fun z => z h6)) (Eq.trans (if_neg (fun z => z.elim (z_some_1 h10).1 (fun z => z.elim (z_some_1 h10).2 h14))) (Eq.trans (if_neg h18) (if_pos (z_full_b h22)))))), rfl⟩
            · refine lv_bipush (v := (-5)) hx hb d_GrantServer_authorize_69 (by decide) ?_
              exact hm_iret X hQ hr hlk hK hM hS d_GrantServer_authorize_71 ⟨(Eq.trans (if_neg (fun z => z.elim h4 (Int32.not_lt.mpr h5))) (Eq.trans (if_neg (fun z => z h6)) (Eq.trans (if_neg (fun z => z.elim (z_some_1 h10).1 (fun z => z.elim (z_some_1 h10).2 h14))) (if_pos h18)))), rfl⟩
          · refine lv_bipush (v := (-4)) hx hb d_GrantServer_authorize_57 (by decide) ?_
            exact hm_iret X hQ hr hlk hK hM hS d_GrantServer_authorize_59 ⟨(Eq.trans (if_neg (fun z => z.elim h4 (Int32.not_lt.mpr h5))) (Eq.trans (if_neg (fun z => z h6)) (if_pos (Or.inr (Or.inr h14))))), rfl⟩
      · refine lv_bipush (v := (-13)) hx hb d_GrantServer_authorize_35 (by decide) ?_
        exact hm_iret X hQ hr hlk hK hM hS d_GrantServer_authorize_37 ⟨(Eq.trans (if_neg (fun z => z.elim h4 (Int32.not_lt.mpr h5))) (if_pos h6)), rfl⟩
    · refine lv_iconst (v := (-1)) hx hb d_GrantServer_authorize_24 (by decide) ?_
      exact hm_iret X hQ hr hlk hK hM hS d_GrantServer_authorize_25 ⟨(if_pos (Or.inr (Int32.not_le.mp h5))), rfl⟩
set_option maxHeartbeats 4000000 in
set_option maxRecDepth 100000 in
theorem c_auth (l : Launch) (D : va_G) (k : Nat → ClassId) (f : hm) (h : Nat) (u : Nat → Int32) (ad : Nat → Nat) (cn : Nat → Option Nat) (n : Nat) (j : Nat) (a : Nat) (s1 : Int32) (s2 : Int32) (s3 : Int32) (us : Nat → Nat) (g : Nat → Nat → Option Nat) (w : Nat → Nat → Nat → Int32) (m1 : Nat → Nat → Option Nat) (red : Int32) (sc : Int32) (ch : Int32) (x : Int32) (q : Nat) (wq : Nat → Int32) (mq : Option Nat) (hh : f h = some (.inr (0, gsV u ad))) (h3 : f (ad 3) = some (.inl (k 4, 4, .inr (.inr (.inr (.inr cn)))))) (hca : f a = some (.inr (1, [.int s1, .int s2, .int s3]))) (hs0 : f (ad 4) = some (.inr (4, [.ref (ad 14), .int (nI (us 0))]))) (hr0 : f (ad 14) = some (.inl (k 3, 16, .inr (.inr (.inr (.inr (g 0))))))) (hs1 : f (ad 5) = some (.inr (4, [.ref (ad 15), .int (nI (us 1))]))) (hr1 : f (ad 15) = some (.inl (k 3, 24, .inr (.inr (.inr (.inr (g 1))))))) (hq : f q = some (.inr (3, gV wq mq))) (hap : gs_ap ad) (hn : u 12 = nI n) (hn4 : n ≤ 4) (hj : j < n) (hcj : cn j = some a) (hu0 : us 0 ≤ 16) (hrows0 : ∀ i, i < us 0 → ∃ q, g 0 i = some q ∧ f q = some (.inr (3, gV (w 0 i) (m1 0 i)))) (hu1 : us 1 ≤ 24) (hrows1 : ∀ i, i < us 1 → ∃ q, g 1 i = some q ∧ f q = some (.inr (3, gV (w 1 i) (m1 1 i)))) (hok0 : a_auth s2 s3 red sc ch (z_free ((z_fi (w 0) x (us 0) 0).bind (g 0)) ((z_fi (w 1) x (us 1) 0).bind (g 1)) x) (z_full (us 0) 16) = 0) (hgq : g 0 (us 0) = some q) (huL : us 0 < 16) : hm_Mi l D vwCl (tyL k) y_GrantServer_authorize (Cond.code y_GrantServer_authorize b_GrantServer_authorize 8 (some .int) :: TB) ({ frames := 2, cells := 0, slots := 0, locals := 43 }) [.ref h, .int (nI j), .int red, .int sc, .int ch, .int x] f (fun (r : Int32) (f1 : hm) => 0 = r ∧ f1 (ad 4) = some (.inr (4, [.ref (ad 14), .int (nI (us 0 + 1))])) ∧ f1 (ad 14) = some (.inl (k 3, 16, .inr (.inr (.inr (.inr (g 0)))))) ∧ f1 q = some (.inr (3, gV (upd (upd (upd (upd (upd (upd (upd (upd wq 0 x) 1 (nI j)) 2 sc) 3 (u 15 + u 0)) 6 0) 7 0) 4 red) 5 ch) none)) ∧ ∀ (zq : Nat) (zx : va_E), zq ≠ (ad 4) → zq ≠ (ad 14) → zq ≠ q → f zq = some zx → f1 zq = some zx) 0 0 := by
  refine hm_enter (Qc := fun sz => va_Qi _ (hm_R D vwCl (tyL k) f sz) (hm_A f sz)) (by decide) rfl (Nat.le_of_ble_eq_true rfl) ?_
  intro pg e s m below meth cd ls X0 hr hlk hin hK hM hS hA hl Q hQ
  have X : CallFix pg m cd b_GrantServer_authorize 8 s ([.ref h, .int (nI j), .int red, .int sc, .int ch, .int x] : List Value).toArray TB R_GrantServer := ⟨X0.1, X0.2.1, X0.2.2.1, X0.2.2.2.1, fun w h => X0.2.2.2.2 w (List.mem_cons_of_mem _ h)⟩
  have hx := X.1; have hb := X.2.1; have hml := X.2.2.1; have hown := X.2.2.2.1; have hts := X.2.2.2.2
  have hl : lv_has ls 8 [(0, .ref h), (1, .int (nI j)), (2, .int red), (3, .int sc), (4, .int ch), (5, .int x)] := hl
  obtain ⟨k1, k2, k3, k4, k5, k6, k7, k8⟩ := a_auth_ok hok0
  refine lv_aload_n hx hb d_GrantServer_authorize_0 rfl (lv_at hl 0 rfl) ?_
  refine lv_iload_n hx hb d_GrantServer_authorize_1 rfl (lv_at hl 1 rfl) ?_
  refine hm_callq hS hM hA (va_runV (As := [.int (nI j)]) (rest := []) X (c_clientWith l D k f h u ad cn n j hh h3 hn hn4 hj s.heap.size) (hm_cwV hts me_GrantServer_clientWith wl_GrantServer_90 rfl rfl ⟨Nat.le_of_ble_eq_true rfl, Nat.le_of_ble_eq_true rfl⟩) (hm_preV hM hK hh rfl) rfl rfl hl.1 rfl (lv_room (Nat.le_of_ble_eq_true rfl)) d_GrantServer_authorize_2 ⟨Nat.le_of_ble_eq_true rfl, Nat.le_of_ble_eq_true rfl⟩) (fun r3 f1 H locs p2 hM hS => ?_)
  obtain ⟨rfl, rfl⟩ := p2
  refine hm_ref hcj ?_
  refine lv_astore (lv' := [(6, .ref a), (0, .ref h), (1, .int (nI j)), (2, .int red), (3, .int sc), (4, .int ch), (5, .int x)]) hx hb d_GrantServer_authorize_5 hl (by decide) rfl (fun ls hl => ?_)
  refine lv_aload hx hb d_GrantServer_authorize_7 (lv_at hl 0 rfl) ?_
  refine lv_ifnull hx hb d_GrantServer_authorize_9 ?_
  refine lv_iload hx hb d_GrantServer_authorize_12 (lv_at hl 5 rfl) ?_
  refine lv_if_lt (tgt := 24) hx hb d_GrantServer_authorize_14 (by decide) (fun h4 => ?_) (fun h4 => ?_)
  · exact absurd h4 k1
  · refine lv_iload hx hb d_GrantServer_authorize_17 (lv_at hl 5 rfl) ?_
    refine lv_ldc (v := 1073741823) hx hb hown (hts _ wc_GrantServer_97) d_GrantServer_authorize_19 ?_
    refine lv_icmp_le (tgt := 26) hx hb d_GrantServer_authorize_21 (by decide) (fun h5 => ?_) (fun h5 => ?_)
    · refine lv_aload hx hb d_GrantServer_authorize_26 (lv_at hl 0 rfl) ?_
      refine hm_get X hK hM hca fl_GrantServer_98 (v := .int s2) rfl d_GrantServer_authorize_28 ?_
      refine lv_iload_n hx hb d_GrantServer_authorize_31 rfl (lv_at hl 3 rfl) ?_
      refine lv_icmp_eq (tgt := 38) hx hb d_GrantServer_authorize_32 (by decide) (fun h6 => ?_) (fun h6 => ?_)
      · refine lv_iload_n hx hb d_GrantServer_authorize_38 rfl (lv_at hl 4 rfl) ?_
        refine hm_calli hS hM hA (va_runS (As := [.int sc]) (rest := []) X (c_isSomeScopes l D k f sc   H.size) (hm_cwS hts me_GrantServer_isSomeScopes wl_GrantServer_83 rfl rfl ⟨Nat.le_of_ble_eq_true rfl, Nat.le_of_ble_eq_true rfl⟩) (hm_preS hM hK) rfl rfl hl.1 rfl (lv_room (Nat.le_of_ble_eq_true rfl)) d_GrantServer_authorize_39 ⟨Nat.le_of_ble_eq_true rfl, Nat.le_of_ble_eq_true rfl⟩) (fun r9 f7 H locs p8 hM hS => ?_)
        obtain ⟨rfl, rfl⟩ := p8
        refine lv_if_eq (tgt := 57) hx hb d_GrantServer_authorize_42 (by decide) (fun h10 => ?_) (fun h10 => ?_)
        · exact absurd h10 (z_some_2 k4 k5)
        · refine lv_iload_n hx hb d_GrantServer_authorize_45 rfl (lv_at hl 4 rfl) ?_
          refine lv_aload hx hb d_GrantServer_authorize_46 (lv_at hl 0 rfl) ?_
          refine hm_get X hK hM hca fl_GrantServer_101 (v := .int s3) rfl d_GrantServer_authorize_48 ?_
          refine hm_calli hS hM hA (va_runS (As := [.int sc, .int s3]) (rest := []) X (c_isWithin l D k f sc s3   H.size) (hm_cwS hts me_GrantServer_isWithin wl_GrantServer_104 rfl rfl ⟨Nat.le_of_ble_eq_true rfl, Nat.le_of_ble_eq_true rfl⟩) (hm_preS hM hK) rfl rfl hl.1 rfl (lv_room (Nat.le_of_ble_eq_true rfl)) d_GrantServer_authorize_51 ⟨Nat.le_of_ble_eq_true rfl, Nat.le_of_ble_eq_true rfl⟩) (fun r13 f11 H locs p12 hM hS => ?_)
          obtain ⟨rfl, rfl⟩ := p12
          refine lv_if_ne (tgt := 60) hx hb d_GrantServer_authorize_54 (by decide) (fun h14 => ?_) (fun h14 => ?_)
          · refine lv_aload_n hx hb d_GrantServer_authorize_60 rfl (lv_at hl 1 rfl) ?_
            refine lv_iload hx hb d_GrantServer_authorize_61 (lv_at hl 6 rfl) ?_
            refine hm_calli hS hM hA (va_runV (As := [.int x]) (rest := []) X (c_isFree l D k f h u ad us g w m1 x hh hs0 hr0 hs1 hr1 hu0 hrows0 hu1 hrows1 H.size) (hm_cwV hts me_GrantServer_isFree wl_GrantServer_108 rfl rfl ⟨Nat.le_of_ble_eq_true rfl, Nat.le_of_ble_eq_true rfl⟩) (hm_preV hM hK hh rfl) rfl rfl hl.1 rfl (lv_room (Nat.le_of_ble_eq_true rfl)) d_GrantServer_authorize_63 ⟨Nat.le_of_ble_eq_true rfl, Nat.le_of_ble_eq_true rfl⟩) (fun r17 f15 H locs p16 hM hS => ?_)
            obtain ⟨rfl, rfl⟩ := p16
            refine lv_if_ne (tgt := 72) hx hb d_GrantServer_authorize_66 (by decide) (fun h18 => ?_) (fun h18 => ?_)
            · refine lv_aload_n hx hb d_GrantServer_authorize_72 rfl (lv_at hl 1 rfl) ?_
              refine hm_get X hK hM hh fl_GrantServer_20 (v := .ref (ad 4)) rfl d_GrantServer_authorize_73 ?_
              refine hm_calli hS hM hA (va_runV (As := []) (rest := []) X (c_Shelf_isFull l D k f (ad 4) (ad 14) 16 (us 0) (g 0) hs0 hr0 hu0 (by decide) H.size) (hm_cwV hts me_Shelf_isFull wl_GrantServer_111 rfl rfl ⟨Nat.le_of_ble_eq_true rfl, Nat.le_of_ble_eq_true rfl⟩) (hm_preV hM hK hs0 rfl) rfl rfl hl.1 rfl (lv_room (Nat.le_of_ble_eq_true rfl)) d_GrantServer_authorize_76 ⟨Nat.le_of_ble_eq_true rfl, Nat.le_of_ble_eq_true rfl⟩) (fun r21 f19 H locs p20 hM hS => ?_)
              obtain ⟨rfl, rfl⟩ := p20
              refine lv_if_eq (tgt := 85) hx hb d_GrantServer_authorize_79 (by decide) (fun h22 => ?_) (fun h22 => ?_)
              · refine lv_aload_n hx hb d_GrantServer_authorize_85 rfl (lv_at hl 1 rfl) ?_
                refine hm_get X hK hM hh fl_GrantServer_20 (v := .ref (ad 4)) rfl d_GrantServer_authorize_86 ?_
                refine hm_callq hS hM hA (va_runV (As := []) (rest := []) X (c_nextRow l D k f (ad 4) (ad 14) 16 (us 0) (g 0) hs0 hr0 huL (by decide) H.size) (hm_cwV hts me_Shelf_nextRow wl_GrantServer_115 rfl rfl ⟨Nat.le_of_ble_eq_true rfl, Nat.le_of_ble_eq_true rfl⟩) (hm_preV hM hK hs0 rfl) rfl rfl hl.1 rfl (lv_room (Nat.le_of_ble_eq_true rfl)) d_GrantServer_authorize_89 ⟨Nat.le_of_ble_eq_true rfl, Nat.le_of_ble_eq_true rfl⟩) (fun r25 f23 H locs p24 hM hS => ?_)
                obtain ⟨rfl, g26, g27, hfr28⟩ := p24
                refine hm_ref hgq ?_
                refine lv_astore (lv' := [(7, .ref q), (6, .ref a), (0, .ref h), (1, .int (nI j)), (2, .int red), (3, .int sc), (4, .int ch), (5, .int x)]) hx hb d_GrantServer_authorize_92 hl (by decide) rfl (fun ls hl => ?_)
                refine lv_aload hx hb d_GrantServer_authorize_94 (lv_at hl 0 rfl) ?_
                refine lv_iload hx hb d_GrantServer_authorize_96 (lv_at hl 7 rfl) ?_
                refine lv_iload_n hx hb d_GrantServer_authorize_98 rfl (lv_at hl 3 rfl) ?_
                refine lv_iload_n hx hb d_GrantServer_authorize_99 rfl (lv_at hl 5 rfl) ?_
                refine lv_aload_n hx hb d_GrantServer_authorize_100 rfl (lv_at hl 2 rfl) ?_
                have g29 : f23 h = some (.inr (0, gsV u ad)) := hfr28 _ _ (hm_neI hh hs0 (by decide)) (hm_neA hh hr0) hh
                refine hm_get X hK hM g29 fl_GrantServer_60 (v := .int (u 15)) rfl d_GrantServer_authorize_101 ?_
                refine lv_aload_n hx hb d_GrantServer_authorize_104 rfl (lv_at hl 2 rfl) ?_
                refine hm_get X hK hM g29 fl_GrantServer_74 (v := .int (u 0)) rfl d_GrantServer_authorize_105 ?_
                refine lv_iadd hx hb d_GrantServer_authorize_108 ?_
                refine lv_null hx hb d_GrantServer_authorize_109 ?_
                have g30 : f23 q = some (.inr (3, gV wq mq)) := hfr28 _ _ (hm_neI hq hs0 (by decide)) (hm_neA hq hr0) hq
                have g31 : f23 (ad 3) = some (.inl (k 4, 4, .inr (.inr (.inr (.inr cn))))) := hfr28 _ _ (fun z => absurd (hap 3 4 (by decide) (by decide) rfl rfl z) (by decide)) (fun z => absurd (hap 3 14 (by decide) (by decide) rfl rfl z) (by decide)) h3
                have g32 : f23 a = some (.inr (1, [.int s1, .int s2, .int s3])) := hfr28 _ _ (hm_neI hca hs0 (by decide)) (hm_neA hca hr0) hca
                have g33 : f23 (ad 5) = some (.inr (4, [.ref (ad 15), .int (nI (us 1))])) := hfr28 _ _ (fun z => absurd (hap 5 4 (by decide) (by decide) rfl rfl z) (by decide)) (fun z => absurd (hap 5 14 (by decide) (by decide) rfl rfl z) (by decide)) hs1
                have g34 : f23 (ad 15) = some (.inl (k 3, 24, .inr (.inr (.inr (.inr (g 1)))))) := hfr28 _ _ (fun z => absurd (hap 15 4 (by decide) (by decide) rfl rfl z) (by decide)) (fun z => absurd (hap 15 14 (by decide) (by decide) rfl rfl z) (by decide)) hr1
                refine hm_callv hS hM hA (va_runV (As := [.int x, .int (nI j), .int sc, .int ((u 15) + (u 0)), .null]) (rest := []) X (c_Grant_begin l D k f23 q wq mq x (nI j) sc ((u 15) + (u 0)) none g30  H.size) (hm_cwV hts me_Grant_begin wl_GrantServer_119 rfl rfl ⟨Nat.le_of_ble_eq_true rfl, Nat.le_of_ble_eq_true rfl⟩) (hm_preV hM hK g30 rfl) rfl rfl hl.1 rfl (lv_room (Nat.le_of_ble_eq_true rfl)) d_GrantServer_authorize_110 ⟨Nat.le_of_ble_eq_true rfl, Nat.le_of_ble_eq_true rfl⟩) (fun f35 H locs p36 hM hS => ?_)
                obtain ⟨g37, hfr38⟩ := p36
                refine lv_aload hx hb d_GrantServer_authorize_113 (lv_at hl 0 rfl) ?_
                refine lv_iload_n hx hb d_GrantServer_authorize_115 rfl (lv_at hl 4 rfl) ?_
                refine hm_put X hK hM hS (fs' := gV (upd (upd (upd (upd (upd (upd (upd wq 0 x) 1 (nI j)) 2 sc) 3 ((u 15) + (u 0))) 6 0) 7 0) 4 red) none) g37 fl_GrantServer_125 rfl rfl (Nat.le_of_ble_eq_true rfl) rfl d_GrantServer_authorize_116 (fun f39 H locs e40 hM hS => ?_)
                refine lv_aload hx hb d_GrantServer_authorize_119 (lv_at hl 0 rfl) ?_
                refine lv_iload hx hb d_GrantServer_authorize_121 (lv_at hl 6 rfl) ?_
                have g41 : f39 q = some (.inr (3, gV (upd (upd (upd (upd (upd (upd (upd wq 0 x) 1 (nI j)) 2 sc) 3 ((u 15) + (u 0))) 6 0) 7 0) 4 red) none)) := by rw [e40, hm_up_s]
                refine hm_put X hK hM hS (fs' := gV (upd (upd (upd (upd (upd (upd (upd (upd wq 0 x) 1 (nI j)) 2 sc) 3 ((u 15) + (u 0))) 6 0) 7 0) 4 red) 5 ch) none) g41 fl_GrantServer_126 rfl rfl (Nat.le_of_ble_eq_true rfl) rfl d_GrantServer_authorize_123 (fun f42 H locs e43 hM hS => ?_)
                refine lv_iconst (v := 0) hx hb d_GrantServer_authorize_126 (by decide) ?_
                have g44 : f35 (ad 4) = some (.inr (4, [.ref (ad 14), .int (nI ((us 0) + 1))])) := hfr38 _ _ (hm_neI g26 g30 (by decide)) g26
                have g45 : f39 (ad 4) = some (.inr (4, [.ref (ad 14), .int (nI ((us 0) + 1))])) := by rw [e40, hm_up_n (hm_neI g44 g37 (by decide))]; exact g44
                have g46 : f42 (ad 4) = some (.inr (4, [.ref (ad 14), .int (nI ((us 0) + 1))])) := by rw [e43, hm_up_n (hm_neI g45 g41 (by decide))]; exact g45
                have g47 : f35 (ad 14) = some (.inl (k 3, 16, .inr (.inr (.inr (.inr (g 0)))))) := hfr38 _ _ ((hm_neA g30 g27).symm) g27
                have g48 : f39 (ad 14) = some (.inl (k 3, 16, .inr (.inr (.inr (.inr (g 0)))))) := by rw [e40, hm_up_n ((hm_neA g37 g47).symm)]; exact g47
                have g49 : f42 (ad 14) = some (.inl (k 3, 16, .inr (.inr (.inr (.inr (g 0)))))) := by rw [e43, hm_up_n ((hm_neA g41 g48).symm)]; exact g48
                have g50 : f42 q = some (.inr (3, gV (upd (upd (upd (upd (upd (upd (upd (upd wq 0 x) 1 (nI j)) 2 sc) 3 ((u 15) + (u 0))) 6 0) 7 0) 4 red) 5 ch) none)) := by rw [e43, hm_up_s]
                exact hm_iret X hQ hr hlk hK hM hS d_GrantServer_authorize_127 ⟨rfl, g46, g49, g50, (fun zq zx n0 n1 n2 hq => by have t0 := hq; have t1 := hfr28 _ _ n0 n1 t0; have t2 := hfr38 _ _ n2 t1; have t3 := hm_keep e40 n2 t2; have t4 := hm_keep e43 n2 t3; exact t4)⟩
              · exact absurd (z_full_b h22) k8
            · exact absurd h18 k7
          · exact absurd h14 k6
      · exact absurd k3 h6
    · exact absurd (Int32.not_le.mp h5) k2
set_option maxHeartbeats 4000000 in
set_option maxRecDepth 100000 in
theorem c_ex_aud (l : Launch) (D : va_G) (k : Nat → ClassId) (f : hm) (h : Nat) (u : Nat → Int32) (ad : Nat → Nat) (co : Int32) (red : Int32) (au : Int32) (x : Int32) (hh : f h = some (.inr (0, gsV u ad))) (hlog : ¬ u 13 = -1) (ha : au < 0 ∨ 3 < au) : hm_Mi l D vwCl (tyL k) y_GrantServer_exchange (Cond.code y_GrantServer_exchange b_GrantServer_exchange 8 (some .int) :: TB) ({ frames := 0, cells := 0, slots := 0, locals := 0 }) [.ref h, .int co, .int red, .int au, .int x] f (fun (r : Int32) (f1 : hm) => (-1) = r ∧ f = f1) 0 0 := by
  refine hm_enter (Qc := fun sz => va_Qi _ (hm_R D vwCl (tyL k) f sz) (hm_A f sz)) (by decide) rfl (Nat.le_of_ble_eq_true rfl) ?_
  intro pg e s m below meth cd ls X0 hr hlk hin hK hM hS hA hl Q hQ
  have X : CallFix pg m cd b_GrantServer_exchange 8 s ([.ref h, .int co, .int red, .int au, .int x] : List Value).toArray TB R_GrantServer := ⟨X0.1, X0.2.1, X0.2.2.1, X0.2.2.2.1, fun w h => X0.2.2.2.2 w (List.mem_cons_of_mem _ h)⟩
  have hx := X.1; have hb := X.2.1; have hml := X.2.2.1; have hown := X.2.2.2.1; have hts := X.2.2.2.2
  have hl : lv_has ls 8 [(0, .ref h), (1, .int co), (2, .int red), (3, .int au), (4, .int x)] := hl
  refine lv_aload_n hx hb d_GrantServer_exchange_0 rfl (lv_at hl 0 rfl) ?_
  refine hm_get X hK hM hh fl_GrantServer_54 (v := .int (u 13)) rfl d_GrantServer_exchange_1 ?_
  refine lv_iconst (v := (-1)) hx hb d_GrantServer_exchange_4 (by decide) ?_
  refine lv_icmp_ne (tgt := 11) hx hb d_GrantServer_exchange_5 (by decide) (fun h1 => ?_) (fun h1 => ?_)
  · refine lv_iload_n hx hb d_GrantServer_exchange_11 rfl (lv_at hl 3 rfl) ?_
    refine lv_if_lt (tgt := 20) hx hb d_GrantServer_exchange_12 (by decide) (fun h2 => ?_) (fun h2 => ?_)
    · refine lv_iconst (v := (-1)) hx hb d_GrantServer_exchange_20 (by decide) ?_
      exact hm_iret X hQ hr hlk hK hM hS d_GrantServer_exchange_21 ⟨rfl, rfl⟩
    · refine lv_iload_n hx hb d_GrantServer_exchange_15 rfl (lv_at hl 3 rfl) ?_
      refine lv_iconst (v := 3) hx hb d_GrantServer_exchange_16 (by decide) ?_
      refine lv_icmp_le (tgt := 22) hx hb d_GrantServer_exchange_17 (by decide) (fun h3 => ?_) (fun h3 => ?_)
      · exact absurd (ha.resolve_left h2) (Int32.not_lt.mpr h3)
      · refine lv_iconst (v := (-1)) hx hb d_GrantServer_exchange_20 (by decide) ?_
        exact hm_iret X hQ hr hlk hK hM hS d_GrantServer_exchange_21 ⟨rfl, rfl⟩
  · exact absurd h1 hlog
set_option maxHeartbeats 4000000 in
set_option maxRecDepth 100000 in
theorem c_ex_nf (l : Launch) (D : va_G) (k : Nat → ClassId) (f : hm) (h : Nat) (u : Nat → Int32) (ad : Nat → Nat) (us : Nat → Nat) (g : Nat → Nat → Option Nat) (w : Nat → Nat → Nat → Int32) (m1 : Nat → Nat → Option Nat) (co : Int32) (red : Int32) (au : Int32) (x : Int32) (hh : f h = some (.inr (0, gsV u ad))) (hs0 : f (ad 4) = some (.inr (4, [.ref (ad 14), .int (nI (us 0))]))) (hr0 : f (ad 14) = some (.inl (k 3, 16, .inr (.inr (.inr (.inr (g 0))))))) (hlog : ¬ u 13 = -1) (hau1 : ¬ au < 0) (hau2 : ¬ 3 < au) (hu0 : us 0 ≤ 16) (hrows0 : ∀ i, i < us 0 → ∃ q, g 0 i = some q ∧ f q = some (.inr (3, gV (w 0 i) (m1 0 i)))) (hfi : z_fi (w 0) co (us 0) 0 = none) : hm_Mi l D vwCl (tyL k) y_GrantServer_exchange (Cond.code y_GrantServer_exchange b_GrantServer_exchange 8 (some .int) :: TB) ({ frames := 2, cells := 0, slots := 0, locals := 45 }) [.ref h, .int co, .int red, .int au, .int x] f (fun (r : Int32) (f1 : hm) => (-3) = r ∧ f = f1) 0 0 := by
  refine hm_enter (Qc := fun sz => va_Qi _ (hm_R D vwCl (tyL k) f sz) (hm_A f sz)) (by decide) rfl (Nat.le_of_ble_eq_true rfl) ?_
  intro pg e s m below meth cd ls X0 hr hlk hin hK hM hS hA hl Q hQ
  have X : CallFix pg m cd b_GrantServer_exchange 8 s ([.ref h, .int co, .int red, .int au, .int x] : List Value).toArray TB R_GrantServer := ⟨X0.1, X0.2.1, X0.2.2.1, X0.2.2.2.1, fun w h => X0.2.2.2.2 w (List.mem_cons_of_mem _ h)⟩
  have hx := X.1; have hb := X.2.1; have hml := X.2.2.1; have hown := X.2.2.2.1; have hts := X.2.2.2.2
  have hl : lv_has ls 8 [(0, .ref h), (1, .int co), (2, .int red), (3, .int au), (4, .int x)] := hl
  refine lv_aload_n hx hb d_GrantServer_exchange_0 rfl (lv_at hl 0 rfl) ?_
  refine hm_get X hK hM hh fl_GrantServer_54 (v := .int (u 13)) rfl d_GrantServer_exchange_1 ?_
  refine lv_iconst (v := (-1)) hx hb d_GrantServer_exchange_4 (by decide) ?_
  refine lv_icmp_ne (tgt := 11) hx hb d_GrantServer_exchange_5 (by decide) (fun h1 => ?_) (fun h1 => ?_)
  · refine lv_iload_n hx hb d_GrantServer_exchange_11 rfl (lv_at hl 3 rfl) ?_
    refine lv_if_lt (tgt := 20) hx hb d_GrantServer_exchange_12 (by decide) (fun h2 => ?_) (fun h2 => ?_)
    · exact absurd h2 hau1
    · refine lv_iload_n hx hb d_GrantServer_exchange_15 rfl (lv_at hl 3 rfl) ?_
      refine lv_iconst (v := 3) hx hb d_GrantServer_exchange_16 (by decide) ?_
      refine lv_icmp_le (tgt := 22) hx hb d_GrantServer_exchange_17 (by decide) (fun h3 => ?_) (fun h3 => ?_)
      · refine lv_aload_n hx hb d_GrantServer_exchange_22 rfl (lv_at hl 0 rfl) ?_
        refine hm_get X hK hM hh fl_GrantServer_20 (v := .ref (ad 4)) rfl d_GrantServer_exchange_23 ?_
        refine lv_iload_n hx hb d_GrantServer_exchange_26 rfl (lv_at hl 1 rfl) ?_
        refine lv_aload_n hx hb d_GrantServer_exchange_27 rfl (lv_at hl 0 rfl) ?_
        refine hm_get X hK hM hh fl_GrantServer_54 (v := .int (u 13)) rfl d_GrantServer_exchange_28 ?_
        refine hm_callq hS hM hA (va_runV (As := [.int co, .int (u 13)]) (rest := []) X (c_findOwned_no l D k f (ad 4) (ad 14) 16 (us 0) (g 0) (w 0) (m1 0) co (u 13) hs0 hr0 hu0 (by decide) hrows0 hfi s.heap.size) (hm_cwV hts me_Shelf_findOwned wl_GrantServer_129 rfl rfl ⟨Nat.le_of_ble_eq_true rfl, Nat.le_of_ble_eq_true rfl⟩) (hm_preV hM hK hs0 rfl) rfl rfl hl.1 rfl (lv_room (Nat.le_of_ble_eq_true rfl)) d_GrantServer_exchange_31 ⟨Nat.le_of_ble_eq_true rfl, Nat.le_of_ble_eq_true rfl⟩) (fun r6 f4 H locs p5 hM hS => ?_)
        obtain ⟨rfl, rfl⟩ := p5
        refine lv_astoreN (lv' := [(5, .null), (0, .ref h), (1, .int co), (2, .int red), (3, .int au), (4, .int x)]) hx hb d_GrantServer_exchange_34 hl (by decide) rfl (fun ls hl => ?_)
        refine lv_aloadN hx hb d_GrantServer_exchange_36 (lv_at hl 0 rfl) ?_
        refine lv_ifnonnullN hx hb d_GrantServer_exchange_38 ?_
        refine lv_bipush (v := (-3)) hx hb d_GrantServer_exchange_41 (by decide) ?_
        exact hm_iret X hQ hr hlk hK hM hS d_GrantServer_exchange_43 ⟨rfl, rfl⟩
      · exact absurd (Int32.not_lt.mp hau2) h3
  · exact absurd h1 hlog
set_option maxHeartbeats 4000000 in
set_option maxRecDepth 100000 in
theorem c_ex_own (l : Launch) (D : va_G) (k : Nat → ClassId) (f : hm) (h : Nat) (u : Nat → Int32) (ad : Nat → Nat) (us : Nat → Nat) (g : Nat → Nat → Option Nat) (w : Nat → Nat → Nat → Int32) (m1 : Nat → Nat → Option Nat) (co : Int32) (red : Int32) (au : Int32) (x : Int32) (i : Nat) (q : Nat) (hh : f h = some (.inr (0, gsV u ad))) (hs0 : f (ad 4) = some (.inr (4, [.ref (ad 14), .int (nI (us 0))]))) (hr0 : f (ad 14) = some (.inl (k 3, 16, .inr (.inr (.inr (.inr (g 0))))))) (hq : f q = some (.inr (3, gV (w 0 i) (m1 0 i)))) (hlog : ¬ u 13 = -1) (hau1 : ¬ au < 0) (hau2 : ¬ 3 < au) (hu0 : us 0 ≤ 16) (hrows0 : ∀ i, i < us 0 → ∃ q, g 0 i = some q ∧ f q = some (.inr (3, gV (w 0 i) (m1 0 i)))) (hfi : z_fi (w 0) co (us 0) 0 = some i) (hgq : g 0 i = some q) (ho : ¬ w 0 i 1 = u 13) : hm_Mi l D vwCl (tyL k) y_GrantServer_exchange (Cond.code y_GrantServer_exchange b_GrantServer_exchange 8 (some .int) :: TB) ({ frames := 2, cells := 0, slots := 0, locals := 45 }) [.ref h, .int co, .int red, .int au, .int x] f (fun (r : Int32) (f1 : hm) => (-3) = r ∧ f = f1) 0 0 := by
  refine hm_enter (Qc := fun sz => va_Qi _ (hm_R D vwCl (tyL k) f sz) (hm_A f sz)) (by decide) rfl (Nat.le_of_ble_eq_true rfl) ?_
  intro pg e s m below meth cd ls X0 hr hlk hin hK hM hS hA hl Q hQ
  have X : CallFix pg m cd b_GrantServer_exchange 8 s ([.ref h, .int co, .int red, .int au, .int x] : List Value).toArray TB R_GrantServer := ⟨X0.1, X0.2.1, X0.2.2.1, X0.2.2.2.1, fun w h => X0.2.2.2.2 w (List.mem_cons_of_mem _ h)⟩
  have hx := X.1; have hb := X.2.1; have hml := X.2.2.1; have hown := X.2.2.2.1; have hts := X.2.2.2.2
  have hl : lv_has ls 8 [(0, .ref h), (1, .int co), (2, .int red), (3, .int au), (4, .int x)] := hl
  refine lv_aload_n hx hb d_GrantServer_exchange_0 rfl (lv_at hl 0 rfl) ?_
  refine hm_get X hK hM hh fl_GrantServer_54 (v := .int (u 13)) rfl d_GrantServer_exchange_1 ?_
  refine lv_iconst (v := (-1)) hx hb d_GrantServer_exchange_4 (by decide) ?_
  refine lv_icmp_ne (tgt := 11) hx hb d_GrantServer_exchange_5 (by decide) (fun h1 => ?_) (fun h1 => ?_)
  · refine lv_iload_n hx hb d_GrantServer_exchange_11 rfl (lv_at hl 3 rfl) ?_
    refine lv_if_lt (tgt := 20) hx hb d_GrantServer_exchange_12 (by decide) (fun h2 => ?_) (fun h2 => ?_)
    · exact absurd h2 hau1
    · refine lv_iload_n hx hb d_GrantServer_exchange_15 rfl (lv_at hl 3 rfl) ?_
      refine lv_iconst (v := 3) hx hb d_GrantServer_exchange_16 (by decide) ?_
      refine lv_icmp_le (tgt := 22) hx hb d_GrantServer_exchange_17 (by decide) (fun h3 => ?_) (fun h3 => ?_)
      · refine lv_aload_n hx hb d_GrantServer_exchange_22 rfl (lv_at hl 0 rfl) ?_
        refine hm_get X hK hM hh fl_GrantServer_20 (v := .ref (ad 4)) rfl d_GrantServer_exchange_23 ?_
        refine lv_iload_n hx hb d_GrantServer_exchange_26 rfl (lv_at hl 1 rfl) ?_
        refine lv_aload_n hx hb d_GrantServer_exchange_27 rfl (lv_at hl 0 rfl) ?_
        refine hm_get X hK hM hh fl_GrantServer_54 (v := .int (u 13)) rfl d_GrantServer_exchange_28 ?_
        refine hm_callq hS hM hA (va_runV (As := [.int co, .int (u 13)]) (rest := []) X (c_findOwned_bad l D k f (ad 4) (ad 14) 16 (us 0) (g 0) (w 0) (m1 0) i q co (u 13) hs0 hr0 hq hu0 (by decide) hrows0 hfi hgq ho s.heap.size) (hm_cwV hts me_Shelf_findOwned wl_GrantServer_129 rfl rfl ⟨Nat.le_of_ble_eq_true rfl, Nat.le_of_ble_eq_true rfl⟩) (hm_preV hM hK hs0 rfl) rfl rfl hl.1 rfl (lv_room (Nat.le_of_ble_eq_true rfl)) d_GrantServer_exchange_31 ⟨Nat.le_of_ble_eq_true rfl, Nat.le_of_ble_eq_true rfl⟩) (fun r6 f4 H locs p5 hM hS => ?_)
        obtain ⟨rfl, rfl⟩ := p5
        refine lv_astoreN (lv' := [(5, .null), (0, .ref h), (1, .int co), (2, .int red), (3, .int au), (4, .int x)]) hx hb d_GrantServer_exchange_34 hl (by decide) rfl (fun ls hl => ?_)
        refine lv_aloadN hx hb d_GrantServer_exchange_36 (lv_at hl 0 rfl) ?_
        refine lv_ifnonnullN hx hb d_GrantServer_exchange_38 ?_
        refine lv_bipush (v := (-3)) hx hb d_GrantServer_exchange_41 (by decide) ?_
        exact hm_iret X hQ hr hlk hK hM hS d_GrantServer_exchange_43 ⟨rfl, rfl⟩
      · exact absurd (Int32.not_lt.mp hau2) h3
  · exact absurd h1 hlog
set_option maxHeartbeats 4000000 in
set_option maxRecDepth 100000 in
theorem c_ex_rep (l : Launch) (D : va_G) (k : Nat → ClassId) (f : hm) (h : Nat) (u : Nat → Int32) (ad : Nat → Nat) (us : Nat → Nat) (g : Nat → Nat → Option Nat) (w : Nat → Nat → Nat → Int32) (m1 : Nat → Nat → Option Nat) (co : Int32) (red : Int32) (au : Int32) (x : Int32) (i : Nat) (q : Nat) (qf : Nat) (fs : Int32) (fa : Int32) (fv : Int32) (hh : f h = some (.inr (0, gsV u ad))) (hs0 : f (ad 4) = some (.inr (4, [.ref (ad 14), .int (nI (us 0))]))) (hr0 : f (ad 14) = some (.inl (k 3, 16, .inr (.inr (.inr (.inr (g 0))))))) (hq : f q = some (.inr (3, gV (w 0 i) (m1 0 i)))) (hqf : f qf = some (.inr (2, [.int fs, .int fa, .int fv]))) (hlog : ¬ u 13 = -1) (hau1 : ¬ au < 0) (hau2 : ¬ 3 < au) (hu0 : us 0 ≤ 16) (hrows0 : ∀ i, i < us 0 → ∃ q, g 0 i = some q ∧ f q = some (.inr (3, gV (w 0 i) (m1 0 i)))) (hfi : z_fi (w 0) co (us 0) 0 = some i) (hgq : g 0 i = some q) (ho : w 0 i 1 = u 13) (hw6 : ¬ w 0 i 6 = 0) (hmm9 : m1 0 i = some qf) : hm_Mi l D vwCl (tyL k) y_GrantServer_exchange (Cond.code y_GrantServer_exchange b_GrantServer_exchange 8 (some .int) :: TB) ({ frames := 2, cells := 0, slots := 0, locals := 45 }) [.ref h, .int co, .int red, .int au, .int x] f (fun (r : Int32) (f1 : hm) => (-3) = r ∧ f1 qf = some (.inr (2, [.int fs, .int fa, .int 1])) ∧ ∀ (zq : Nat) (zx : va_E), zq ≠ qf → f zq = some zx → f1 zq = some zx) 0 0 := by
  refine hm_enter (Qc := fun sz => va_Qi _ (hm_R D vwCl (tyL k) f sz) (hm_A f sz)) (by decide) rfl (Nat.le_of_ble_eq_true rfl) ?_
  intro pg e s m below meth cd ls X0 hr hlk hin hK hM hS hA hl Q hQ
  have X : CallFix pg m cd b_GrantServer_exchange 8 s ([.ref h, .int co, .int red, .int au, .int x] : List Value).toArray TB R_GrantServer := ⟨X0.1, X0.2.1, X0.2.2.1, X0.2.2.2.1, fun w h => X0.2.2.2.2 w (List.mem_cons_of_mem _ h)⟩
  have hx := X.1; have hb := X.2.1; have hml := X.2.2.1; have hown := X.2.2.2.1; have hts := X.2.2.2.2
  have hl : lv_has ls 8 [(0, .ref h), (1, .int co), (2, .int red), (3, .int au), (4, .int x)] := hl
  refine lv_aload_n hx hb d_GrantServer_exchange_0 rfl (lv_at hl 0 rfl) ?_
  refine hm_get X hK hM hh fl_GrantServer_54 (v := .int (u 13)) rfl d_GrantServer_exchange_1 ?_
  refine lv_iconst (v := (-1)) hx hb d_GrantServer_exchange_4 (by decide) ?_
  refine lv_icmp_ne (tgt := 11) hx hb d_GrantServer_exchange_5 (by decide) (fun h1 => ?_) (fun h1 => ?_)
  · refine lv_iload_n hx hb d_GrantServer_exchange_11 rfl (lv_at hl 3 rfl) ?_
    refine lv_if_lt (tgt := 20) hx hb d_GrantServer_exchange_12 (by decide) (fun h2 => ?_) (fun h2 => ?_)
    · exact absurd h2 hau1
    · refine lv_iload_n hx hb d_GrantServer_exchange_15 rfl (lv_at hl 3 rfl) ?_
      refine lv_iconst (v := 3) hx hb d_GrantServer_exchange_16 (by decide) ?_
      refine lv_icmp_le (tgt := 22) hx hb d_GrantServer_exchange_17 (by decide) (fun h3 => ?_) (fun h3 => ?_)
      · refine lv_aload_n hx hb d_GrantServer_exchange_22 rfl (lv_at hl 0 rfl) ?_
        refine hm_get X hK hM hh fl_GrantServer_20 (v := .ref (ad 4)) rfl d_GrantServer_exchange_23 ?_
        refine lv_iload_n hx hb d_GrantServer_exchange_26 rfl (lv_at hl 1 rfl) ?_
        refine lv_aload_n hx hb d_GrantServer_exchange_27 rfl (lv_at hl 0 rfl) ?_
        refine hm_get X hK hM hh fl_GrantServer_54 (v := .int (u 13)) rfl d_GrantServer_exchange_28 ?_
        refine hm_callq hS hM hA (va_runV (As := [.int co, .int (u 13)]) (rest := []) X (c_findOwned l D k f (ad 4) (ad 14) 16 (us 0) (g 0) (w 0) (m1 0) i q co (u 13) hs0 hr0 hq hu0 (by decide) hrows0 hfi hgq ho s.heap.size) (hm_cwV hts me_Shelf_findOwned wl_GrantServer_129 rfl rfl ⟨Nat.le_of_ble_eq_true rfl, Nat.le_of_ble_eq_true rfl⟩) (hm_preV hM hK hs0 rfl) rfl rfl hl.1 rfl (lv_room (Nat.le_of_ble_eq_true rfl)) d_GrantServer_exchange_31 ⟨Nat.le_of_ble_eq_true rfl, Nat.le_of_ble_eq_true rfl⟩) (fun r6 f4 H locs p5 hM hS => ?_)
        obtain ⟨rfl, rfl⟩ := p5
        refine lv_astore (lv' := [(5, .ref q), (0, .ref h), (1, .int co), (2, .int red), (3, .int au), (4, .int x)]) hx hb d_GrantServer_exchange_34 hl (by decide) rfl (fun ls hl => ?_)
        refine lv_aload hx hb d_GrantServer_exchange_36 (lv_at hl 0 rfl) ?_
        refine lv_ifnonnull (tgt := 44) hx hb d_GrantServer_exchange_38 (by decide) ?_
        refine lv_aload hx hb d_GrantServer_exchange_44 (lv_at hl 0 rfl) ?_
        refine hm_get X hK hM hq fl_GrantServer_133 (v := .int ((w 0 i) 6)) rfl d_GrantServer_exchange_46 ?_
        refine lv_if_eq (tgt := 60) hx hb d_GrantServer_exchange_49 (by decide) (fun h7 => ?_) (fun h7 => ?_)
        · exact absurd h7 hw6
        · refine lv_aload hx hb d_GrantServer_exchange_52 (lv_at hl 0 rfl) ?_
          refine hm_callv hS hM hA (va_runV (As := []) (rest := []) X (c_revokeFamily l D k f q (w 0 i) (m1 0 i) qf fs fa fv hq hqf hmm9 H.size) (hm_cwV hts me_Grant_revokeFamily wl_GrantServer_137 rfl rfl ⟨Nat.le_of_ble_eq_true rfl, Nat.le_of_ble_eq_true rfl⟩) (hm_preV hM hK hq rfl) rfl rfl hl.1 rfl (lv_room (Nat.le_of_ble_eq_true rfl)) d_GrantServer_exchange_54 ⟨Nat.le_of_ble_eq_true rfl, Nat.le_of_ble_eq_true rfl⟩) (fun f8 H locs p9 hM hS => ?_)
          obtain ⟨g10, hfr11⟩ := p9
          refine lv_bipush (v := (-3)) hx hb d_GrantServer_exchange_57 (by decide) ?_
          exact hm_iret X hQ hr hlk hK hM hS d_GrantServer_exchange_59 ⟨rfl, g10, (fun zq zx n0 hq => by have t0 := hq; have t1 := hfr11 _ _ n0 t0; exact t1)⟩
      · exact absurd (Int32.not_lt.mp hau2) h3
  · exact absurd h1 hlog
set_option maxHeartbeats 4000000 in
set_option maxRecDepth 100000 in
theorem c_ex_no (l : Launch) (D : va_G) (k : Nat → ClassId) (f : hm) (h : Nat) (u : Nat → Int32) (ad : Nat → Nat) (us : Nat → Nat) (g : Nat → Nat → Option Nat) (w : Nat → Nat → Nat → Int32) (m1 : Nat → Nat → Option Nat) (co : Int32) (red : Int32) (au : Int32) (x : Int32) (i : Nat) (q : Nat) (n : Nat) (y : Nat → Int32) (hh : f h = some (.inr (0, gsV u ad))) (hs0 : f (ad 4) = some (.inr (4, [.ref (ad 14), .int (nI (us 0))]))) (hr0 : f (ad 14) = some (.inl (k 3, 16, .inr (.inr (.inr (.inr (g 0))))))) (hs1 : f (ad 5) = some (.inr (4, [.ref (ad 15), .int (nI (us 1))]))) (hr1 : f (ad 15) = some (.inl (k 3, 24, .inr (.inr (.inr (.inr (g 1))))))) (hs2 : f (ad 6) = some (.inr (4, [.ref (ad 16), .int (nI (us 2))]))) (hr2 : f (ad 16) = some (.inl (k 3, 24, .inr (.inr (.inr (.inr (g 2))))))) (hq : f q = some (.inr (3, gV (w 0 i) (m1 0 i)))) (ht0 : f (ad 7) = some (.inr (5, [.ref (ad 17), .int (nI n)]))) (ha0 : f (ad 17) = some (.inl (k 2, 120, .inl y))) (hlog : ¬ u 13 = -1) (hau1 : ¬ au < 0) (hau2 : ¬ 3 < au) (hu0 : us 0 ≤ 16) (hrows0 : ∀ i, i < us 0 → ∃ q, g 0 i = some q ∧ f q = some (.inr (3, gV (w 0 i) (m1 0 i)))) (hfi : z_fi (w 0) co (us 0) 0 = some i) (hgq : g 0 i = some q) (ho : w 0 i 1 = u 13) (hw6 : w 0 i 6 = 0) (hw7 : w 0 i 7 = 0) (hmm9 : m1 0 i = none) (hu1 : us 1 ≤ 24) (hrows1 : ∀ i, i < us 1 → ∃ q, g 1 i = some q ∧ f q = some (.inr (3, gV (w 1 i) (m1 1 i)))) (hu2 : us 2 ≤ 24) (hn : n ≤ 120) (hne : ¬ a_ex (w 0 i 3) (u 15) (w 0 i 4) red (w 0 i 5) (z_hash y n n) (z_free ((z_fi (w 0) x (us 0) 0).bind (g 0)) ((z_fi (w 1) x (us 1) 0).bind (g 1)) x) (z_full (us 1) 24) (z_full (us 2) 24) = 0) : hm_Mi l D vwCl (tyL k) y_GrantServer_exchange (Cond.code y_GrantServer_exchange b_GrantServer_exchange 8 (some .int) :: TB) ({ frames := 3, cells := 0, slots := 0, locals := 64 }) [.ref h, .int co, .int red, .int au, .int x] f (fun (r : Int32) (f1 : hm) => a_ex (w 0 i 3) (u 15) (w 0 i 4) red (w 0 i 5) (z_hash y n n) (z_free ((z_fi (w 0) x (us 0) 0).bind (g 0)) ((z_fi (w 1) x (us 1) 0).bind (g 1)) x) (z_full (us 1) 24) (z_full (us 2) 24) = r ∧ f = f1) 0 0 := by
  refine hm_enter (Qc := fun sz => va_Qi _ (hm_R D vwCl (tyL k) f sz) (hm_A f sz)) (by decide) rfl (Nat.le_of_ble_eq_true rfl) ?_
  intro pg e s m below meth cd ls X0 hr hlk hin hK hM hS hA hl Q hQ
  have X : CallFix pg m cd b_GrantServer_exchange 8 s ([.ref h, .int co, .int red, .int au, .int x] : List Value).toArray TB R_GrantServer := ⟨X0.1, X0.2.1, X0.2.2.1, X0.2.2.2.1, fun w h => X0.2.2.2.2 w (List.mem_cons_of_mem _ h)⟩
  have hx := X.1; have hb := X.2.1; have hml := X.2.2.1; have hown := X.2.2.2.1; have hts := X.2.2.2.2
  have hl : lv_has ls 8 [(0, .ref h), (1, .int co), (2, .int red), (3, .int au), (4, .int x)] := hl
  refine lv_aload_n hx hb d_GrantServer_exchange_0 rfl (lv_at hl 0 rfl) ?_
  refine hm_get X hK hM hh fl_GrantServer_54 (v := .int (u 13)) rfl d_GrantServer_exchange_1 ?_
  refine lv_iconst (v := (-1)) hx hb d_GrantServer_exchange_4 (by decide) ?_
  refine lv_icmp_ne (tgt := 11) hx hb d_GrantServer_exchange_5 (by decide) (fun h1 => ?_) (fun h1 => ?_)
  · refine lv_iload_n hx hb d_GrantServer_exchange_11 rfl (lv_at hl 3 rfl) ?_
    refine lv_if_lt (tgt := 20) hx hb d_GrantServer_exchange_12 (by decide) (fun h2 => ?_) (fun h2 => ?_)
    · exact absurd h2 hau1
    · refine lv_iload_n hx hb d_GrantServer_exchange_15 rfl (lv_at hl 3 rfl) ?_
      refine lv_iconst (v := 3) hx hb d_GrantServer_exchange_16 (by decide) ?_
      refine lv_icmp_le (tgt := 22) hx hb d_GrantServer_exchange_17 (by decide) (fun h3 => ?_) (fun h3 => ?_)
      · refine lv_aload_n hx hb d_GrantServer_exchange_22 rfl (lv_at hl 0 rfl) ?_
        refine hm_get X hK hM hh fl_GrantServer_20 (v := .ref (ad 4)) rfl d_GrantServer_exchange_23 ?_
        refine lv_iload_n hx hb d_GrantServer_exchange_26 rfl (lv_at hl 1 rfl) ?_
        refine lv_aload_n hx hb d_GrantServer_exchange_27 rfl (lv_at hl 0 rfl) ?_
        refine hm_get X hK hM hh fl_GrantServer_54 (v := .int (u 13)) rfl d_GrantServer_exchange_28 ?_
        refine hm_callq hS hM hA (va_runV (As := [.int co, .int (u 13)]) (rest := []) X (c_findOwned l D k f (ad 4) (ad 14) 16 (us 0) (g 0) (w 0) (m1 0) i q co (u 13) hs0 hr0 hq hu0 (by decide) hrows0 hfi hgq ho s.heap.size) (hm_cwV hts me_Shelf_findOwned wl_GrantServer_129 rfl rfl ⟨Nat.le_of_ble_eq_true rfl, Nat.le_of_ble_eq_true rfl⟩) (hm_preV hM hK hs0 rfl) rfl rfl hl.1 rfl (lv_room (Nat.le_of_ble_eq_true rfl)) d_GrantServer_exchange_31 ⟨Nat.le_of_ble_eq_true rfl, Nat.le_of_ble_eq_true rfl⟩) (fun r6 f4 H locs p5 hM hS => ?_)
        obtain ⟨rfl, rfl⟩ := p5
        refine lv_astore (lv' := [(5, .ref q), (0, .ref h), (1, .int co), (2, .int red), (3, .int au), (4, .int x)]) hx hb d_GrantServer_exchange_34 hl (by decide) rfl (fun ls hl => ?_)
        refine lv_aload hx hb d_GrantServer_exchange_36 (lv_at hl 0 rfl) ?_
        refine lv_ifnonnull (tgt := 44) hx hb d_GrantServer_exchange_38 (by decide) ?_
        refine lv_aload hx hb d_GrantServer_exchange_44 (lv_at hl 0 rfl) ?_
        refine hm_get X hK hM hq fl_GrantServer_133 (v := .int ((w 0 i) 6)) rfl d_GrantServer_exchange_46 ?_
        refine lv_if_eq (tgt := 60) hx hb d_GrantServer_exchange_49 (by decide) (fun h7 => ?_) (fun h7 => ?_)
        · refine lv_aload hx hb d_GrantServer_exchange_60 (lv_at hl 0 rfl) ?_
          refine lv_aload_n hx hb d_GrantServer_exchange_62 rfl (lv_at hl 1 rfl) ?_
          refine hm_get X hK hM hh fl_GrantServer_60 (v := .int (u 15)) rfl d_GrantServer_exchange_63 ?_
          refine hm_calli hS hM hA (va_runV (As := [.int (u 15)]) (rest := []) X (c_Grant_isActive l D k f q (w 0 i) (m1 0 i) 0 0 0 (u 15) hq (fun z hz => absurd (hmm9.symm.trans hz) (fun q => by cases q)) H.size) (hm_cwV hts me_Grant_isActive wl_GrantServer_140 rfl rfl ⟨Nat.le_of_ble_eq_true rfl, Nat.le_of_ble_eq_true rfl⟩) (hm_preV hM hK hq rfl) rfl rfl hl.1 rfl (lv_room (Nat.le_of_ble_eq_true rfl)) d_GrantServer_exchange_66 ⟨Nat.le_of_ble_eq_true rfl, Nat.le_of_ble_eq_true rfl⟩) (fun r10 f8 H locs p9 hM hS => ?_)
          obtain ⟨rfl, rfl⟩ := p9
          refine hm_top (z := z_gt (w 0 i 3) (u 15)) (z_act_gt hw6 hw7 hmm9) ?_
          refine lv_if_eq (tgt := 96) hx hb d_GrantServer_exchange_69 (by decide) (fun h11 => ?_) (fun h11 => ?_)
          · refine lv_bipush (v := (-3)) hx hb d_GrantServer_exchange_96 (by decide) ?_
            exact hm_iret X hQ hr hlk hK hM hS d_GrantServer_exchange_98 ⟨(if_pos (Or.inl (z_gt_0.mp h11))), rfl⟩
          · refine lv_aload hx hb d_GrantServer_exchange_72 (lv_at hl 0 rfl) ?_
            refine hm_get X hK hM hq fl_GrantServer_125 (v := .int ((w 0 i) 4)) rfl d_GrantServer_exchange_74 ?_
            refine lv_iload_n hx hb d_GrantServer_exchange_77 rfl (lv_at hl 3 rfl) ?_
            refine lv_icmp_ne (tgt := 96) hx hb d_GrantServer_exchange_78 (by decide) (fun h12 => ?_) (fun h12 => ?_)
            · refine lv_bipush (v := (-3)) hx hb d_GrantServer_exchange_96 (by decide) ?_
              exact hm_iret X hQ hr hlk hK hM hS d_GrantServer_exchange_98 ⟨(if_pos (Or.inr (Or.inl h12))), rfl⟩
            · refine lv_aload hx hb d_GrantServer_exchange_81 (lv_at hl 0 rfl) ?_
              refine hm_get X hK hM hq fl_GrantServer_126 (v := .int ((w 0 i) 5)) rfl d_GrantServer_exchange_83 ?_
              refine lv_aload_n hx hb d_GrantServer_exchange_86 rfl (lv_at hl 1 rfl) ?_
              refine hm_get X hK hM hh fl_GrantServer_33 (v := .ref (ad 7)) rfl d_GrantServer_exchange_87 ?_
              refine hm_calli hS hM hA (va_runV (As := []) (rest := [.int ((w 0 i) 5)]) X (c_Text_hash l D k f (ad 7) (ad 17) n y ht0 ha0 hn H.size) (hm_cwV hts me_Text_hash wl_GrantServer_143 rfl rfl ⟨Nat.le_of_ble_eq_true rfl, Nat.le_of_ble_eq_true rfl⟩) (hm_preV hM hK ht0 rfl) rfl rfl hl.1 rfl (lv_room (Nat.le_of_ble_eq_true rfl)) d_GrantServer_exchange_90 ⟨Nat.le_of_ble_eq_true rfl, Nat.le_of_ble_eq_true rfl⟩) (fun r15 f13 H locs p14 hM hS => ?_)
              obtain ⟨rfl, rfl⟩ := p14
              refine lv_icmp_eq (tgt := 99) hx hb d_GrantServer_exchange_93 (by decide) (fun h16 => ?_) (fun h16 => ?_)
              · refine lv_aload_n hx hb d_GrantServer_exchange_99 rfl (lv_at hl 1 rfl) ?_
                refine lv_iload hx hb d_GrantServer_exchange_100 (lv_at hl 5 rfl) ?_
                refine hm_calli hS hM hA (va_runV (As := [.int x]) (rest := []) X (c_refusal l D k f h u ad us g w m1 x hh hs0 hr0 hs1 hr1 hs2 hr2 hu0 hrows0 hu1 hrows1 hu2 H.size) (hm_cwV hts me_GrantServer_refusalOfNewTokens wl_GrantServer_147 rfl rfl ⟨Nat.le_of_ble_eq_true rfl, Nat.le_of_ble_eq_true rfl⟩) (hm_preV hM hK hh rfl) rfl rfl hl.1 rfl (lv_room (Nat.le_of_ble_eq_true rfl)) d_GrantServer_exchange_102 ⟨Nat.le_of_ble_eq_true rfl, Nat.le_of_ble_eq_true rfl⟩) (fun r19 f17 H locs p18 hM hS => ?_)
                obtain ⟨rfl, rfl⟩ := p18
                refine lv_istore (lv' := [(6, .int (a_ref (z_free ((z_fi (w 0) x (us 0) 0).bind (g 0)) ((z_fi (w 1) x (us 1) 0).bind (g 1)) x) (z_full (us 1) 24) (z_full (us 2) 24))), (5, .ref q), (0, .ref h), (1, .int co), (2, .int red), (3, .int au), (4, .int x)]) hx hb d_GrantServer_exchange_105 hl (by decide) rfl (fun ls hl => ?_)
                refine lv_iload hx hb d_GrantServer_exchange_107 (lv_at hl 0 rfl) ?_
                refine lv_if_eq (tgt := 115) hx hb d_GrantServer_exchange_109 (by decide) (fun h20 => ?_) (fun h20 => ?_)
                · exact absurd (Eq.trans (if_neg (fun z => z.elim (fun q => h11 (z_gt_0.mpr q)) (fun z => z.elim (fun q => q h12) (fun q => q h16)))) h20) hne
                · refine lv_iload hx hb d_GrantServer_exchange_112 (lv_at hl 0 rfl) ?_
                  exact hm_iret X hQ hr hlk hK hM hS d_GrantServer_exchange_114 ⟨(if_neg (fun z => z.elim (fun q => h11 (z_gt_0.mpr q)) (fun z => z.elim (fun q => q h12) (fun q => q h16)))), rfl⟩
              · refine lv_bipush (v := (-3)) hx hb d_GrantServer_exchange_96 (by decide) ?_
                exact hm_iret X hQ hr hlk hK hM hS d_GrantServer_exchange_98 ⟨(if_pos (Or.inr (Or.inr h16))), rfl⟩
        · exact absurd hw6 h7
      · exact absurd (Int32.not_lt.mp hau2) h3
  · exact absurd h1 hlog
set_option maxHeartbeats 4000000 in
set_option maxRecDepth 100000 in
theorem c_ex (l : Launch) (D : va_G) (k : Nat → ClassId) (sA sV : Nat → Nat) (f : hm) (h : Nat) (u : Nat → Int32) (ad : Nat → Nat) (us : Nat → Nat) (g : Nat → Nat → Option Nat) (w : Nat → Nat → Nat → Int32) (m1 : Nat → Nat → Option Nat) (co : Int32) (red : Int32) (x : Int32) (i : Nat) (q : Nat) (n : Nat) (y : Nat → Int32) (qa : Nat) (wa : Nat → Int32) (ma : Option Nat) (qb : Nat) (wb : Nat → Int32) (mb : Option Nat) (n9 : Int32) (y9i : Nat → Int32) (n8 : Int32) (y8 : Nat → Int32) (ky : Int32) (vl : Nat → Nat) (K : Nat → Nat) (hh : f h = some (.inr (0, gsV u ad))) (hs0 : f (ad 4) = some (.inr (4, [.ref (ad 14), .int (nI (us 0))]))) (hr0 : f (ad 14) = some (.inl (k 3, 16, .inr (.inr (.inr (.inr (g 0))))))) (hs1 : f (ad 5) = some (.inr (4, [.ref (ad 15), .int (nI (us 1))]))) (hr1 : f (ad 15) = some (.inl (k 3, 24, .inr (.inr (.inr (.inr (g 1))))))) (hs2 : f (ad 6) = some (.inr (4, [.ref (ad 16), .int (nI (us 2))]))) (hr2 : f (ad 16) = some (.inl (k 3, 24, .inr (.inr (.inr (.inr (g 2))))))) (hq : f q = some (.inr (3, gV (w 0 i) (m1 0 i)))) (ht0 : f (ad 7) = some (.inr (5, [.ref (ad 17), .int (nI n)]))) (ha0 : f (ad 17) = some (.inl (k 2, 120, .inl y))) (hqa : f qa = some (.inr (3, gV wa ma))) (hqb : f qb = some (.inr (3, gV wb mb))) (ht2 : f (ad 9) = some (.inr (5, [.ref (ad 19), .int n9]))) (ha2 : f (ad 19) = some (.inl (k 2, 120, .inl y9i))) (ht1 : f (ad 8) = some (.inr (5, [.ref (ad 18), .int n8]))) (ha1 : f (ad 18) = some (.inl (k 2, 120, .inl y8))) (hw : f (ad 11) = some (.inr (6, [.int ky]))) (hap : gs_ap ad) (hlog : ¬ u 13 = -1) (hau2 : vl 1 ≤ 3) (hu0 : us 0 ≤ 16) (hrows0 : ∀ i, i < us 0 → ∃ q, g 0 i = some q ∧ f q = some (.inr (3, gV (w 0 i) (m1 0 i)))) (hfi : z_fi (w 0) co (us 0) 0 = some i) (hgq : g 0 i = some q) (ho : w 0 i 1 = u 13) (hw6 : w 0 i 6 = 0) (hw7 : w 0 i 7 = 0) (hmm9 : m1 0 i = none) (hu1 : us 1 ≤ 24) (hrows1 : ∀ i, i < us 1 → ∃ q, g 1 i = some q ∧ f q = some (.inr (3, gV (w 1 i) (m1 1 i)))) (hu2 : us 2 ≤ 24) (hn : n ≤ 120) (hok0 : a_ex (w 0 i 3) (u 15) (w 0 i 4) red (w 0 i 5) (z_hash y n n) (z_free ((z_fi (w 0) x (us 0) 0).bind (g 0)) ((z_fi (w 1) x (us 1) 0).bind (g 1)) x) (z_full (us 1) 24) (z_full (us 2) 24) = 0) (ho0 : w 0 i 1 = nI (vl 0)) (hsc : w 0 i 2 = nI (vl 4)) (hga : g 1 (us 1) = some qa) (hgb : g 2 (us 2) = some qb) (hqab : qa ≠ qb) (hq1 : q ≠ qa) (hq2 : q ≠ qb) (hen : u 15 + u 1 = nI (vl 2)) (hmd : u 14 + 1 = nI (vl 3)) (hKd : ∀ i, i < 5 → z_dg (vl i) (K i)) (hvl : ∀ i, i < 5 → vl i < 2 ^ 31) (hsz : z_tot K ≤ 81) : hm_MiZ l sA sV D vwCl (tyL k) y_GrantServer_exchange (Cond.code y_GrantServer_exchange b_GrantServer_exchange 8 (some .int) :: TB) ({ frames := 7, cells := 1, slots := 3, locals := 159 }) [.ref h, .int co, .int red, .int (nI (vl 1)), .int x] f (fun (r : Int32) (f1 : hm) => ∃ (qf : Nat) (y9 : Nat → Int32) (y2 : Nat → Int32), f qf = none ∧ nI (vl 3) = r ∧ (∀ i, i < (z_tot K * 8 + 5) / 6 → y2 i = nI (st_chr 6 (z_six (z_tot K) (z_ct vl K) i))) ∧ (y2 ((z_tot K * 8 + 5) / 6) = 46) ∧ (∀ i, i < 10 → y2 ((z_tot K * 8 + 5) / 6 + 1 + i) = nI (st_chr 6 (z_ss (z_seal ky.toInt64 y2 ((z_tot K * 8 + 5) / 6)) i))) ∧ f1 h = some (.inr (0, gsV (upd u 14 (nI (vl 3))) ad)) ∧ f1 (ad 5) = some (.inr (4, [.ref (ad 15), .int (nI (us 1 + 1))])) ∧ f1 (ad 15) = some (.inl (k 3, 24, .inr (.inr (.inr (.inr (g 1)))))) ∧ f1 qa = some (.inr (3, gV (upd (upd (upd (upd (upd (upd wa 0 x) 1 (nI (vl 0))) 2 (nI (vl 4))) 3 (u 15 + u 2)) 6 0) 7 0) (some qf))) ∧ f1 (ad 6) = some (.inr (4, [.ref (ad 16), .int (nI (us 2 + 1))])) ∧ f1 (ad 16) = some (.inl (k 3, 24, .inr (.inr (.inr (.inr (g 2)))))) ∧ f1 qb = some (.inr (3, gV (upd (upd (upd (upd (upd (upd wb 0 (nI (vl 3))) 1 (nI (vl 0))) 2 (nI (vl 4))) 3 (nI (vl 2))) 6 0) 7 0) (some qf))) ∧ f1 (ad 9) = some (.inr (5, [.ref (ad 19), .int (nI (z_tot K))])) ∧ f1 (ad 19) = some (.inl (k 2, 120, .inl y9)) ∧ f1 (ad 8) = some (.inr (5, [.ref (ad 18), .int (nI ((z_tot K * 8 + 5) / 6 + 11))])) ∧ f1 (ad 18) = some (.inl (k 2, 120, .inl y2)) ∧ f1 q = some (.inr (3, gV (upd (w 0 i) 6 1) (some qf))) ∧ f1 qf = some (.inr (2, [.int (nI (vl 4)), .int (nI (vl 1)), .int 0])) ∧ ∀ (zq : Nat) (zx : va_E), zq ≠ h → zq ≠ (ad 5) → zq ≠ (ad 15) → zq ≠ qa → zq ≠ (ad 6) → zq ≠ (ad 16) → zq ≠ qb → zq ≠ (ad 9) → zq ≠ (ad 19) → zq ≠ (ad 8) → zq ≠ (ad 18) → zq ≠ q → f zq = some zx → f1 zq = some zx) 1 3 := by
  refine hm_enterZ (Qc := fun sz => va_Qi _ (hm_R D vwCl (tyL k) f sz) (hm_A f sz)) (by decide) rfl (Nat.le_of_ble_eq_true rfl) ?_
  intro pg e s m below meth cd ls hZ X0 hr hlk hin hK hM hS hA hl Q hQ
  have X : CallFix pg m cd b_GrantServer_exchange 8 s ([.ref h, .int co, .int red, .int (nI (vl 1)), .int x] : List Value).toArray TB R_GrantServer := ⟨X0.1, X0.2.1, X0.2.2.1, X0.2.2.2.1, fun w h => X0.2.2.2.2 w (List.mem_cons_of_mem _ h)⟩
  have hx := X.1; have hb := X.2.1; have hml := X.2.2.1; have hown := X.2.2.2.1; have hts := X.2.2.2.2
  have hl : lv_has ls 8 [(0, .ref h), (1, .int co), (2, .int red), (3, .int (nI (vl 1))), (4, .int x)] := hl
  obtain ⟨k1, k2, k3, k4⟩ := a_ex_ok hok0
  obtain ⟨k5, k6, k7⟩ := a_ref_ok k4
  have hL1 : us 1 < 24 := z_full24.mp (Decidable.not_not.mp (fun z => k6 (z_full_b z)))
  have hL2 : us 2 < 24 := z_full24.mp (Decidable.not_not.mp (fun z => k7 (z_full_b z)))
  refine lv_aload_n hx hb d_GrantServer_exchange_0 rfl (lv_at hl 0 rfl) ?_
  refine hm_get X hK hM hh fl_GrantServer_54 (v := .int (u 13)) rfl d_GrantServer_exchange_1 ?_
  refine lv_iconst (v := (-1)) hx hb d_GrantServer_exchange_4 (by decide) ?_
  refine lv_icmp_ne (tgt := 11) hx hb d_GrantServer_exchange_5 (by decide) (fun h1 => ?_) (fun h1 => ?_)
  · refine lv_iload_n hx hb d_GrantServer_exchange_11 rfl (lv_at hl 3 rfl) ?_
    refine lv_if_lt (tgt := 20) hx hb d_GrantServer_exchange_12 (by decide) (fun h2 => ?_) (fun h2 => ?_)
    · exact absurd h2 (nI_pos (by have := hvl 1 (by decide); omega))
    · refine lv_iload_n hx hb d_GrantServer_exchange_15 rfl (lv_at hl 3 rfl) ?_
      refine lv_iconst (v := 3) hx hb d_GrantServer_exchange_16 (by decide) ?_
      refine lv_icmp_le (tgt := 22) hx hb d_GrantServer_exchange_17 (by decide) (fun h3 => ?_) (fun h3 => ?_)
      · refine lv_aload_n hx hb d_GrantServer_exchange_22 rfl (lv_at hl 0 rfl) ?_
        refine hm_get X hK hM hh fl_GrantServer_20 (v := .ref (ad 4)) rfl d_GrantServer_exchange_23 ?_
        refine lv_iload_n hx hb d_GrantServer_exchange_26 rfl (lv_at hl 1 rfl) ?_
        refine lv_aload_n hx hb d_GrantServer_exchange_27 rfl (lv_at hl 0 rfl) ?_
        refine hm_get X hK hM hh fl_GrantServer_54 (v := .int (u 13)) rfl d_GrantServer_exchange_28 ?_
        refine hm_callq hS hM hA (va_runV (As := [.int co, .int (u 13)]) (rest := []) X (c_findOwned l D k f (ad 4) (ad 14) 16 (us 0) (g 0) (w 0) (m1 0) i q co (u 13) hs0 hr0 hq hu0 (by decide) hrows0 hfi hgq ho s.heap.size) (hm_cwV hts me_Shelf_findOwned wl_GrantServer_129 rfl rfl ⟨Nat.le_of_ble_eq_true rfl, Nat.le_of_ble_eq_true rfl⟩) (hm_preV hM hK hs0 rfl) rfl rfl hl.1 rfl (lv_room (Nat.le_of_ble_eq_true rfl)) d_GrantServer_exchange_31 ⟨Nat.le_of_ble_eq_true rfl, Nat.le_of_ble_eq_true rfl⟩) (fun r6 f4 H locs p5 hM hS => ?_)
        obtain ⟨rfl, rfl⟩ := p5
        refine lv_astore (lv' := [(5, .ref q), (0, .ref h), (1, .int co), (2, .int red), (3, .int (nI (vl 1))), (4, .int x)]) hx hb d_GrantServer_exchange_34 hl (by decide) rfl (fun ls hl => ?_)
        refine lv_aload hx hb d_GrantServer_exchange_36 (lv_at hl 0 rfl) ?_
        refine lv_ifnonnull (tgt := 44) hx hb d_GrantServer_exchange_38 (by decide) ?_
        refine lv_aload hx hb d_GrantServer_exchange_44 (lv_at hl 0 rfl) ?_
        refine hm_get X hK hM hq fl_GrantServer_133 (v := .int ((w 0 i) 6)) rfl d_GrantServer_exchange_46 ?_
        refine lv_if_eq (tgt := 60) hx hb d_GrantServer_exchange_49 (by decide) (fun h7 => ?_) (fun h7 => ?_)
        · refine lv_aload hx hb d_GrantServer_exchange_60 (lv_at hl 0 rfl) ?_
          refine lv_aload_n hx hb d_GrantServer_exchange_62 rfl (lv_at hl 1 rfl) ?_
          refine hm_get X hK hM hh fl_GrantServer_60 (v := .int (u 15)) rfl d_GrantServer_exchange_63 ?_
          refine hm_calli hS hM hA (va_runV (As := [.int (u 15)]) (rest := []) X (c_Grant_isActive l D k f q (w 0 i) (m1 0 i) 0 0 0 (u 15) hq (fun z hz => absurd (hmm9.symm.trans hz) (fun q => by cases q)) H.size) (hm_cwV hts me_Grant_isActive wl_GrantServer_140 rfl rfl ⟨Nat.le_of_ble_eq_true rfl, Nat.le_of_ble_eq_true rfl⟩) (hm_preV hM hK hq rfl) rfl rfl hl.1 rfl (lv_room (Nat.le_of_ble_eq_true rfl)) d_GrantServer_exchange_66 ⟨Nat.le_of_ble_eq_true rfl, Nat.le_of_ble_eq_true rfl⟩) (fun r10 f8 H locs p9 hM hS => ?_)
          obtain ⟨rfl, rfl⟩ := p9
          refine hm_top (z := z_gt (w 0 i 3) (u 15)) (z_act_gt hw6 hw7 hmm9) ?_
          refine lv_if_eq (tgt := 96) hx hb d_GrantServer_exchange_69 (by decide) (fun h11 => ?_) (fun h11 => ?_)
          · exact absurd (z_gt_0.mp h11) k1
          · refine lv_aload hx hb d_GrantServer_exchange_72 (lv_at hl 0 rfl) ?_
            refine hm_get X hK hM hq fl_GrantServer_125 (v := .int ((w 0 i) 4)) rfl d_GrantServer_exchange_74 ?_
            refine lv_iload_n hx hb d_GrantServer_exchange_77 rfl (lv_at hl 3 rfl) ?_
            refine lv_icmp_ne (tgt := 96) hx hb d_GrantServer_exchange_78 (by decide) (fun h12 => ?_) (fun h12 => ?_)
            · exact absurd k2 h12
            · refine lv_aload hx hb d_GrantServer_exchange_81 (lv_at hl 0 rfl) ?_
              refine hm_get X hK hM hq fl_GrantServer_126 (v := .int ((w 0 i) 5)) rfl d_GrantServer_exchange_83 ?_
              refine lv_aload_n hx hb d_GrantServer_exchange_86 rfl (lv_at hl 1 rfl) ?_
              refine hm_get X hK hM hh fl_GrantServer_33 (v := .ref (ad 7)) rfl d_GrantServer_exchange_87 ?_
              refine hm_calli hS hM hA (va_runV (As := []) (rest := [.int ((w 0 i) 5)]) X (c_Text_hash l D k f (ad 7) (ad 17) n y ht0 ha0 hn H.size) (hm_cwV hts me_Text_hash wl_GrantServer_143 rfl rfl ⟨Nat.le_of_ble_eq_true rfl, Nat.le_of_ble_eq_true rfl⟩) (hm_preV hM hK ht0 rfl) rfl rfl hl.1 rfl (lv_room (Nat.le_of_ble_eq_true rfl)) d_GrantServer_exchange_90 ⟨Nat.le_of_ble_eq_true rfl, Nat.le_of_ble_eq_true rfl⟩) (fun r15 f13 H locs p14 hM hS => ?_)
              obtain ⟨rfl, rfl⟩ := p14
              refine lv_icmp_eq (tgt := 99) hx hb d_GrantServer_exchange_93 (by decide) (fun h16 => ?_) (fun h16 => ?_)
              · refine lv_aload_n hx hb d_GrantServer_exchange_99 rfl (lv_at hl 1 rfl) ?_
                refine lv_iload hx hb d_GrantServer_exchange_100 (lv_at hl 5 rfl) ?_
                refine hm_calli hS hM hA (va_runV (As := [.int x]) (rest := []) X (c_refusal l D k f h u ad us g w m1 x hh hs0 hr0 hs1 hr1 hs2 hr2 hu0 hrows0 hu1 hrows1 hu2 H.size) (hm_cwV hts me_GrantServer_refusalOfNewTokens wl_GrantServer_147 rfl rfl ⟨Nat.le_of_ble_eq_true rfl, Nat.le_of_ble_eq_true rfl⟩) (hm_preV hM hK hh rfl) rfl rfl hl.1 rfl (lv_room (Nat.le_of_ble_eq_true rfl)) d_GrantServer_exchange_102 ⟨Nat.le_of_ble_eq_true rfl, Nat.le_of_ble_eq_true rfl⟩) (fun r19 f17 H locs p18 hM hS => ?_)
                obtain ⟨rfl, rfl⟩ := p18
                refine lv_istore (lv' := [(6, .int (a_ref (z_free ((z_fi (w 0) x (us 0) 0).bind (g 0)) ((z_fi (w 1) x (us 1) 0).bind (g 1)) x) (z_full (us 1) 24) (z_full (us 2) 24))), (5, .ref q), (0, .ref h), (1, .int co), (2, .int red), (3, .int (nI (vl 1))), (4, .int x)]) hx hb d_GrantServer_exchange_105 hl (by decide) rfl (fun ls hl => ?_)
                refine lv_iload hx hb d_GrantServer_exchange_107 (lv_at hl 0 rfl) ?_
                refine lv_if_eq (tgt := 115) hx hb d_GrantServer_exchange_109 (by decide) (fun h20 => ?_) (fun h20 => ?_)
                · refine hm_new X hK hM hS hA nw_GrantServer_150 (by decide) (by decide) d_GrantServer_exchange_115 (fun q21 f22 H e23 z24 hM hS => ?_)
                  have g25 : f22 q21 = some (.inr (2, [.int 0, .int 0, .int 0])) := hm_new1 e23
                  refine lv_dup hx hb d_GrantServer_exchange_118 rfl ?_
                  refine lv_aload hx hb d_GrantServer_exchange_119 (lv_at hl 1 rfl) ?_
                  have g26 : f22 q = some (.inr (3, gV (w 0 i) (m1 0 i))) := by rw [e23, hm_up_n (hm_ne0 hq z24)]; exact hq
                  refine hm_get X hK hM g26 fl_GrantServer_152 (v := .int ((w 0 i) 2)) rfl d_GrantServer_exchange_121 ?_
                  refine hm_top (z := nI (vl 4)) hsc ?_
                  refine lv_iload_n hx hb d_GrantServer_exchange_124 rfl (lv_at hl 5 rfl) ?_
                  have g27 : f22 h = some (.inr (0, gsV u ad)) := by rw [e23, hm_up_n (hm_ne0 hh z24)]; exact hh
                  have g28 : f22 (ad 4) = some (.inr (4, [.ref (ad 14), .int (nI (us 0))])) := by rw [e23, hm_up_n (hm_ne0 hs0 z24)]; exact hs0
                  have g29 : f22 (ad 14) = some (.inl (k 3, 16, .inr (.inr (.inr (.inr (g 0)))))) := by rw [e23, hm_up_n (hm_ne0 hr0 z24)]; exact hr0
                  have g30 : f22 (ad 5) = some (.inr (4, [.ref (ad 15), .int (nI (us 1))])) := by rw [e23, hm_up_n (hm_ne0 hs1 z24)]; exact hs1
                  have g31 : f22 (ad 15) = some (.inl (k 3, 24, .inr (.inr (.inr (.inr (g 1)))))) := by rw [e23, hm_up_n (hm_ne0 hr1 z24)]; exact hr1
                  have g32 : f22 (ad 6) = some (.inr (4, [.ref (ad 16), .int (nI (us 2))])) := by rw [e23, hm_up_n (hm_ne0 hs2 z24)]; exact hs2
                  have g33 : f22 (ad 16) = some (.inl (k 3, 24, .inr (.inr (.inr (.inr (g 2)))))) := by rw [e23, hm_up_n (hm_ne0 hr2 z24)]; exact hr2
                  have g34 : f22 (ad 7) = some (.inr (5, [.ref (ad 17), .int (nI n)])) := by rw [e23, hm_up_n (hm_ne0 ht0 z24)]; exact ht0
                  have g35 : f22 (ad 17) = some (.inl (k 2, 120, .inl y)) := by rw [e23, hm_up_n (hm_ne0 ha0 z24)]; exact ha0
                  have g36 : f22 qa = some (.inr (3, gV wa ma)) := by rw [e23, hm_up_n (hm_ne0 hqa z24)]; exact hqa
                  have g37 : f22 qb = some (.inr (3, gV wb mb)) := by rw [e23, hm_up_n (hm_ne0 hqb z24)]; exact hqb
                  have g38 : f22 (ad 9) = some (.inr (5, [.ref (ad 19), .int n9])) := by rw [e23, hm_up_n (hm_ne0 ht2 z24)]; exact ht2
                  have g39 : f22 (ad 19) = some (.inl (k 2, 120, .inl y9i)) := by rw [e23, hm_up_n (hm_ne0 ha2 z24)]; exact ha2
                  have g40 : f22 (ad 8) = some (.inr (5, [.ref (ad 18), .int n8])) := by rw [e23, hm_up_n (hm_ne0 ht1 z24)]; exact ht1
                  have g41 : f22 (ad 18) = some (.inl (k 2, 120, .inl y8)) := by rw [e23, hm_up_n (hm_ne0 ha1 z24)]; exact ha1
                  have g42 : f22 (ad 11) = some (.inr (6, [.int ky])) := by rw [e23, hm_up_n (hm_ne0 hw z24)]; exact hw
                  refine hm_callv hS hM hA (va_runI (As := [.int (nI (vl 4)), .int (nI (vl 1))]) (rest := [.ref q21]) X (c_Family_init l D k f22 q21 (nI (vl 4)) (nI (vl 1)) g25  H.size) (hm_cwI hts me_Family_init wl_GrantServer_153 rfl rfl ⟨Nat.le_of_ble_eq_true rfl, Nat.le_of_ble_eq_true rfl⟩) (hm_preS hM hK) rfl rfl hl.1 rfl (lv_room (Nat.le_of_ble_eq_true rfl)) d_GrantServer_exchange_125 ⟨Nat.le_of_ble_eq_true rfl, Nat.le_of_ble_eq_true rfl⟩) (fun f43 H locs p44 hM hS => ?_)
                  obtain ⟨g45, hfr46⟩ := p44
                  refine lv_astore (lv' := [(7, .ref q21), (6, .int (a_ref (z_free ((z_fi (w 0) x (us 0) 0).bind (g 0)) ((z_fi (w 1) x (us 1) 0).bind (g 1)) x) (z_full (us 1) 24) (z_full (us 2) 24))), (5, .ref q), (0, .ref h), (1, .int co), (2, .int red), (3, .int (nI (vl 1))), (4, .int x)]) hx hb d_GrantServer_exchange_128 hl (by decide) rfl (fun ls hl => ?_)
                  refine lv_aload hx hb d_GrantServer_exchange_130 (lv_at hl 2 rfl) ?_
                  refine lv_iconst (v := 1) hx hb d_GrantServer_exchange_132 (by decide) ?_
                  have g47 : f43 q = some (.inr (3, gV (w 0 i) (m1 0 i))) := hfr46 _ _ (hm_ne0 hq z24) g26
                  refine hm_put X hK hM hS (fs' := gV (upd (w 0 i) 6 1) (m1 0 i)) g47 fl_GrantServer_133 rfl rfl (Nat.le_of_ble_eq_true rfl) rfl d_GrantServer_exchange_133 (fun f48 H locs e49 hM hS => ?_)
                  refine lv_aload hx hb d_GrantServer_exchange_136 (lv_at hl 2 rfl) ?_
                  refine lv_aload hx hb d_GrantServer_exchange_138 (lv_at hl 0 rfl) ?_
                  have g50 : f48 q = some (.inr (3, gV (upd (w 0 i) 6 1) (m1 0 i))) := by rw [e49, hm_up_s]
                  refine hm_put X hK hM hS (fs' := gV (upd (w 0 i) 6 1) (some q21)) g50 fl_GrantServer_156 rfl rfl (Nat.le_of_ble_eq_true rfl) rfl d_GrantServer_exchange_140 (fun f51 H locs e52 hM hS => ?_)
                  refine lv_aload_n hx hb d_GrantServer_exchange_143 rfl (lv_at hl 3 rfl) ?_
                  refine lv_aload hx hb d_GrantServer_exchange_144 (lv_at hl 0 rfl) ?_
                  refine lv_aload hx hb d_GrantServer_exchange_146 (lv_at hl 2 rfl) ?_
                  have g53 : f51 q = some (.inr (3, gV (upd (w 0 i) 6 1) (some q21))) := by rw [e52, hm_up_s]
                  refine hm_get X hK hM g53 fl_GrantServer_160 (v := .int ((w 0 i) 1)) rfl d_GrantServer_exchange_148 ?_
                  refine hm_top (z := nI (vl 0)) ho0 ?_
                  refine lv_aload hx hb d_GrantServer_exchange_151 (lv_at hl 2 rfl) ?_
                  refine hm_get X hK hM g53 fl_GrantServer_152 (v := .int ((w 0 i) 2)) rfl d_GrantServer_exchange_153 ?_
                  refine hm_top (z := nI (vl 4)) hsc ?_
                  refine lv_iload hx hb d_GrantServer_exchange_156 (lv_at hl 7 rfl) ?_
                  have g54 : f43 h = some (.inr (0, gsV u ad)) := hfr46 _ _ (hm_ne0 hh z24) g27
                  have g55 : f48 h = some (.inr (0, gsV u ad)) := by rw [e49, hm_up_n (hm_neI g54 g47 (by decide))]; exact g54
                  have g56 : f51 h = some (.inr (0, gsV u ad)) := by rw [e52, hm_up_n (hm_neI g55 g50 (by decide))]; exact g55
                  have g57 : f43 (ad 5) = some (.inr (4, [.ref (ad 15), .int (nI (us 1))])) := hfr46 _ _ (hm_ne0 hs1 z24) g30
                  have g58 : f48 (ad 5) = some (.inr (4, [.ref (ad 15), .int (nI (us 1))])) := by rw [e49, hm_up_n (hm_neI g57 g47 (by decide))]; exact g57
                  have g59 : f51 (ad 5) = some (.inr (4, [.ref (ad 15), .int (nI (us 1))])) := by rw [e52, hm_up_n (hm_neI g58 g50 (by decide))]; exact g58
                  have g60 : f43 (ad 15) = some (.inl (k 3, 24, .inr (.inr (.inr (.inr (g 1)))))) := hfr46 _ _ (hm_ne0 hr1 z24) g31
                  have g61 : f48 (ad 15) = some (.inl (k 3, 24, .inr (.inr (.inr (.inr (g 1)))))) := by rw [e49, hm_up_n ((hm_neA g47 g60).symm)]; exact g60
                  have g62 : f51 (ad 15) = some (.inl (k 3, 24, .inr (.inr (.inr (.inr (g 1)))))) := by rw [e52, hm_up_n ((hm_neA g50 g61).symm)]; exact g61
                  have g63 : f43 (ad 6) = some (.inr (4, [.ref (ad 16), .int (nI (us 2))])) := hfr46 _ _ (hm_ne0 hs2 z24) g32
                  have g64 : f48 (ad 6) = some (.inr (4, [.ref (ad 16), .int (nI (us 2))])) := by rw [e49, hm_up_n (hm_neI g63 g47 (by decide))]; exact g63
                  have g65 : f51 (ad 6) = some (.inr (4, [.ref (ad 16), .int (nI (us 2))])) := by rw [e52, hm_up_n (hm_neI g64 g50 (by decide))]; exact g64
                  have g66 : f43 (ad 16) = some (.inl (k 3, 24, .inr (.inr (.inr (.inr (g 2)))))) := hfr46 _ _ (hm_ne0 hr2 z24) g33
                  have g67 : f48 (ad 16) = some (.inl (k 3, 24, .inr (.inr (.inr (.inr (g 2)))))) := by rw [e49, hm_up_n ((hm_neA g47 g66).symm)]; exact g66
                  have g68 : f51 (ad 16) = some (.inl (k 3, 24, .inr (.inr (.inr (.inr (g 2)))))) := by rw [e52, hm_up_n ((hm_neA g50 g67).symm)]; exact g67
                  have g69 : f43 qa = some (.inr (3, gV wa ma)) := hfr46 _ _ (hm_ne0 hqa z24) g36
                  have g70 : f48 qa = some (.inr (3, gV wa ma)) := by rw [e49, hm_up_n hq1.symm]; exact g69
                  have g71 : f51 qa = some (.inr (3, gV wa ma)) := by rw [e52, hm_up_n hq1.symm]; exact g70
                  have g72 : f43 qb = some (.inr (3, gV wb mb)) := hfr46 _ _ (hm_ne0 hqb z24) g37
                  have g73 : f48 qb = some (.inr (3, gV wb mb)) := by rw [e49, hm_up_n hq2.symm]; exact g72
                  have g74 : f51 qb = some (.inr (3, gV wb mb)) := by rw [e52, hm_up_n hq2.symm]; exact g73
                  have g75 : f48 q21 = some (.inr (2, [.int (nI (vl 4)), .int (nI (vl 1)), .int 0])) := by rw [e49, hm_up_n ((hm_ne0 hq z24).symm)]; exact g45
                  have g76 : f51 q21 = some (.inr (2, [.int (nI (vl 4)), .int (nI (vl 1)), .int 0])) := by rw [e52, hm_up_n ((hm_ne0 hq z24).symm)]; exact g75
                  have g77 : f43 (ad 9) = some (.inr (5, [.ref (ad 19), .int n9])) := hfr46 _ _ (hm_ne0 ht2 z24) g38
                  have g78 : f48 (ad 9) = some (.inr (5, [.ref (ad 19), .int n9])) := by rw [e49, hm_up_n (hm_neI g77 g47 (by decide))]; exact g77
                  have g79 : f51 (ad 9) = some (.inr (5, [.ref (ad 19), .int n9])) := by rw [e52, hm_up_n (hm_neI g78 g50 (by decide))]; exact g78
                  have g80 : f43 (ad 19) = some (.inl (k 2, 120, .inl y9i)) := hfr46 _ _ (hm_ne0 ha2 z24) g39
                  have g81 : f48 (ad 19) = some (.inl (k 2, 120, .inl y9i)) := by rw [e49, hm_up_n ((hm_neA g47 g80).symm)]; exact g80
                  have g82 : f51 (ad 19) = some (.inl (k 2, 120, .inl y9i)) := by rw [e52, hm_up_n ((hm_neA g50 g81).symm)]; exact g81
                  have g83 : f43 (ad 8) = some (.inr (5, [.ref (ad 18), .int n8])) := hfr46 _ _ (hm_ne0 ht1 z24) g40
                  have g84 : f48 (ad 8) = some (.inr (5, [.ref (ad 18), .int n8])) := by rw [e49, hm_up_n (hm_neI g83 g47 (by decide))]; exact g83
                  have g85 : f51 (ad 8) = some (.inr (5, [.ref (ad 18), .int n8])) := by rw [e52, hm_up_n (hm_neI g84 g50 (by decide))]; exact g84
                  have g86 : f43 (ad 18) = some (.inl (k 2, 120, .inl y8)) := hfr46 _ _ (hm_ne0 ha1 z24) g41
                  have g87 : f48 (ad 18) = some (.inl (k 2, 120, .inl y8)) := by rw [e49, hm_up_n ((hm_neA g47 g86).symm)]; exact g86
                  have g88 : f51 (ad 18) = some (.inl (k 2, 120, .inl y8)) := by rw [e52, hm_up_n ((hm_neA g50 g87).symm)]; exact g87
                  have g89 : f43 (ad 11) = some (.inr (6, [.int ky])) := hfr46 _ _ (hm_ne0 hw z24) g42
                  have g90 : f48 (ad 11) = some (.inr (6, [.int ky])) := by rw [e49, hm_up_n (hm_neI g89 g47 (by decide))]; exact g89
                  have g91 : f51 (ad 11) = some (.inr (6, [.int ky])) := by rw [e52, hm_up_n (hm_neI g90 g50 (by decide))]; exact g90
                  have g92 : f43 (ad 4) = some (.inr (4, [.ref (ad 14), .int (nI (us 0))])) := hfr46 _ _ (hm_ne0 hs0 z24) g28
                  have g93 : f48 (ad 4) = some (.inr (4, [.ref (ad 14), .int (nI (us 0))])) := by rw [e49, hm_up_n (hm_neI g92 g47 (by decide))]; exact g92
                  have g94 : f51 (ad 4) = some (.inr (4, [.ref (ad 14), .int (nI (us 0))])) := by rw [e52, hm_up_n (hm_neI g93 g50 (by decide))]; exact g93
                  have g95 : f43 (ad 14) = some (.inl (k 3, 16, .inr (.inr (.inr (.inr (g 0)))))) := hfr46 _ _ (hm_ne0 hr0 z24) g29
                  have g96 : f48 (ad 14) = some (.inl (k 3, 16, .inr (.inr (.inr (.inr (g 0)))))) := by rw [e49, hm_up_n ((hm_neA g47 g95).symm)]; exact g95
                  have g97 : f51 (ad 14) = some (.inl (k 3, 16, .inr (.inr (.inr (.inr (g 0)))))) := by rw [e52, hm_up_n ((hm_neA g50 g96).symm)]; exact g96
                  have g98 : f43 (ad 7) = some (.inr (5, [.ref (ad 17), .int (nI n)])) := hfr46 _ _ (hm_ne0 ht0 z24) g34
                  have g99 : f48 (ad 7) = some (.inr (5, [.ref (ad 17), .int (nI n)])) := by rw [e49, hm_up_n (hm_neI g98 g47 (by decide))]; exact g98
                  have g100 : f51 (ad 7) = some (.inr (5, [.ref (ad 17), .int (nI n)])) := by rw [e52, hm_up_n (hm_neI g99 g50 (by decide))]; exact g99
                  have g101 : f43 (ad 17) = some (.inl (k 2, 120, .inl y)) := hfr46 _ _ (hm_ne0 ha0 z24) g35
                  have g102 : f48 (ad 17) = some (.inl (k 2, 120, .inl y)) := by rw [e49, hm_up_n ((hm_neA g47 g101).symm)]; exact g101
                  have g103 : f51 (ad 17) = some (.inl (k 2, 120, .inl y)) := by rw [e52, hm_up_n ((hm_neA g50 g102).symm)]; exact g102
                  refine hm_calli hS hM hA (va_runV (As := [.ref q21, .int (nI (vl 0)), .int (nI (vl 4)), .int x]) (rest := []) X (c_giveTokens l D k sA sV f51 h u ad us g qa wa ma qb wb mb q21 (nI (vl 4)) 0 n9 y9i n8 y8 ky vl K x g56 g59 g62 g65 g68 g71 g74 g76 g79 g82 g85 g88 g91 hap hL1 hL2 hga hgb hqab hen hmd hKd hvl hsz H.size) (hm_cwV hts me_GrantServer_giveTokens wl_GrantServer_163 rfl rfl ⟨Nat.le_of_ble_eq_true rfl, Nat.le_of_ble_eq_true rfl⟩) (hm_preVZ hZ hS hA hM hK g56 rfl) rfl rfl hl.1 rfl (lv_room (Nat.le_of_ble_eq_true rfl)) d_GrantServer_exchange_158 ⟨Nat.le_of_ble_eq_true rfl, Nat.le_of_ble_eq_true rfl⟩) (fun r106 f104 H locs p105 hM hS => ?_)
                  obtain ⟨x107, x108, rfl, h109, h110, h111, g112, g113, g114, g115, g116, g117, g118, g119, g120, g121, g122, hfr123⟩ := p105
                  have g124 : f104 q = some (.inr (3, gV (upd (w 0 i) 6 1) (some q21))) := hfr123 _ _ (hm_neI g53 g56 (by decide)) (hm_neI g53 g59 (by decide)) (hm_neA g53 g62) hq1 (hm_neI g53 g65 (by decide)) (hm_neA g53 g68) hq2 (hm_neI g53 g79 (by decide)) (hm_neA g53 g82) (hm_neI g53 g85 (by decide)) (hm_neA g53 g88) g53
                  have g125 : f104 q21 = some (.inr (2, [.int (nI (vl 4)), .int (nI (vl 1)), .int 0])) := hfr123 _ _ ((hm_ne0 hh z24).symm) ((hm_ne0 hs1 z24).symm) ((hm_ne0 hr1 z24).symm) ((hm_ne0 hqa z24).symm) ((hm_ne0 hs2 z24).symm) ((hm_ne0 hr2 z24).symm) ((hm_ne0 hqb z24).symm) ((hm_ne0 ht2 z24).symm) ((hm_ne0 ha2 z24).symm) ((hm_ne0 ht1 z24).symm) ((hm_ne0 ha1 z24).symm) g76
                  exact hm_iret X hQ hr hlk hK hM hS d_GrantServer_exchange_161 ⟨q21, x107, x108, z24, rfl, h109, h110, h111, g112, g113, g114, g115, g116, g117, g118, g119, g120, g121, g122, g124, g125, (fun zq zx n0 n1 n2 n3 n4 n5 n6 n7 n8 n9 n10 n11 hq => by have t0 := hq; have u1 := hm_ne0 t0 z24; have t1 := hm_keep e23 u1 t0; have t2 := hfr46 _ _ u1 t1; have t3 := hm_keep e49 n11 t2; have t4 := hm_keep e52 n11 t3; have t5 := hfr123 _ _ n0 n1 n2 n3 n4 n5 n6 n7 n8 n9 n10 t4; exact t5)⟩
                · exact absurd k4 h20
              · exact absurd k3 h16
        · exact absurd hw6 h7
      · exact absurd (nI_le (b := 3) hau2 (by decide)) h3
  · exact absurd h1 hlog
set_option maxHeartbeats 4000000 in
set_option maxRecDepth 100000 in
theorem c_rf_nf (l : Launch) (D : va_G) (k : Nat → ClassId) (f : hm) (h : Nat) (u : Nat → Int32) (ad : Nat → Nat) (us : Nat → Nat) (g : Nat → Nat → Option Nat) (w : Nat → Nat → Nat → Int32) (m1 : Nat → Nat → Option Nat) (co : Int32) (sc : Int32) (x : Int32) (hh : f h = some (.inr (0, gsV u ad))) (hs1 : f (ad 5) = some (.inr (4, [.ref (ad 15), .int (nI (us 1))]))) (hr1 : f (ad 15) = some (.inl (k 3, 24, .inr (.inr (.inr (.inr (g 1))))))) (hlog : ¬ u 13 = -1) (hu1 : us 1 ≤ 24) (hrows1 : ∀ i, i < us 1 → ∃ q, g 1 i = some q ∧ f q = some (.inr (3, gV (w 1 i) (m1 1 i)))) (hfi : z_fi (w 1) co (us 1) 0 = none) : hm_Mi l D vwCl (tyL k) y_GrantServer_refresh (Cond.code y_GrantServer_refresh b_GrantServer_refresh 7 (some .int) :: TB) ({ frames := 2, cells := 0, slots := 0, locals := 45 }) [.ref h, .int co, .int sc, .int x] f (fun (r : Int32) (f1 : hm) => (-3) = r ∧ f = f1) 0 0 := by
  refine hm_enter (Qc := fun sz => va_Qi _ (hm_R D vwCl (tyL k) f sz) (hm_A f sz)) (by decide) rfl (Nat.le_of_ble_eq_true rfl) ?_
  intro pg e s m below meth cd ls X0 hr hlk hin hK hM hS hA hl Q hQ
  have X : CallFix pg m cd b_GrantServer_refresh 7 s ([.ref h, .int co, .int sc, .int x] : List Value).toArray TB R_GrantServer := ⟨X0.1, X0.2.1, X0.2.2.1, X0.2.2.2.1, fun w h => X0.2.2.2.2 w (List.mem_cons_of_mem _ h)⟩
  have hx := X.1; have hb := X.2.1; have hml := X.2.2.1; have hown := X.2.2.2.1; have hts := X.2.2.2.2
  have hl : lv_has ls 7 [(0, .ref h), (1, .int co), (2, .int sc), (3, .int x)] := hl
  refine lv_aload_n hx hb d_GrantServer_refresh_0 rfl (lv_at hl 0 rfl) ?_
  refine hm_get X hK hM hh fl_GrantServer_54 (v := .int (u 13)) rfl d_GrantServer_refresh_1 ?_
  refine lv_iconst (v := (-1)) hx hb d_GrantServer_refresh_4 (by decide) ?_
  refine lv_icmp_ne (tgt := 11) hx hb d_GrantServer_refresh_5 (by decide) (fun h1 => ?_) (fun h1 => ?_)
  · refine lv_aload_n hx hb d_GrantServer_refresh_11 rfl (lv_at hl 0 rfl) ?_
    refine hm_get X hK hM hh fl_GrantServer_24 (v := .ref (ad 5)) rfl d_GrantServer_refresh_12 ?_
    refine lv_iload_n hx hb d_GrantServer_refresh_15 rfl (lv_at hl 1 rfl) ?_
    refine lv_aload_n hx hb d_GrantServer_refresh_16 rfl (lv_at hl 0 rfl) ?_
    refine hm_get X hK hM hh fl_GrantServer_54 (v := .int (u 13)) rfl d_GrantServer_refresh_17 ?_
    refine hm_callq hS hM hA (va_runV (As := [.int co, .int (u 13)]) (rest := []) X (c_findOwned_no l D k f (ad 5) (ad 15) 24 (us 1) (g 1) (w 1) (m1 1) co (u 13) hs1 hr1 hu1 (by decide) hrows1 hfi s.heap.size) (hm_cwV hts me_Shelf_findOwned wl_GrantServer_129 rfl rfl ⟨Nat.le_of_ble_eq_true rfl, Nat.le_of_ble_eq_true rfl⟩) (hm_preV hM hK hs1 rfl) rfl rfl hl.1 rfl (lv_room (Nat.le_of_ble_eq_true rfl)) d_GrantServer_refresh_20 ⟨Nat.le_of_ble_eq_true rfl, Nat.le_of_ble_eq_true rfl⟩) (fun r4 f2 H locs p3 hM hS => ?_)
    obtain ⟨rfl, rfl⟩ := p3
    refine lv_astoreN (lv' := [(4, .null), (0, .ref h), (1, .int co), (2, .int sc), (3, .int x)]) hx hb d_GrantServer_refresh_23 hl (by decide) rfl (fun ls hl => ?_)
    refine lv_aloadN hx hb d_GrantServer_refresh_25 (lv_at hl 0 rfl) ?_
    refine lv_ifnonnullN hx hb d_GrantServer_refresh_27 ?_
    refine lv_bipush (v := (-3)) hx hb d_GrantServer_refresh_30 (by decide) ?_
    exact hm_iret X hQ hr hlk hK hM hS d_GrantServer_refresh_32 ⟨rfl, rfl⟩
  · exact absurd h1 hlog
set_option maxHeartbeats 4000000 in
set_option maxRecDepth 100000 in
theorem c_rf_own (l : Launch) (D : va_G) (k : Nat → ClassId) (f : hm) (h : Nat) (u : Nat → Int32) (ad : Nat → Nat) (us : Nat → Nat) (g : Nat → Nat → Option Nat) (w : Nat → Nat → Nat → Int32) (m1 : Nat → Nat → Option Nat) (co : Int32) (sc : Int32) (x : Int32) (i : Nat) (q : Nat) (hh : f h = some (.inr (0, gsV u ad))) (hs1 : f (ad 5) = some (.inr (4, [.ref (ad 15), .int (nI (us 1))]))) (hr1 : f (ad 15) = some (.inl (k 3, 24, .inr (.inr (.inr (.inr (g 1))))))) (hq : f q = some (.inr (3, gV (w 1 i) (m1 1 i)))) (hlog : ¬ u 13 = -1) (hu1 : us 1 ≤ 24) (hrows1 : ∀ i, i < us 1 → ∃ q, g 1 i = some q ∧ f q = some (.inr (3, gV (w 1 i) (m1 1 i)))) (hfi : z_fi (w 1) co (us 1) 0 = some i) (hgq : g 1 i = some q) (ho : ¬ w 1 i 1 = u 13) : hm_Mi l D vwCl (tyL k) y_GrantServer_refresh (Cond.code y_GrantServer_refresh b_GrantServer_refresh 7 (some .int) :: TB) ({ frames := 2, cells := 0, slots := 0, locals := 45 }) [.ref h, .int co, .int sc, .int x] f (fun (r : Int32) (f1 : hm) => (-3) = r ∧ f = f1) 0 0 := by
  refine hm_enter (Qc := fun sz => va_Qi _ (hm_R D vwCl (tyL k) f sz) (hm_A f sz)) (by decide) rfl (Nat.le_of_ble_eq_true rfl) ?_
  intro pg e s m below meth cd ls X0 hr hlk hin hK hM hS hA hl Q hQ
  have X : CallFix pg m cd b_GrantServer_refresh 7 s ([.ref h, .int co, .int sc, .int x] : List Value).toArray TB R_GrantServer := ⟨X0.1, X0.2.1, X0.2.2.1, X0.2.2.2.1, fun w h => X0.2.2.2.2 w (List.mem_cons_of_mem _ h)⟩
  have hx := X.1; have hb := X.2.1; have hml := X.2.2.1; have hown := X.2.2.2.1; have hts := X.2.2.2.2
  have hl : lv_has ls 7 [(0, .ref h), (1, .int co), (2, .int sc), (3, .int x)] := hl
  refine lv_aload_n hx hb d_GrantServer_refresh_0 rfl (lv_at hl 0 rfl) ?_
  refine hm_get X hK hM hh fl_GrantServer_54 (v := .int (u 13)) rfl d_GrantServer_refresh_1 ?_
  refine lv_iconst (v := (-1)) hx hb d_GrantServer_refresh_4 (by decide) ?_
  refine lv_icmp_ne (tgt := 11) hx hb d_GrantServer_refresh_5 (by decide) (fun h1 => ?_) (fun h1 => ?_)
  · refine lv_aload_n hx hb d_GrantServer_refresh_11 rfl (lv_at hl 0 rfl) ?_
    refine hm_get X hK hM hh fl_GrantServer_24 (v := .ref (ad 5)) rfl d_GrantServer_refresh_12 ?_
    refine lv_iload_n hx hb d_GrantServer_refresh_15 rfl (lv_at hl 1 rfl) ?_
    refine lv_aload_n hx hb d_GrantServer_refresh_16 rfl (lv_at hl 0 rfl) ?_
    refine hm_get X hK hM hh fl_GrantServer_54 (v := .int (u 13)) rfl d_GrantServer_refresh_17 ?_
    refine hm_callq hS hM hA (va_runV (As := [.int co, .int (u 13)]) (rest := []) X (c_findOwned_bad l D k f (ad 5) (ad 15) 24 (us 1) (g 1) (w 1) (m1 1) i q co (u 13) hs1 hr1 hq hu1 (by decide) hrows1 hfi hgq ho s.heap.size) (hm_cwV hts me_Shelf_findOwned wl_GrantServer_129 rfl rfl ⟨Nat.le_of_ble_eq_true rfl, Nat.le_of_ble_eq_true rfl⟩) (hm_preV hM hK hs1 rfl) rfl rfl hl.1 rfl (lv_room (Nat.le_of_ble_eq_true rfl)) d_GrantServer_refresh_20 ⟨Nat.le_of_ble_eq_true rfl, Nat.le_of_ble_eq_true rfl⟩) (fun r4 f2 H locs p3 hM hS => ?_)
    obtain ⟨rfl, rfl⟩ := p3
    refine lv_astoreN (lv' := [(4, .null), (0, .ref h), (1, .int co), (2, .int sc), (3, .int x)]) hx hb d_GrantServer_refresh_23 hl (by decide) rfl (fun ls hl => ?_)
    refine lv_aloadN hx hb d_GrantServer_refresh_25 (lv_at hl 0 rfl) ?_
    refine lv_ifnonnullN hx hb d_GrantServer_refresh_27 ?_
    refine lv_bipush (v := (-3)) hx hb d_GrantServer_refresh_30 (by decide) ?_
    exact hm_iret X hQ hr hlk hK hM hS d_GrantServer_refresh_32 ⟨rfl, rfl⟩
  · exact absurd h1 hlog
set_option maxHeartbeats 4000000 in
set_option maxRecDepth 100000 in
theorem c_rf_rep (l : Launch) (D : va_G) (k : Nat → ClassId) (f : hm) (h : Nat) (u : Nat → Int32) (ad : Nat → Nat) (us : Nat → Nat) (g : Nat → Nat → Option Nat) (w : Nat → Nat → Nat → Int32) (m1 : Nat → Nat → Option Nat) (co : Int32) (sc : Int32) (x : Int32) (i : Nat) (q : Nat) (qf : Nat) (fs : Int32) (fa : Int32) (fv : Int32) (hh : f h = some (.inr (0, gsV u ad))) (hs1 : f (ad 5) = some (.inr (4, [.ref (ad 15), .int (nI (us 1))]))) (hr1 : f (ad 15) = some (.inl (k 3, 24, .inr (.inr (.inr (.inr (g 1))))))) (hq : f q = some (.inr (3, gV (w 1 i) (m1 1 i)))) (hqf : f qf = some (.inr (2, [.int fs, .int fa, .int fv]))) (hlog : ¬ u 13 = -1) (hu1 : us 1 ≤ 24) (hrows1 : ∀ i, i < us 1 → ∃ q, g 1 i = some q ∧ f q = some (.inr (3, gV (w 1 i) (m1 1 i)))) (hfi : z_fi (w 1) co (us 1) 0 = some i) (hgq : g 1 i = some q) (ho : w 1 i 1 = u 13) (hw6 : ¬ w 1 i 6 = 0) (hmm9 : m1 1 i = some qf) : hm_Mi l D vwCl (tyL k) y_GrantServer_refresh (Cond.code y_GrantServer_refresh b_GrantServer_refresh 7 (some .int) :: TB) ({ frames := 2, cells := 0, slots := 0, locals := 45 }) [.ref h, .int co, .int sc, .int x] f (fun (r : Int32) (f1 : hm) => (-3) = r ∧ f1 qf = some (.inr (2, [.int fs, .int fa, .int 1])) ∧ ∀ (zq : Nat) (zx : va_E), zq ≠ qf → f zq = some zx → f1 zq = some zx) 0 0 := by
  refine hm_enter (Qc := fun sz => va_Qi _ (hm_R D vwCl (tyL k) f sz) (hm_A f sz)) (by decide) rfl (Nat.le_of_ble_eq_true rfl) ?_
  intro pg e s m below meth cd ls X0 hr hlk hin hK hM hS hA hl Q hQ
  have X : CallFix pg m cd b_GrantServer_refresh 7 s ([.ref h, .int co, .int sc, .int x] : List Value).toArray TB R_GrantServer := ⟨X0.1, X0.2.1, X0.2.2.1, X0.2.2.2.1, fun w h => X0.2.2.2.2 w (List.mem_cons_of_mem _ h)⟩
  have hx := X.1; have hb := X.2.1; have hml := X.2.2.1; have hown := X.2.2.2.1; have hts := X.2.2.2.2
  have hl : lv_has ls 7 [(0, .ref h), (1, .int co), (2, .int sc), (3, .int x)] := hl
  refine lv_aload_n hx hb d_GrantServer_refresh_0 rfl (lv_at hl 0 rfl) ?_
  refine hm_get X hK hM hh fl_GrantServer_54 (v := .int (u 13)) rfl d_GrantServer_refresh_1 ?_
  refine lv_iconst (v := (-1)) hx hb d_GrantServer_refresh_4 (by decide) ?_
  refine lv_icmp_ne (tgt := 11) hx hb d_GrantServer_refresh_5 (by decide) (fun h1 => ?_) (fun h1 => ?_)
  · refine lv_aload_n hx hb d_GrantServer_refresh_11 rfl (lv_at hl 0 rfl) ?_
    refine hm_get X hK hM hh fl_GrantServer_24 (v := .ref (ad 5)) rfl d_GrantServer_refresh_12 ?_
    refine lv_iload_n hx hb d_GrantServer_refresh_15 rfl (lv_at hl 1 rfl) ?_
    refine lv_aload_n hx hb d_GrantServer_refresh_16 rfl (lv_at hl 0 rfl) ?_
    refine hm_get X hK hM hh fl_GrantServer_54 (v := .int (u 13)) rfl d_GrantServer_refresh_17 ?_
    refine hm_callq hS hM hA (va_runV (As := [.int co, .int (u 13)]) (rest := []) X (c_findOwned l D k f (ad 5) (ad 15) 24 (us 1) (g 1) (w 1) (m1 1) i q co (u 13) hs1 hr1 hq hu1 (by decide) hrows1 hfi hgq ho s.heap.size) (hm_cwV hts me_Shelf_findOwned wl_GrantServer_129 rfl rfl ⟨Nat.le_of_ble_eq_true rfl, Nat.le_of_ble_eq_true rfl⟩) (hm_preV hM hK hs1 rfl) rfl rfl hl.1 rfl (lv_room (Nat.le_of_ble_eq_true rfl)) d_GrantServer_refresh_20 ⟨Nat.le_of_ble_eq_true rfl, Nat.le_of_ble_eq_true rfl⟩) (fun r4 f2 H locs p3 hM hS => ?_)
    obtain ⟨rfl, rfl⟩ := p3
    refine lv_astore (lv' := [(4, .ref q), (0, .ref h), (1, .int co), (2, .int sc), (3, .int x)]) hx hb d_GrantServer_refresh_23 hl (by decide) rfl (fun ls hl => ?_)
    refine lv_aload hx hb d_GrantServer_refresh_25 (lv_at hl 0 rfl) ?_
    refine lv_ifnonnull (tgt := 33) hx hb d_GrantServer_refresh_27 (by decide) ?_
    refine lv_aload hx hb d_GrantServer_refresh_33 (lv_at hl 0 rfl) ?_
    refine hm_get X hK hM hq fl_GrantServer_133 (v := .int ((w 1 i) 6)) rfl d_GrantServer_refresh_35 ?_
    refine lv_if_eq (tgt := 49) hx hb d_GrantServer_refresh_38 (by decide) (fun h5 => ?_) (fun h5 => ?_)
    · exact absurd h5 hw6
    · refine lv_aload hx hb d_GrantServer_refresh_41 (lv_at hl 0 rfl) ?_
      refine hm_callv hS hM hA (va_runV (As := []) (rest := []) X (c_revokeFamily l D k f q (w 1 i) (m1 1 i) qf fs fa fv hq hqf hmm9 H.size) (hm_cwV hts me_Grant_revokeFamily wl_GrantServer_137 rfl rfl ⟨Nat.le_of_ble_eq_true rfl, Nat.le_of_ble_eq_true rfl⟩) (hm_preV hM hK hq rfl) rfl rfl hl.1 rfl (lv_room (Nat.le_of_ble_eq_true rfl)) d_GrantServer_refresh_43 ⟨Nat.le_of_ble_eq_true rfl, Nat.le_of_ble_eq_true rfl⟩) (fun f6 H locs p7 hM hS => ?_)
      obtain ⟨g8, hfr9⟩ := p7
      refine lv_bipush (v := (-3)) hx hb d_GrantServer_refresh_46 (by decide) ?_
      exact hm_iret X hQ hr hlk hK hM hS d_GrantServer_refresh_48 ⟨rfl, g8, (fun zq zx n0 hq => by have t0 := hq; have t1 := hfr9 _ _ n0 t0; exact t1)⟩
  · exact absurd h1 hlog
set_option maxHeartbeats 4000000 in
set_option maxRecDepth 100000 in
theorem c_rf_no (l : Launch) (D : va_G) (k : Nat → ClassId) (f : hm) (h : Nat) (u : Nat → Int32) (ad : Nat → Nat) (us : Nat → Nat) (g : Nat → Nat → Option Nat) (w : Nat → Nat → Nat → Int32) (m1 : Nat → Nat → Option Nat) (co : Int32) (sc : Int32) (x : Int32) (i : Nat) (q : Nat) (qf : Nat) (fs : Int32) (fa : Int32) (fv : Int32) (hh : f h = some (.inr (0, gsV u ad))) (hs0 : f (ad 4) = some (.inr (4, [.ref (ad 14), .int (nI (us 0))]))) (hr0 : f (ad 14) = some (.inl (k 3, 16, .inr (.inr (.inr (.inr (g 0))))))) (hs1 : f (ad 5) = some (.inr (4, [.ref (ad 15), .int (nI (us 1))]))) (hr1 : f (ad 15) = some (.inl (k 3, 24, .inr (.inr (.inr (.inr (g 1))))))) (hs2 : f (ad 6) = some (.inr (4, [.ref (ad 16), .int (nI (us 2))]))) (hr2 : f (ad 16) = some (.inl (k 3, 24, .inr (.inr (.inr (.inr (g 2))))))) (hq : f q = some (.inr (3, gV (w 1 i) (m1 1 i)))) (hqf : f qf = some (.inr (2, [.int fs, .int fa, .int fv]))) (hlog : ¬ u 13 = -1) (hu1 : us 1 ≤ 24) (hrows1 : ∀ i, i < us 1 → ∃ q, g 1 i = some q ∧ f q = some (.inr (3, gV (w 1 i) (m1 1 i)))) (hfi : z_fi (w 1) co (us 1) 0 = some i) (hgq : g 1 i = some q) (ho : w 1 i 1 = u 13) (hw6 : w 1 i 6 = 0) (hmm9 : m1 1 i = some qf) (hu0 : us 0 ≤ 16) (hrows0 : ∀ i, i < us 0 → ∃ q, g 0 i = some q ∧ f q = some (.inr (3, gV (w 0 i) (m1 0 i)))) (hu2 : us 2 ≤ 24) (hne : ¬ a_rf (z_act (w 1 i) (m1 1 i) fv (u 15)) sc fs (z_free ((z_fi (w 0) x (us 0) 0).bind (g 0)) ((z_fi (w 1) x (us 1) 0).bind (g 1)) x) (z_full (us 1) 24) (z_full (us 2) 24) = 0) : hm_Mi l D vwCl (tyL k) y_GrantServer_refresh (Cond.code y_GrantServer_refresh b_GrantServer_refresh 7 (some .int) :: TB) ({ frames := 3, cells := 0, slots := 0, locals := 64 }) [.ref h, .int co, .int sc, .int x] f (fun (r : Int32) (f1 : hm) => a_rf (z_act (w 1 i) (m1 1 i) fv (u 15)) sc fs (z_free ((z_fi (w 0) x (us 0) 0).bind (g 0)) ((z_fi (w 1) x (us 1) 0).bind (g 1)) x) (z_full (us 1) 24) (z_full (us 2) 24) = r ∧ f = f1) 0 0 := by
  refine hm_enter (Qc := fun sz => va_Qi _ (hm_R D vwCl (tyL k) f sz) (hm_A f sz)) (by decide) rfl (Nat.le_of_ble_eq_true rfl) ?_
  intro pg e s m below meth cd ls X0 hr hlk hin hK hM hS hA hl Q hQ
  have X : CallFix pg m cd b_GrantServer_refresh 7 s ([.ref h, .int co, .int sc, .int x] : List Value).toArray TB R_GrantServer := ⟨X0.1, X0.2.1, X0.2.2.1, X0.2.2.2.1, fun w h => X0.2.2.2.2 w (List.mem_cons_of_mem _ h)⟩
  have hx := X.1; have hb := X.2.1; have hml := X.2.2.1; have hown := X.2.2.2.1; have hts := X.2.2.2.2
  have hl : lv_has ls 7 [(0, .ref h), (1, .int co), (2, .int sc), (3, .int x)] := hl
  refine lv_aload_n hx hb d_GrantServer_refresh_0 rfl (lv_at hl 0 rfl) ?_
  refine hm_get X hK hM hh fl_GrantServer_54 (v := .int (u 13)) rfl d_GrantServer_refresh_1 ?_
  refine lv_iconst (v := (-1)) hx hb d_GrantServer_refresh_4 (by decide) ?_
  refine lv_icmp_ne (tgt := 11) hx hb d_GrantServer_refresh_5 (by decide) (fun h1 => ?_) (fun h1 => ?_)
  · refine lv_aload_n hx hb d_GrantServer_refresh_11 rfl (lv_at hl 0 rfl) ?_
    refine hm_get X hK hM hh fl_GrantServer_24 (v := .ref (ad 5)) rfl d_GrantServer_refresh_12 ?_
    refine lv_iload_n hx hb d_GrantServer_refresh_15 rfl (lv_at hl 1 rfl) ?_
    refine lv_aload_n hx hb d_GrantServer_refresh_16 rfl (lv_at hl 0 rfl) ?_
    refine hm_get X hK hM hh fl_GrantServer_54 (v := .int (u 13)) rfl d_GrantServer_refresh_17 ?_
    refine hm_callq hS hM hA (va_runV (As := [.int co, .int (u 13)]) (rest := []) X (c_findOwned l D k f (ad 5) (ad 15) 24 (us 1) (g 1) (w 1) (m1 1) i q co (u 13) hs1 hr1 hq hu1 (by decide) hrows1 hfi hgq ho s.heap.size) (hm_cwV hts me_Shelf_findOwned wl_GrantServer_129 rfl rfl ⟨Nat.le_of_ble_eq_true rfl, Nat.le_of_ble_eq_true rfl⟩) (hm_preV hM hK hs1 rfl) rfl rfl hl.1 rfl (lv_room (Nat.le_of_ble_eq_true rfl)) d_GrantServer_refresh_20 ⟨Nat.le_of_ble_eq_true rfl, Nat.le_of_ble_eq_true rfl⟩) (fun r4 f2 H locs p3 hM hS => ?_)
    obtain ⟨rfl, rfl⟩ := p3
    refine lv_astore (lv' := [(4, .ref q), (0, .ref h), (1, .int co), (2, .int sc), (3, .int x)]) hx hb d_GrantServer_refresh_23 hl (by decide) rfl (fun ls hl => ?_)
    refine lv_aload hx hb d_GrantServer_refresh_25 (lv_at hl 0 rfl) ?_
    refine lv_ifnonnull (tgt := 33) hx hb d_GrantServer_refresh_27 (by decide) ?_
    refine lv_aload hx hb d_GrantServer_refresh_33 (lv_at hl 0 rfl) ?_
    refine hm_get X hK hM hq fl_GrantServer_133 (v := .int ((w 1 i) 6)) rfl d_GrantServer_refresh_35 ?_
    refine lv_if_eq (tgt := 49) hx hb d_GrantServer_refresh_38 (by decide) (fun h5 => ?_) (fun h5 => ?_)
    · refine lv_aload hx hb d_GrantServer_refresh_49 (lv_at hl 0 rfl) ?_
      refine hm_get X hK hM hq fl_GrantServer_156 (v := va_rf (m1 1 i)) rfl d_GrantServer_refresh_51 ?_
      refine hm_ref hmm9 ?_
      refine lv_astore (lv' := [(5, .ref qf), (4, .ref q), (0, .ref h), (1, .int co), (2, .int sc), (3, .int x)]) hx hb d_GrantServer_refresh_54 hl (by decide) rfl (fun ls hl => ?_)
      refine lv_aload hx hb d_GrantServer_refresh_56 (lv_at hl 0 rfl) ?_
      refine lv_ifnull hx hb d_GrantServer_refresh_58 ?_
      refine lv_aload hx hb d_GrantServer_refresh_61 (lv_at hl 1 rfl) ?_
      refine lv_aload_n hx hb d_GrantServer_refresh_63 rfl (lv_at hl 2 rfl) ?_
      refine hm_get X hK hM hh fl_GrantServer_60 (v := .int (u 15)) rfl d_GrantServer_refresh_64 ?_
      refine hm_calli hS hM hA (va_runV (As := [.int (u 15)]) (rest := []) X (c_Grant_isActive l D k f q (w 1 i) (m1 1 i) fs fa fv (u 15) hq (fun z hz => by rw [hmm9] at hz; cases hz; exact hqf) H.size) (hm_cwV hts me_Grant_isActive wl_GrantServer_140 rfl rfl ⟨Nat.le_of_ble_eq_true rfl, Nat.le_of_ble_eq_true rfl⟩) (hm_preV hM hK hq rfl) rfl rfl hl.1 rfl (lv_room (Nat.le_of_ble_eq_true rfl)) d_GrantServer_refresh_67 ⟨Nat.le_of_ble_eq_true rfl, Nat.le_of_ble_eq_true rfl⟩) (fun r8 f6 H locs p7 hM hS => ?_)
      obtain ⟨rfl, rfl⟩ := p7
      refine lv_if_ne (tgt := 76) hx hb d_GrantServer_refresh_70 (by decide) (fun h9 => ?_) (fun h9 => ?_)
      · refine lv_iload_n hx hb d_GrantServer_refresh_76 rfl (lv_at hl 4 rfl) ?_
        refine lv_if_lt (tgt := 98) hx hb d_GrantServer_refresh_77 (by decide) (fun h10 => ?_) (fun h10 => ?_)
        · refine lv_bipush (v := (-4)) hx hb d_GrantServer_refresh_98 (by decide) ?_
          exact hm_iret X hQ hr hlk hK hM hS d_GrantServer_refresh_100 ⟨(Eq.trans (if_neg h9) (if_pos (Or.inl h10))), rfl⟩
        · refine lv_iload_n hx hb d_GrantServer_refresh_80 rfl (lv_at hl 4 rfl) ?_
          refine lv_bipush (v := 15) hx hb d_GrantServer_refresh_81 (by decide) ?_
          refine lv_icmp_gt (tgt := 98) hx hb d_GrantServer_refresh_83 (by decide) (fun h11 => ?_) (fun h11 => ?_)
          · refine lv_bipush (v := (-4)) hx hb d_GrantServer_refresh_98 (by decide) ?_
            exact hm_iret X hQ hr hlk hK hM hS d_GrantServer_refresh_100 ⟨(Eq.trans (if_neg h9) (if_pos (Or.inr (Or.inl h11)))), rfl⟩
          · refine lv_iload_n hx hb d_GrantServer_refresh_86 rfl (lv_at hl 4 rfl) ?_
            refine lv_aload hx hb d_GrantServer_refresh_87 (lv_at hl 0 rfl) ?_
            refine hm_get X hK hM hqf fl_GrantServer_167 (v := .int fs) rfl d_GrantServer_refresh_89 ?_
            refine hm_calli hS hM hA (va_runS (As := [.int sc, .int fs]) (rest := []) X (c_isWithin l D k f sc fs   H.size) (hm_cwS hts me_GrantServer_isWithin wl_GrantServer_104 rfl rfl ⟨Nat.le_of_ble_eq_true rfl, Nat.le_of_ble_eq_true rfl⟩) (hm_preS hM hK) rfl rfl hl.1 rfl (lv_room (Nat.le_of_ble_eq_true rfl)) d_GrantServer_refresh_92 ⟨Nat.le_of_ble_eq_true rfl, Nat.le_of_ble_eq_true rfl⟩) (fun r14 f12 H locs p13 hM hS => ?_)
            obtain ⟨rfl, rfl⟩ := p13
            refine lv_if_ne (tgt := 101) hx hb d_GrantServer_refresh_95 (by decide) (fun h15 => ?_) (fun h15 => ?_)
            · refine lv_aload_n hx hb d_GrantServer_refresh_101 rfl (lv_at hl 2 rfl) ?_
              refine lv_iload_n hx hb d_GrantServer_refresh_102 rfl (lv_at hl 5 rfl) ?_
              refine hm_calli hS hM hA (va_runV (As := [.int x]) (rest := []) X (c_refusal l D k f h u ad us g w m1 x hh hs0 hr0 hs1 hr1 hs2 hr2 hu0 hrows0 hu1 hrows1 hu2 H.size) (hm_cwV hts me_GrantServer_refusalOfNewTokens wl_GrantServer_147 rfl rfl ⟨Nat.le_of_ble_eq_true rfl, Nat.le_of_ble_eq_true rfl⟩) (hm_preV hM hK hh rfl) rfl rfl hl.1 rfl (lv_room (Nat.le_of_ble_eq_true rfl)) d_GrantServer_refresh_103 ⟨Nat.le_of_ble_eq_true rfl, Nat.le_of_ble_eq_true rfl⟩) (fun r18 f16 H locs p17 hM hS => ?_)
              obtain ⟨rfl, rfl⟩ := p17
              refine lv_istore (lv' := [(6, .int (a_ref (z_free ((z_fi (w 0) x (us 0) 0).bind (g 0)) ((z_fi (w 1) x (us 1) 0).bind (g 1)) x) (z_full (us 1) 24) (z_full (us 2) 24))), (5, .ref qf), (4, .ref q), (0, .ref h), (1, .int co), (2, .int sc), (3, .int x)]) hx hb d_GrantServer_refresh_106 hl (by decide) rfl (fun ls hl => ?_)
              refine lv_iload hx hb d_GrantServer_refresh_108 (lv_at hl 0 rfl) ?_
              refine lv_if_eq (tgt := 116) hx hb d_GrantServer_refresh_110 (by decide) (fun h19 => ?_) (fun h19 => ?_)
              · exact absurd (Eq.trans (if_neg h9) (Eq.trans (if_neg (fun z => z.elim h10 (fun z => z.elim h11 h15))) h19)) hne
              · refine lv_iload hx hb d_GrantServer_refresh_113 (lv_at hl 0 rfl) ?_
                exact hm_iret X hQ hr hlk hK hM hS d_GrantServer_refresh_115 ⟨(Eq.trans (if_neg h9) (if_neg (fun z => z.elim h10 (fun z => z.elim h11 h15)))), rfl⟩
            · refine lv_bipush (v := (-4)) hx hb d_GrantServer_refresh_98 (by decide) ?_
              exact hm_iret X hQ hr hlk hK hM hS d_GrantServer_refresh_100 ⟨(Eq.trans (if_neg h9) (if_pos (Or.inr (Or.inr h15)))), rfl⟩
      · refine lv_bipush (v := (-3)) hx hb d_GrantServer_refresh_73 (by decide) ?_
        exact hm_iret X hQ hr hlk hK hM hS d_GrantServer_refresh_75 ⟨(if_pos h9), rfl⟩
    · exact absurd hw6 h5
  · exact absurd h1 hlog
set_option maxHeartbeats 4000000 in
set_option maxRecDepth 100000 in
theorem c_rf (l : Launch) (D : va_G) (k : Nat → ClassId) (sA sV : Nat → Nat) (f : hm) (h : Nat) (u : Nat → Int32) (ad : Nat → Nat) (us : Nat → Nat) (g : Nat → Nat → Option Nat) (w : Nat → Nat → Nat → Int32) (m1 : Nat → Nat → Option Nat) (co : Int32) (sc : Int32) (x : Int32) (i : Nat) (q : Nat) (qf : Nat) (fs : Int32) (fv : Int32) (qa : Nat) (wa : Nat → Int32) (ma : Option Nat) (qb : Nat) (wb : Nat → Int32) (mb : Option Nat) (n9 : Int32) (y9i : Nat → Int32) (n8 : Int32) (y8 : Nat → Int32) (ky : Int32) (vl : Nat → Nat) (K : Nat → Nat) (hh : f h = some (.inr (0, gsV u ad))) (hs0 : f (ad 4) = some (.inr (4, [.ref (ad 14), .int (nI (us 0))]))) (hr0 : f (ad 14) = some (.inl (k 3, 16, .inr (.inr (.inr (.inr (g 0))))))) (hs1 : f (ad 5) = some (.inr (4, [.ref (ad 15), .int (nI (us 1))]))) (hr1 : f (ad 15) = some (.inl (k 3, 24, .inr (.inr (.inr (.inr (g 1))))))) (hs2 : f (ad 6) = some (.inr (4, [.ref (ad 16), .int (nI (us 2))]))) (hr2 : f (ad 16) = some (.inl (k 3, 24, .inr (.inr (.inr (.inr (g 2))))))) (hq : f q = some (.inr (3, gV (w 1 i) (m1 1 i)))) (hqf : f qf = some (.inr (2, [.int fs, .int (nI (vl 1)), .int fv]))) (hqa : f qa = some (.inr (3, gV wa ma))) (hqb : f qb = some (.inr (3, gV wb mb))) (ht2 : f (ad 9) = some (.inr (5, [.ref (ad 19), .int n9]))) (ha2 : f (ad 19) = some (.inl (k 2, 120, .inl y9i))) (ht1 : f (ad 8) = some (.inr (5, [.ref (ad 18), .int n8]))) (ha1 : f (ad 18) = some (.inl (k 2, 120, .inl y8))) (hw : f (ad 11) = some (.inr (6, [.int ky]))) (hap : gs_ap ad) (hlog : ¬ u 13 = -1) (hu1 : us 1 ≤ 24) (hrows1 : ∀ i, i < us 1 → ∃ q, g 1 i = some q ∧ f q = some (.inr (3, gV (w 1 i) (m1 1 i)))) (hfi : z_fi (w 1) co (us 1) 0 = some i) (hgq : g 1 i = some q) (ho : w 1 i 1 = u 13) (hw6 : w 1 i 6 = 0) (hmm9 : m1 1 i = some qf) (hu0 : us 0 ≤ 16) (hrows0 : ∀ i, i < us 0 → ∃ q, g 0 i = some q ∧ f q = some (.inr (3, gV (w 0 i) (m1 0 i)))) (hu2 : us 2 ≤ 24) (hok0 : a_rf (z_act (w 1 i) (m1 1 i) fv (u 15)) sc fs (z_free ((z_fi (w 0) x (us 0) 0).bind (g 0)) ((z_fi (w 1) x (us 1) 0).bind (g 1)) x) (z_full (us 1) 24) (z_full (us 2) 24) = 0) (ho0 : w 1 i 1 = nI (vl 0)) (hs4 : (if sc = 0 then fs else sc) = nI (vl 4)) (hga : g 1 (us 1) = some qa) (hgb : g 2 (us 2) = some qb) (hqab : qa ≠ qb) (hq1 : q ≠ qa) (hq2 : q ≠ qb) (hen : u 15 + u 1 = nI (vl 2)) (hmd : u 14 + 1 = nI (vl 3)) (hKd : ∀ i, i < 5 → z_dg (vl i) (K i)) (hvl : ∀ i, i < 5 → vl i < 2 ^ 31) (hsz : z_tot K ≤ 81) : hm_MiZ l sA sV D vwCl (tyL k) y_GrantServer_refresh (Cond.code y_GrantServer_refresh b_GrantServer_refresh 7 (some .int) :: TB) ({ frames := 7, cells := 0, slots := 0, locals := 159 }) [.ref h, .int co, .int sc, .int x] f (fun (r : Int32) (f1 : hm) => ∃ (y9 : Nat → Int32) (y2 : Nat → Int32), nI (vl 3) = r ∧ (∀ i, i < (z_tot K * 8 + 5) / 6 → y2 i = nI (st_chr 6 (z_six (z_tot K) (z_ct vl K) i))) ∧ (y2 ((z_tot K * 8 + 5) / 6) = 46) ∧ (∀ i, i < 10 → y2 ((z_tot K * 8 + 5) / 6 + 1 + i) = nI (st_chr 6 (z_ss (z_seal ky.toInt64 y2 ((z_tot K * 8 + 5) / 6)) i))) ∧ f1 h = some (.inr (0, gsV (upd u 14 (nI (vl 3))) ad)) ∧ f1 (ad 5) = some (.inr (4, [.ref (ad 15), .int (nI (us 1 + 1))])) ∧ f1 (ad 15) = some (.inl (k 3, 24, .inr (.inr (.inr (.inr (g 1)))))) ∧ f1 qa = some (.inr (3, gV (upd (upd (upd (upd (upd (upd wa 0 x) 1 (nI (vl 0))) 2 fs) 3 (u 15 + u 2)) 6 0) 7 0) (some qf))) ∧ f1 (ad 6) = some (.inr (4, [.ref (ad 16), .int (nI (us 2 + 1))])) ∧ f1 (ad 16) = some (.inl (k 3, 24, .inr (.inr (.inr (.inr (g 2)))))) ∧ f1 qb = some (.inr (3, gV (upd (upd (upd (upd (upd (upd wb 0 (nI (vl 3))) 1 (nI (vl 0))) 2 (nI (vl 4))) 3 (nI (vl 2))) 6 0) 7 0) (some qf))) ∧ f1 (ad 9) = some (.inr (5, [.ref (ad 19), .int (nI (z_tot K))])) ∧ f1 (ad 19) = some (.inl (k 2, 120, .inl y9)) ∧ f1 (ad 8) = some (.inr (5, [.ref (ad 18), .int (nI ((z_tot K * 8 + 5) / 6 + 11))])) ∧ f1 (ad 18) = some (.inl (k 2, 120, .inl y2)) ∧ f1 q = some (.inr (3, gV (upd (w 1 i) 6 1) (m1 1 i))) ∧ ∀ (zq : Nat) (zx : va_E), zq ≠ h → zq ≠ (ad 5) → zq ≠ (ad 15) → zq ≠ qa → zq ≠ (ad 6) → zq ≠ (ad 16) → zq ≠ qb → zq ≠ (ad 9) → zq ≠ (ad 19) → zq ≠ (ad 8) → zq ≠ (ad 18) → zq ≠ q → f zq = some zx → f1 zq = some zx) 0 0 := by
  refine hm_enterZ (Qc := fun sz => va_Qi _ (hm_R D vwCl (tyL k) f sz) (hm_A f sz)) (by decide) rfl (Nat.le_of_ble_eq_true rfl) ?_
  intro pg e s m below meth cd ls hZ X0 hr hlk hin hK hM hS hA hl Q hQ
  have X : CallFix pg m cd b_GrantServer_refresh 7 s ([.ref h, .int co, .int sc, .int x] : List Value).toArray TB R_GrantServer := ⟨X0.1, X0.2.1, X0.2.2.1, X0.2.2.2.1, fun w h => X0.2.2.2.2 w (List.mem_cons_of_mem _ h)⟩
  have hx := X.1; have hb := X.2.1; have hml := X.2.2.1; have hown := X.2.2.2.1; have hts := X.2.2.2.2
  have hl : lv_has ls 7 [(0, .ref h), (1, .int co), (2, .int sc), (3, .int x)] := hl
  obtain ⟨k1, k2, k3, k8, k4⟩ := a_rf_ok hok0
  obtain ⟨k5, k6, k7⟩ := a_ref_ok k4
  have hL1 : us 1 < 24 := z_full24.mp (Decidable.not_not.mp (fun z => k6 (z_full_b z)))
  have hL2 : us 2 < 24 := z_full24.mp (Decidable.not_not.mp (fun z => k7 (z_full_b z)))
  refine lv_aload_n hx hb d_GrantServer_refresh_0 rfl (lv_at hl 0 rfl) ?_
  refine hm_get X hK hM hh fl_GrantServer_54 (v := .int (u 13)) rfl d_GrantServer_refresh_1 ?_
  refine lv_iconst (v := (-1)) hx hb d_GrantServer_refresh_4 (by decide) ?_
  refine lv_icmp_ne (tgt := 11) hx hb d_GrantServer_refresh_5 (by decide) (fun h1 => ?_) (fun h1 => ?_)
  · refine lv_aload_n hx hb d_GrantServer_refresh_11 rfl (lv_at hl 0 rfl) ?_
    refine hm_get X hK hM hh fl_GrantServer_24 (v := .ref (ad 5)) rfl d_GrantServer_refresh_12 ?_
    refine lv_iload_n hx hb d_GrantServer_refresh_15 rfl (lv_at hl 1 rfl) ?_
    refine lv_aload_n hx hb d_GrantServer_refresh_16 rfl (lv_at hl 0 rfl) ?_
    refine hm_get X hK hM hh fl_GrantServer_54 (v := .int (u 13)) rfl d_GrantServer_refresh_17 ?_
    refine hm_callq hS hM hA (va_runV (As := [.int co, .int (u 13)]) (rest := []) X (c_findOwned l D k f (ad 5) (ad 15) 24 (us 1) (g 1) (w 1) (m1 1) i q co (u 13) hs1 hr1 hq hu1 (by decide) hrows1 hfi hgq ho s.heap.size) (hm_cwV hts me_Shelf_findOwned wl_GrantServer_129 rfl rfl ⟨Nat.le_of_ble_eq_true rfl, Nat.le_of_ble_eq_true rfl⟩) (hm_preV hM hK hs1 rfl) rfl rfl hl.1 rfl (lv_room (Nat.le_of_ble_eq_true rfl)) d_GrantServer_refresh_20 ⟨Nat.le_of_ble_eq_true rfl, Nat.le_of_ble_eq_true rfl⟩) (fun r4 f2 H locs p3 hM hS => ?_)
    obtain ⟨rfl, rfl⟩ := p3
    refine lv_astore (lv' := [(4, .ref q), (0, .ref h), (1, .int co), (2, .int sc), (3, .int x)]) hx hb d_GrantServer_refresh_23 hl (by decide) rfl (fun ls hl => ?_)
    refine lv_aload hx hb d_GrantServer_refresh_25 (lv_at hl 0 rfl) ?_
    refine lv_ifnonnull (tgt := 33) hx hb d_GrantServer_refresh_27 (by decide) ?_
    refine lv_aload hx hb d_GrantServer_refresh_33 (lv_at hl 0 rfl) ?_
    refine hm_get X hK hM hq fl_GrantServer_133 (v := .int ((w 1 i) 6)) rfl d_GrantServer_refresh_35 ?_
    refine lv_if_eq (tgt := 49) hx hb d_GrantServer_refresh_38 (by decide) (fun h5 => ?_) (fun h5 => ?_)
    · refine lv_aload hx hb d_GrantServer_refresh_49 (lv_at hl 0 rfl) ?_
      refine hm_get X hK hM hq fl_GrantServer_156 (v := va_rf (m1 1 i)) rfl d_GrantServer_refresh_51 ?_
      refine hm_ref hmm9 ?_
      refine lv_astore (lv' := [(5, .ref qf), (4, .ref q), (0, .ref h), (1, .int co), (2, .int sc), (3, .int x)]) hx hb d_GrantServer_refresh_54 hl (by decide) rfl (fun ls hl => ?_)
      refine lv_aload hx hb d_GrantServer_refresh_56 (lv_at hl 0 rfl) ?_
      refine lv_ifnull hx hb d_GrantServer_refresh_58 ?_
      refine lv_aload hx hb d_GrantServer_refresh_61 (lv_at hl 1 rfl) ?_
      refine lv_aload_n hx hb d_GrantServer_refresh_63 rfl (lv_at hl 2 rfl) ?_
      refine hm_get X hK hM hh fl_GrantServer_60 (v := .int (u 15)) rfl d_GrantServer_refresh_64 ?_
      refine hm_calli hS hM hA (va_runV (As := [.int (u 15)]) (rest := []) X (c_Grant_isActive l D k f q (w 1 i) (m1 1 i) fs (nI (vl 1)) fv (u 15) hq (fun z hz => by rw [hmm9] at hz; cases hz; exact hqf) H.size) (hm_cwV hts me_Grant_isActive wl_GrantServer_140 rfl rfl ⟨Nat.le_of_ble_eq_true rfl, Nat.le_of_ble_eq_true rfl⟩) (hm_preV hM hK hq rfl) rfl rfl hl.1 rfl (lv_room (Nat.le_of_ble_eq_true rfl)) d_GrantServer_refresh_67 ⟨Nat.le_of_ble_eq_true rfl, Nat.le_of_ble_eq_true rfl⟩) (fun r8 f6 H locs p7 hM hS => ?_)
      obtain ⟨rfl, rfl⟩ := p7
      refine lv_if_ne (tgt := 76) hx hb d_GrantServer_refresh_70 (by decide) (fun h9 => ?_) (fun h9 => ?_)
      · refine lv_iload_n hx hb d_GrantServer_refresh_76 rfl (lv_at hl 4 rfl) ?_
        refine lv_if_lt (tgt := 98) hx hb d_GrantServer_refresh_77 (by decide) (fun h10 => ?_) (fun h10 => ?_)
        · exact absurd h10 k2
        · refine lv_iload_n hx hb d_GrantServer_refresh_80 rfl (lv_at hl 4 rfl) ?_
          refine lv_bipush (v := 15) hx hb d_GrantServer_refresh_81 (by decide) ?_
          refine lv_icmp_gt (tgt := 98) hx hb d_GrantServer_refresh_83 (by decide) (fun h11 => ?_) (fun h11 => ?_)
          · exact absurd h11 k3
          · refine lv_iload_n hx hb d_GrantServer_refresh_86 rfl (lv_at hl 4 rfl) ?_
            refine lv_aload hx hb d_GrantServer_refresh_87 (lv_at hl 0 rfl) ?_
            refine hm_get X hK hM hqf fl_GrantServer_167 (v := .int fs) rfl d_GrantServer_refresh_89 ?_
            refine hm_calli hS hM hA (va_runS (As := [.int sc, .int fs]) (rest := []) X (c_isWithin l D k f sc fs   H.size) (hm_cwS hts me_GrantServer_isWithin wl_GrantServer_104 rfl rfl ⟨Nat.le_of_ble_eq_true rfl, Nat.le_of_ble_eq_true rfl⟩) (hm_preS hM hK) rfl rfl hl.1 rfl (lv_room (Nat.le_of_ble_eq_true rfl)) d_GrantServer_refresh_92 ⟨Nat.le_of_ble_eq_true rfl, Nat.le_of_ble_eq_true rfl⟩) (fun r14 f12 H locs p13 hM hS => ?_)
            obtain ⟨rfl, rfl⟩ := p13
            refine lv_if_ne (tgt := 101) hx hb d_GrantServer_refresh_95 (by decide) (fun h15 => ?_) (fun h15 => ?_)
            · refine lv_aload_n hx hb d_GrantServer_refresh_101 rfl (lv_at hl 2 rfl) ?_
              refine lv_iload_n hx hb d_GrantServer_refresh_102 rfl (lv_at hl 5 rfl) ?_
              refine hm_calli hS hM hA (va_runV (As := [.int x]) (rest := []) X (c_refusal l D k f h u ad us g w m1 x hh hs0 hr0 hs1 hr1 hs2 hr2 hu0 hrows0 hu1 hrows1 hu2 H.size) (hm_cwV hts me_GrantServer_refusalOfNewTokens wl_GrantServer_147 rfl rfl ⟨Nat.le_of_ble_eq_true rfl, Nat.le_of_ble_eq_true rfl⟩) (hm_preV hM hK hh rfl) rfl rfl hl.1 rfl (lv_room (Nat.le_of_ble_eq_true rfl)) d_GrantServer_refresh_103 ⟨Nat.le_of_ble_eq_true rfl, Nat.le_of_ble_eq_true rfl⟩) (fun r18 f16 H locs p17 hM hS => ?_)
              obtain ⟨rfl, rfl⟩ := p17
              refine lv_istore (lv' := [(6, .int (a_ref (z_free ((z_fi (w 0) x (us 0) 0).bind (g 0)) ((z_fi (w 1) x (us 1) 0).bind (g 1)) x) (z_full (us 1) 24) (z_full (us 2) 24))), (5, .ref qf), (4, .ref q), (0, .ref h), (1, .int co), (2, .int sc), (3, .int x)]) hx hb d_GrantServer_refresh_106 hl (by decide) rfl (fun ls hl => ?_)
              refine lv_iload hx hb d_GrantServer_refresh_108 (lv_at hl 0 rfl) ?_
              refine lv_if_eq (tgt := 116) hx hb d_GrantServer_refresh_110 (by decide) (fun h19 => ?_) (fun h19 => ?_)
              · refine lv_aload hx hb d_GrantServer_refresh_116 (lv_at hl 2 rfl) ?_
                refine lv_iconst (v := 1) hx hb d_GrantServer_refresh_118 (by decide) ?_
                refine hm_put X hK hM hS (fs' := gV (upd (w 1 i) 6 1) (m1 1 i)) hq fl_GrantServer_133 rfl rfl (Nat.le_of_ble_eq_true rfl) rfl d_GrantServer_refresh_119 (fun f20 H locs e21 hM hS => ?_)
                refine lv_aload_n hx hb d_GrantServer_refresh_122 rfl (lv_at hl 3 rfl) ?_
                refine lv_aload hx hb d_GrantServer_refresh_123 (lv_at hl 1 rfl) ?_
                refine lv_aload hx hb d_GrantServer_refresh_125 (lv_at hl 2 rfl) ?_
                have g22 : f20 q = some (.inr (3, gV (upd (w 1 i) 6 1) (m1 1 i))) := by rw [e21, hm_up_s]
                refine hm_get X hK hM g22 fl_GrantServer_160 (v := .int ((w 1 i) 1)) rfl d_GrantServer_refresh_127 ?_
                refine hm_top (z := nI (vl 0)) ho0 ?_
                refine lv_iload_n hx hb d_GrantServer_refresh_130 rfl (lv_at hl 5 rfl) ?_
                refine lv_if_ne (tgt := 142) hx hb d_GrantServer_refresh_131 (by decide) (fun h23 => ?_) (fun h23 => ?_)
                · refine lv_iload_n hx hb d_GrantServer_refresh_142 rfl (lv_at hl 5 rfl) ?_
                  refine hm_top (z := nI (vl 4)) (by have z := hs4; rw [if_neg h23] at z; exact z) ?_
                  refine lv_iload_n hx hb d_GrantServer_refresh_143 rfl (lv_at hl 6 rfl) ?_
                  have g24 : f20 h = some (.inr (0, gsV u ad)) := by rw [e21, hm_up_n (hm_neI hh hq (by decide))]; exact hh
                  have g25 : f20 (ad 5) = some (.inr (4, [.ref (ad 15), .int (nI (us 1))])) := by rw [e21, hm_up_n (hm_neI hs1 hq (by decide))]; exact hs1
                  have g26 : f20 (ad 15) = some (.inl (k 3, 24, .inr (.inr (.inr (.inr (g 1)))))) := by rw [e21, hm_up_n ((hm_neA hq hr1).symm)]; exact hr1
                  have g27 : f20 (ad 6) = some (.inr (4, [.ref (ad 16), .int (nI (us 2))])) := by rw [e21, hm_up_n (hm_neI hs2 hq (by decide))]; exact hs2
                  have g28 : f20 (ad 16) = some (.inl (k 3, 24, .inr (.inr (.inr (.inr (g 2)))))) := by rw [e21, hm_up_n ((hm_neA hq hr2).symm)]; exact hr2
                  have g29 : f20 qa = some (.inr (3, gV wa ma)) := by rw [e21, hm_up_n hq1.symm]; exact hqa
                  have g30 : f20 qb = some (.inr (3, gV wb mb)) := by rw [e21, hm_up_n hq2.symm]; exact hqb
                  have g31 : f20 qf = some (.inr (2, [.int fs, .int (nI (vl 1)), .int fv])) := by rw [e21, hm_up_n (hm_neI hqf hq (by decide))]; exact hqf
                  have g32 : f20 (ad 9) = some (.inr (5, [.ref (ad 19), .int n9])) := by rw [e21, hm_up_n (hm_neI ht2 hq (by decide))]; exact ht2
                  have g33 : f20 (ad 19) = some (.inl (k 2, 120, .inl y9i)) := by rw [e21, hm_up_n ((hm_neA hq ha2).symm)]; exact ha2
                  have g34 : f20 (ad 8) = some (.inr (5, [.ref (ad 18), .int n8])) := by rw [e21, hm_up_n (hm_neI ht1 hq (by decide))]; exact ht1
                  have g35 : f20 (ad 18) = some (.inl (k 2, 120, .inl y8)) := by rw [e21, hm_up_n ((hm_neA hq ha1).symm)]; exact ha1
                  have g36 : f20 (ad 11) = some (.inr (6, [.int ky])) := by rw [e21, hm_up_n (hm_neI hw hq (by decide))]; exact hw
                  have g37 : f20 (ad 4) = some (.inr (4, [.ref (ad 14), .int (nI (us 0))])) := by rw [e21, hm_up_n (hm_neI hs0 hq (by decide))]; exact hs0
                  have g38 : f20 (ad 14) = some (.inl (k 3, 16, .inr (.inr (.inr (.inr (g 0)))))) := by rw [e21, hm_up_n ((hm_neA hq hr0).symm)]; exact hr0
                  refine hm_calli hS hM hA (va_runV (As := [.ref qf, .int (nI (vl 0)), .int (nI (vl 4)), .int x]) (rest := []) X (c_giveTokens l D k sA sV f20 h u ad us g qa wa ma qb wb mb qf fs fv n9 y9i n8 y8 ky vl K x g24 g25 g26 g27 g28 g29 g30 g31 g32 g33 g34 g35 g36 hap hL1 hL2 hga hgb hqab hen hmd hKd hvl hsz H.size) (hm_cwV hts me_GrantServer_giveTokens wl_GrantServer_163 rfl rfl ⟨Nat.le_of_ble_eq_true rfl, Nat.le_of_ble_eq_true rfl⟩) (hm_preVZ hZ hS hA hM hK g24 rfl) rfl rfl hl.1 rfl (lv_room (Nat.le_of_ble_eq_true rfl)) d_GrantServer_refresh_144 ⟨Nat.le_of_ble_eq_true rfl, Nat.le_of_ble_eq_true rfl⟩) (fun r41 f39 H locs p40 hM hS => ?_)
                  obtain ⟨x42, x43, rfl, h44, h45, h46, g47, g48, g49, g50, g51, g52, g53, g54, g55, g56, g57, hfr58⟩ := p40
                  have g59 : f39 q = some (.inr (3, gV (upd (w 1 i) 6 1) (m1 1 i))) := hfr58 _ _ (hm_neI g22 g24 (by decide)) (hm_neI g22 g25 (by decide)) (hm_neA g22 g26) hq1 (hm_neI g22 g27 (by decide)) (hm_neA g22 g28) hq2 (hm_neI g22 g32 (by decide)) (hm_neA g22 g33) (hm_neI g22 g34 (by decide)) (hm_neA g22 g35) g22
                  exact hm_iret X hQ hr hlk hK hM hS d_GrantServer_refresh_147 ⟨x42, x43, rfl, h44, h45, h46, g47, g48, g49, g50, g51, g52, g53, g54, g55, g56, g57, g59, (fun zq zx n0 n1 n2 n3 n4 n5 n6 n7 n8 n9 n10 n11 hq => by have t0 := hq; have t1 := hm_keep e21 n11 t0; have t2 := hfr58 _ _ n0 n1 n2 n3 n4 n5 n6 n7 n8 n9 n10 t1; exact t2)⟩
                · refine lv_aload hx hb d_GrantServer_refresh_134 (lv_at hl 1 rfl) ?_
                  have g24 : f20 qf = some (.inr (2, [.int fs, .int (nI (vl 1)), .int fv])) := by rw [e21, hm_up_n (hm_neI hqf hq (by decide))]; exact hqf
                  refine hm_get X hK hM g24 fl_GrantServer_167 (v := .int fs) rfl d_GrantServer_refresh_136 ?_
                  refine lv_goto (tgt := 143) hx hb d_GrantServer_refresh_139 (by decide) ?_
                  refine hm_top (z := nI (vl 4)) (by have z := hs4; rw [if_pos h23] at z; exact z) ?_
                  refine lv_iload_n hx hb d_GrantServer_refresh_143 rfl (lv_at hl 6 rfl) ?_
                  have g25 : f20 h = some (.inr (0, gsV u ad)) := by rw [e21, hm_up_n (hm_neI hh hq (by decide))]; exact hh
                  have g26 : f20 (ad 5) = some (.inr (4, [.ref (ad 15), .int (nI (us 1))])) := by rw [e21, hm_up_n (hm_neI hs1 hq (by decide))]; exact hs1
                  have g27 : f20 (ad 15) = some (.inl (k 3, 24, .inr (.inr (.inr (.inr (g 1)))))) := by rw [e21, hm_up_n ((hm_neA hq hr1).symm)]; exact hr1
                  have g28 : f20 (ad 6) = some (.inr (4, [.ref (ad 16), .int (nI (us 2))])) := by rw [e21, hm_up_n (hm_neI hs2 hq (by decide))]; exact hs2
                  have g29 : f20 (ad 16) = some (.inl (k 3, 24, .inr (.inr (.inr (.inr (g 2)))))) := by rw [e21, hm_up_n ((hm_neA hq hr2).symm)]; exact hr2
                  have g30 : f20 qa = some (.inr (3, gV wa ma)) := by rw [e21, hm_up_n hq1.symm]; exact hqa
                  have g31 : f20 qb = some (.inr (3, gV wb mb)) := by rw [e21, hm_up_n hq2.symm]; exact hqb
                  have g32 : f20 (ad 9) = some (.inr (5, [.ref (ad 19), .int n9])) := by rw [e21, hm_up_n (hm_neI ht2 hq (by decide))]; exact ht2
                  have g33 : f20 (ad 19) = some (.inl (k 2, 120, .inl y9i)) := by rw [e21, hm_up_n ((hm_neA hq ha2).symm)]; exact ha2
                  have g34 : f20 (ad 8) = some (.inr (5, [.ref (ad 18), .int n8])) := by rw [e21, hm_up_n (hm_neI ht1 hq (by decide))]; exact ht1
                  have g35 : f20 (ad 18) = some (.inl (k 2, 120, .inl y8)) := by rw [e21, hm_up_n ((hm_neA hq ha1).symm)]; exact ha1
                  have g36 : f20 (ad 11) = some (.inr (6, [.int ky])) := by rw [e21, hm_up_n (hm_neI hw hq (by decide))]; exact hw
                  have g37 : f20 (ad 4) = some (.inr (4, [.ref (ad 14), .int (nI (us 0))])) := by rw [e21, hm_up_n (hm_neI hs0 hq (by decide))]; exact hs0
                  have g38 : f20 (ad 14) = some (.inl (k 3, 16, .inr (.inr (.inr (.inr (g 0)))))) := by rw [e21, hm_up_n ((hm_neA hq hr0).symm)]; exact hr0
                  refine hm_calli hS hM hA (va_runV (As := [.ref qf, .int (nI (vl 0)), .int (nI (vl 4)), .int x]) (rest := []) X (c_giveTokens l D k sA sV f20 h u ad us g qa wa ma qb wb mb qf fs fv n9 y9i n8 y8 ky vl K x g25 g26 g27 g28 g29 g30 g31 g24 g32 g33 g34 g35 g36 hap hL1 hL2 hga hgb hqab hen hmd hKd hvl hsz H.size) (hm_cwV hts me_GrantServer_giveTokens wl_GrantServer_163 rfl rfl ⟨Nat.le_of_ble_eq_true rfl, Nat.le_of_ble_eq_true rfl⟩) (hm_preVZ hZ hS hA hM hK g25 rfl) rfl rfl hl.1 rfl (lv_room (Nat.le_of_ble_eq_true rfl)) d_GrantServer_refresh_144 ⟨Nat.le_of_ble_eq_true rfl, Nat.le_of_ble_eq_true rfl⟩) (fun r41 f39 H locs p40 hM hS => ?_)
                  obtain ⟨x42, x43, rfl, h44, h45, h46, g47, g48, g49, g50, g51, g52, g53, g54, g55, g56, g57, hfr58⟩ := p40
                  have g59 : f39 q = some (.inr (3, gV (upd (w 1 i) 6 1) (m1 1 i))) := hfr58 _ _ (hm_neI g22 g25 (by decide)) (hm_neI g22 g26 (by decide)) (hm_neA g22 g27) hq1 (hm_neI g22 g28 (by decide)) (hm_neA g22 g29) hq2 (hm_neI g22 g32 (by decide)) (hm_neA g22 g33) (hm_neI g22 g34 (by decide)) (hm_neA g22 g35) g22
                  exact hm_iret X hQ hr hlk hK hM hS d_GrantServer_refresh_147 ⟨x42, x43, rfl, h44, h45, h46, g47, g48, g49, g50, g51, g52, g53, g54, g55, g56, g57, g59, (fun zq zx n0 n1 n2 n3 n4 n5 n6 n7 n8 n9 n10 n11 hq => by have t0 := hq; have t1 := hm_keep e21 n11 t0; have t2 := hfr58 _ _ n0 n1 n2 n3 n4 n5 n6 n7 n8 n9 n10 t1; exact t2)⟩
              · exact absurd k4 h19
            · exact absurd h15 k8
      · exact absurd h9 k1
    · exact absurd hw6 h5
  · exact absurd h1 hlog
set_option maxHeartbeats 4000000 in
set_option maxRecDepth 100000 in
theorem c_rv_no (l : Launch) (D : va_G) (k : Nat → ClassId) (f : hm) (h : Nat) (u : Nat → Int32) (ad : Nat → Nat) (x : Int32) (y : Int32) (hh : f h = some (.inr (0, gsV u ad))) (hlog : ¬ u 13 = -1) (hk1 : ¬ x = 1) (hk2 : ¬ x = 2) : hm_Mi l D vwCl (tyL k) y_GrantServer_revoke (Cond.code y_GrantServer_revoke b_GrantServer_revoke 4 (some .int) :: TB) ({ frames := 0, cells := 0, slots := 0, locals := 0 }) [.ref h, .int x, .int y] f (fun (r : Int32) (f1 : hm) => (-1) = r ∧ f = f1) 0 0 := by
  refine hm_enter (Qc := fun sz => va_Qi _ (hm_R D vwCl (tyL k) f sz) (hm_A f sz)) (by decide) rfl (Nat.le_of_ble_eq_true rfl) ?_
  intro pg e s m below meth cd ls X0 hr hlk hin hK hM hS hA hl Q hQ
  have X : CallFix pg m cd b_GrantServer_revoke 4 s ([.ref h, .int x, .int y] : List Value).toArray TB R_GrantServer := ⟨X0.1, X0.2.1, X0.2.2.1, X0.2.2.2.1, fun w h => X0.2.2.2.2 w (List.mem_cons_of_mem _ h)⟩
  have hx := X.1; have hb := X.2.1; have hml := X.2.2.1; have hown := X.2.2.2.1; have hts := X.2.2.2.2
  have hl : lv_has ls 4 [(0, .ref h), (1, .int x), (2, .int y)] := hl
  refine lv_aload_n hx hb d_GrantServer_revoke_0 rfl (lv_at hl 0 rfl) ?_
  refine hm_get X hK hM hh fl_GrantServer_54 (v := .int (u 13)) rfl d_GrantServer_revoke_1 ?_
  refine lv_iconst (v := (-1)) hx hb d_GrantServer_revoke_4 (by decide) ?_
  refine lv_icmp_ne (tgt := 11) hx hb d_GrantServer_revoke_5 (by decide) (fun h1 => ?_) (fun h1 => ?_)
  · refine lv_iload_n hx hb d_GrantServer_revoke_11 rfl (lv_at hl 1 rfl) ?_
    refine lv_iconst (v := 1) hx hb d_GrantServer_revoke_12 (by decide) ?_
    refine lv_icmp_eq (tgt := 23) hx hb d_GrantServer_revoke_13 (by decide) (fun h2 => ?_) (fun h2 => ?_)
    · exact absurd h2 hk1
    · refine lv_iload_n hx hb d_GrantServer_revoke_16 rfl (lv_at hl 1 rfl) ?_
      refine lv_iconst (v := 2) hx hb d_GrantServer_revoke_17 (by decide) ?_
      refine lv_icmp_eq (tgt := 23) hx hb d_GrantServer_revoke_18 (by decide) (fun h3 => ?_) (fun h3 => ?_)
      · exact absurd h3 hk2
      · refine lv_iconst (v := (-1)) hx hb d_GrantServer_revoke_21 (by decide) ?_
        exact hm_iret X hQ hr hlk hK hM hS d_GrantServer_revoke_22 ⟨rfl, rfl⟩
  · exact absurd h1 hlog
set_option maxHeartbeats 4000000 in
set_option maxRecDepth 100000 in
theorem c_rv_nf1 (l : Launch) (D : va_G) (k : Nat → ClassId) (f : hm) (h : Nat) (u : Nat → Int32) (ad : Nat → Nat) (us : Nat → Nat) (g : Nat → Nat → Option Nat) (w : Nat → Nat → Nat → Int32) (m1 : Nat → Nat → Option Nat) (fs : Nat → Nat → Int32) (fa : Nat → Nat → Int32) (fv : Nat → Nat → Int32) (x : Int32) (y : Int32) (hh : f h = some (.inr (0, gsV u ad))) (hs1 : f (ad 5) = some (.inr (4, [.ref (ad 15), .int (nI (us 1))]))) (hr1 : f (ad 15) = some (.inl (k 3, 24, .inr (.inr (.inr (.inr (g 1))))))) (hs2 : f (ad 6) = some (.inr (4, [.ref (ad 16), .int (nI (us 2))]))) (hr2 : f (ad 16) = some (.inl (k 3, 24, .inr (.inr (.inr (.inr (g 2))))))) (hlog : ¬ u 13 = -1) (hk : x = 1) (hu1 : us 1 ≤ 24) (hrows1 : ∀ i, i < us 1 → ∃ q, g 1 i = some q ∧ f q = some (.inr (3, gV (w 1 i) (m1 1 i)))) (hfam1 : ∀ i, i < us 1 → ∀ z, m1 1 i = some z → f z = some (.inr (2, [.int (fs 1 i), .int (fa 1 i), .int (fv 1 i)]))) (hu2 : us 2 ≤ 24) (hrows2 : ∀ i, i < us 2 → ∃ q, g 2 i = some q ∧ f q = some (.inr (3, gV (w 2 i) (m1 2 i)))) (hfam2 : ∀ i, i < us 2 → ∀ z, m1 2 i = some z → f z = some (.inr (2, [.int (fs 2 i), .int (fa 2 i), .int (fv 2 i)]))) (hfi : z_fi (w 1) y (us 1) 0 = none) : hm_Mi l D vwCl (tyL k) y_GrantServer_revoke (Cond.code y_GrantServer_revoke b_GrantServer_revoke 4 (some .int) :: TB) ({ frames := 3, cells := 0, slots := 0, locals := 64 }) [.ref h, .int x, .int y] f (fun (r : Int32) (f1 : hm) => (nI (z_cn (w 1) (m1 1) (fv 1) (u 15) (us 1)) + nI (z_cn (w 2) (m1 2) (fv 2) (u 15) (us 2))) - (nI (z_cn (w 1) (m1 1) (fv 1) (u 15) (us 1)) + nI (z_cn (w 2) (m1 2) (fv 2) (u 15) (us 2))) = r ∧ f = f1) 0 0 := by
  refine hm_enter (Qc := fun sz => va_Qi _ (hm_R D vwCl (tyL k) f sz) (hm_A f sz)) (by decide) rfl (Nat.le_of_ble_eq_true rfl) ?_
  intro pg e s m below meth cd ls X0 hr hlk hin hK hM hS hA hl Q hQ
  have X : CallFix pg m cd b_GrantServer_revoke 4 s ([.ref h, .int x, .int y] : List Value).toArray TB R_GrantServer := ⟨X0.1, X0.2.1, X0.2.2.1, X0.2.2.2.1, fun w h => X0.2.2.2.2 w (List.mem_cons_of_mem _ h)⟩
  have hx := X.1; have hb := X.2.1; have hml := X.2.2.1; have hown := X.2.2.2.1; have hts := X.2.2.2.2
  have hl : lv_has ls 4 [(0, .ref h), (1, .int x), (2, .int y)] := hl
  refine lv_aload_n hx hb d_GrantServer_revoke_0 rfl (lv_at hl 0 rfl) ?_
  refine hm_get X hK hM hh fl_GrantServer_54 (v := .int (u 13)) rfl d_GrantServer_revoke_1 ?_
  refine lv_iconst (v := (-1)) hx hb d_GrantServer_revoke_4 (by decide) ?_
  refine lv_icmp_ne (tgt := 11) hx hb d_GrantServer_revoke_5 (by decide) (fun h1 => ?_) (fun h1 => ?_)
  · refine lv_iload_n hx hb d_GrantServer_revoke_11 rfl (lv_at hl 1 rfl) ?_
    refine lv_iconst (v := 1) hx hb d_GrantServer_revoke_12 (by decide) ?_
    refine lv_icmp_eq (tgt := 23) hx hb d_GrantServer_revoke_13 (by decide) (fun h2 => ?_) (fun h2 => ?_)
    · refine lv_aload_n hx hb d_GrantServer_revoke_23 rfl (lv_at hl 0 rfl) ?_
      refine hm_calli hS hM hA (va_runV (As := []) (rest := []) X (c_activeTokens l D k f h u ad us g w m1 fs fa fv hh hs1 hr1 hs2 hr2 hu1 hrows1 hfam1 hu2 hrows2 hfam2 s.heap.size) (hm_cwV hts me_GrantServer_activeTokens wl_GrantServer_168 rfl rfl ⟨Nat.le_of_ble_eq_true rfl, Nat.le_of_ble_eq_true rfl⟩) (hm_preV hM hK hh rfl) rfl rfl hl.1 rfl (lv_room (Nat.le_of_ble_eq_true rfl)) d_GrantServer_revoke_24 ⟨Nat.le_of_ble_eq_true rfl, Nat.le_of_ble_eq_true rfl⟩) (fun r5 f3 H locs p4 hM hS => ?_)
      obtain ⟨rfl, rfl⟩ := p4
      refine lv_istore_n (lv' := [(3, .int (nI (z_cn (w 1) (m1 1) (fv 1) (u 15) (us 1)) + nI (z_cn (w 2) (m1 2) (fv 2) (u 15) (us 2)))), (0, .ref h), (1, .int x), (2, .int y)]) hx hb d_GrantServer_revoke_27 rfl hl (by decide) rfl (fun ls hl => ?_)
      refine lv_iload_n hx hb d_GrantServer_revoke_28 rfl (lv_at hl 2 rfl) ?_
      refine lv_iconst (v := 1) hx hb d_GrantServer_revoke_29 (by decide) ?_
      refine lv_icmp_ne (tgt := 51) hx hb d_GrantServer_revoke_30 (by decide) (fun h6 => ?_) (fun h6 => ?_)
      · exact absurd hk h6
      · refine lv_aload_n hx hb d_GrantServer_revoke_33 rfl (lv_at hl 1 rfl) ?_
        refine hm_get X hK hM hh fl_GrantServer_24 (v := .ref (ad 5)) rfl d_GrantServer_revoke_34 ?_
        refine lv_iload_n hx hb d_GrantServer_revoke_37 rfl (lv_at hl 3 rfl) ?_
        refine lv_aload_n hx hb d_GrantServer_revoke_38 rfl (lv_at hl 1 rfl) ?_
        refine hm_get X hK hM hh fl_GrantServer_54 (v := .int (u 13)) rfl d_GrantServer_revoke_39 ?_
        refine hm_callq hS hM hA (va_runV (As := [.int y, .int (u 13)]) (rest := []) X (c_findOwned_no l D k f (ad 5) (ad 15) 24 (us 1) (g 1) (w 1) (m1 1) y (u 13) hs1 hr1 hu1 (by decide) hrows1 hfi H.size) (hm_cwV hts me_Shelf_findOwned wl_GrantServer_129 rfl rfl ⟨Nat.le_of_ble_eq_true rfl, Nat.le_of_ble_eq_true rfl⟩) (hm_preV hM hK hs1 rfl) rfl rfl hl.1 rfl (lv_room (Nat.le_of_ble_eq_true rfl)) d_GrantServer_revoke_42 ⟨Nat.le_of_ble_eq_true rfl, Nat.le_of_ble_eq_true rfl⟩) (fun r9 f7 H locs p8 hM hS => ?_)
        obtain ⟨rfl, rfl⟩ := p8
        refine hm_callv hS hM hA (va_runS (As := [.null]) (rest := []) X (c_revokeFamilyOf_no l D k f    H.size) (hm_cwS hts me_GrantServer_revokeFamilyOf wl_GrantServer_171 rfl rfl ⟨Nat.le_of_ble_eq_true rfl, Nat.le_of_ble_eq_true rfl⟩) (hm_preS hM hK) rfl rfl hl.1 rfl (lv_room (Nat.le_of_ble_eq_true rfl)) d_GrantServer_revoke_45 ⟨Nat.le_of_ble_eq_true rfl, Nat.le_of_ble_eq_true rfl⟩) (fun f10 H locs p11 hM hS => ?_)
        subst p11
        refine lv_goto (tgt := 66) hx hb d_GrantServer_revoke_48 (by decide) ?_
        refine lv_iload_n hx hb d_GrantServer_revoke_66 rfl (lv_at hl 0 rfl) ?_
        refine lv_aload_n hx hb d_GrantServer_revoke_67 rfl (lv_at hl 1 rfl) ?_
        refine hm_calli hS hM hA (va_runV (As := []) (rest := [.int (nI (z_cn (w 1) (m1 1) (fv 1) (u 15) (us 1)) + nI (z_cn (w 2) (m1 2) (fv 2) (u 15) (us 2)))]) X (c_activeTokens l D k f h u ad us g w m1 fs fa fv hh hs1 hr1 hs2 hr2 hu1 hrows1 hfam1 hu2 hrows2 hfam2 H.size) (hm_cwV hts me_GrantServer_activeTokens wl_GrantServer_168 rfl rfl ⟨Nat.le_of_ble_eq_true rfl, Nat.le_of_ble_eq_true rfl⟩) (hm_preV hM hK hh rfl) rfl rfl hl.1 rfl (lv_room (Nat.le_of_ble_eq_true rfl)) d_GrantServer_revoke_68 ⟨Nat.le_of_ble_eq_true rfl, Nat.le_of_ble_eq_true rfl⟩) (fun r14 f12 H locs p13 hM hS => ?_)
        obtain ⟨rfl, rfl⟩ := p13
        refine lv_isub hx hb d_GrantServer_revoke_71 ?_
        exact hm_iret X hQ hr hlk hK hM hS d_GrantServer_revoke_72 ⟨rfl, rfl⟩
    · exact absurd hk h2
  · exact absurd h1 hlog
set_option maxHeartbeats 4000000 in
set_option maxRecDepth 100000 in
theorem c_rv_own1 (l : Launch) (D : va_G) (k : Nat → ClassId) (f : hm) (h : Nat) (u : Nat → Int32) (ad : Nat → Nat) (us : Nat → Nat) (g : Nat → Nat → Option Nat) (w : Nat → Nat → Nat → Int32) (m1 : Nat → Nat → Option Nat) (fs : Nat → Nat → Int32) (fa : Nat → Nat → Int32) (fv : Nat → Nat → Int32) (x : Int32) (y : Int32) (i : Nat) (q : Nat) (hh : f h = some (.inr (0, gsV u ad))) (hs1 : f (ad 5) = some (.inr (4, [.ref (ad 15), .int (nI (us 1))]))) (hr1 : f (ad 15) = some (.inl (k 3, 24, .inr (.inr (.inr (.inr (g 1))))))) (hs2 : f (ad 6) = some (.inr (4, [.ref (ad 16), .int (nI (us 2))]))) (hr2 : f (ad 16) = some (.inl (k 3, 24, .inr (.inr (.inr (.inr (g 2))))))) (hq : f q = some (.inr (3, gV (w 1 i) (m1 1 i)))) (hlog : ¬ u 13 = -1) (hk : x = 1) (hu1 : us 1 ≤ 24) (hrows1 : ∀ i, i < us 1 → ∃ q, g 1 i = some q ∧ f q = some (.inr (3, gV (w 1 i) (m1 1 i)))) (hfam1 : ∀ i, i < us 1 → ∀ z, m1 1 i = some z → f z = some (.inr (2, [.int (fs 1 i), .int (fa 1 i), .int (fv 1 i)]))) (hu2 : us 2 ≤ 24) (hrows2 : ∀ i, i < us 2 → ∃ q, g 2 i = some q ∧ f q = some (.inr (3, gV (w 2 i) (m1 2 i)))) (hfam2 : ∀ i, i < us 2 → ∀ z, m1 2 i = some z → f z = some (.inr (2, [.int (fs 2 i), .int (fa 2 i), .int (fv 2 i)]))) (hfi : z_fi (w 1) y (us 1) 0 = some i) (hgq : g 1 i = some q) (ho : ¬ w 1 i 1 = u 13) : hm_Mi l D vwCl (tyL k) y_GrantServer_revoke (Cond.code y_GrantServer_revoke b_GrantServer_revoke 4 (some .int) :: TB) ({ frames := 3, cells := 0, slots := 0, locals := 64 }) [.ref h, .int x, .int y] f (fun (r : Int32) (f1 : hm) => (nI (z_cn (w 1) (m1 1) (fv 1) (u 15) (us 1)) + nI (z_cn (w 2) (m1 2) (fv 2) (u 15) (us 2))) - (nI (z_cn (w 1) (m1 1) (fv 1) (u 15) (us 1)) + nI (z_cn (w 2) (m1 2) (fv 2) (u 15) (us 2))) = r ∧ f = f1) 0 0 := by
  refine hm_enter (Qc := fun sz => va_Qi _ (hm_R D vwCl (tyL k) f sz) (hm_A f sz)) (by decide) rfl (Nat.le_of_ble_eq_true rfl) ?_
  intro pg e s m below meth cd ls X0 hr hlk hin hK hM hS hA hl Q hQ
  have X : CallFix pg m cd b_GrantServer_revoke 4 s ([.ref h, .int x, .int y] : List Value).toArray TB R_GrantServer := ⟨X0.1, X0.2.1, X0.2.2.1, X0.2.2.2.1, fun w h => X0.2.2.2.2 w (List.mem_cons_of_mem _ h)⟩
  have hx := X.1; have hb := X.2.1; have hml := X.2.2.1; have hown := X.2.2.2.1; have hts := X.2.2.2.2
  have hl : lv_has ls 4 [(0, .ref h), (1, .int x), (2, .int y)] := hl
  refine lv_aload_n hx hb d_GrantServer_revoke_0 rfl (lv_at hl 0 rfl) ?_
  refine hm_get X hK hM hh fl_GrantServer_54 (v := .int (u 13)) rfl d_GrantServer_revoke_1 ?_
  refine lv_iconst (v := (-1)) hx hb d_GrantServer_revoke_4 (by decide) ?_
  refine lv_icmp_ne (tgt := 11) hx hb d_GrantServer_revoke_5 (by decide) (fun h1 => ?_) (fun h1 => ?_)
  · refine lv_iload_n hx hb d_GrantServer_revoke_11 rfl (lv_at hl 1 rfl) ?_
    refine lv_iconst (v := 1) hx hb d_GrantServer_revoke_12 (by decide) ?_
    refine lv_icmp_eq (tgt := 23) hx hb d_GrantServer_revoke_13 (by decide) (fun h2 => ?_) (fun h2 => ?_)
    · refine lv_aload_n hx hb d_GrantServer_revoke_23 rfl (lv_at hl 0 rfl) ?_
      refine hm_calli hS hM hA (va_runV (As := []) (rest := []) X (c_activeTokens l D k f h u ad us g w m1 fs fa fv hh hs1 hr1 hs2 hr2 hu1 hrows1 hfam1 hu2 hrows2 hfam2 s.heap.size) (hm_cwV hts me_GrantServer_activeTokens wl_GrantServer_168 rfl rfl ⟨Nat.le_of_ble_eq_true rfl, Nat.le_of_ble_eq_true rfl⟩) (hm_preV hM hK hh rfl) rfl rfl hl.1 rfl (lv_room (Nat.le_of_ble_eq_true rfl)) d_GrantServer_revoke_24 ⟨Nat.le_of_ble_eq_true rfl, Nat.le_of_ble_eq_true rfl⟩) (fun r5 f3 H locs p4 hM hS => ?_)
      obtain ⟨rfl, rfl⟩ := p4
      refine lv_istore_n (lv' := [(3, .int (nI (z_cn (w 1) (m1 1) (fv 1) (u 15) (us 1)) + nI (z_cn (w 2) (m1 2) (fv 2) (u 15) (us 2)))), (0, .ref h), (1, .int x), (2, .int y)]) hx hb d_GrantServer_revoke_27 rfl hl (by decide) rfl (fun ls hl => ?_)
      refine lv_iload_n hx hb d_GrantServer_revoke_28 rfl (lv_at hl 2 rfl) ?_
      refine lv_iconst (v := 1) hx hb d_GrantServer_revoke_29 (by decide) ?_
      refine lv_icmp_ne (tgt := 51) hx hb d_GrantServer_revoke_30 (by decide) (fun h6 => ?_) (fun h6 => ?_)
      · exact absurd hk h6
      · refine lv_aload_n hx hb d_GrantServer_revoke_33 rfl (lv_at hl 1 rfl) ?_
        refine hm_get X hK hM hh fl_GrantServer_24 (v := .ref (ad 5)) rfl d_GrantServer_revoke_34 ?_
        refine lv_iload_n hx hb d_GrantServer_revoke_37 rfl (lv_at hl 3 rfl) ?_
        refine lv_aload_n hx hb d_GrantServer_revoke_38 rfl (lv_at hl 1 rfl) ?_
        refine hm_get X hK hM hh fl_GrantServer_54 (v := .int (u 13)) rfl d_GrantServer_revoke_39 ?_
        refine hm_callq hS hM hA (va_runV (As := [.int y, .int (u 13)]) (rest := []) X (c_findOwned_bad l D k f (ad 5) (ad 15) 24 (us 1) (g 1) (w 1) (m1 1) i q y (u 13) hs1 hr1 hq hu1 (by decide) hrows1 hfi hgq ho H.size) (hm_cwV hts me_Shelf_findOwned wl_GrantServer_129 rfl rfl ⟨Nat.le_of_ble_eq_true rfl, Nat.le_of_ble_eq_true rfl⟩) (hm_preV hM hK hs1 rfl) rfl rfl hl.1 rfl (lv_room (Nat.le_of_ble_eq_true rfl)) d_GrantServer_revoke_42 ⟨Nat.le_of_ble_eq_true rfl, Nat.le_of_ble_eq_true rfl⟩) (fun r9 f7 H locs p8 hM hS => ?_)
        obtain ⟨rfl, rfl⟩ := p8
        refine hm_callv hS hM hA (va_runS (As := [.null]) (rest := []) X (c_revokeFamilyOf_no l D k f    H.size) (hm_cwS hts me_GrantServer_revokeFamilyOf wl_GrantServer_171 rfl rfl ⟨Nat.le_of_ble_eq_true rfl, Nat.le_of_ble_eq_true rfl⟩) (hm_preS hM hK) rfl rfl hl.1 rfl (lv_room (Nat.le_of_ble_eq_true rfl)) d_GrantServer_revoke_45 ⟨Nat.le_of_ble_eq_true rfl, Nat.le_of_ble_eq_true rfl⟩) (fun f10 H locs p11 hM hS => ?_)
        subst p11
        refine lv_goto (tgt := 66) hx hb d_GrantServer_revoke_48 (by decide) ?_
        refine lv_iload_n hx hb d_GrantServer_revoke_66 rfl (lv_at hl 0 rfl) ?_
        refine lv_aload_n hx hb d_GrantServer_revoke_67 rfl (lv_at hl 1 rfl) ?_
        refine hm_calli hS hM hA (va_runV (As := []) (rest := [.int (nI (z_cn (w 1) (m1 1) (fv 1) (u 15) (us 1)) + nI (z_cn (w 2) (m1 2) (fv 2) (u 15) (us 2)))]) X (c_activeTokens l D k f h u ad us g w m1 fs fa fv hh hs1 hr1 hs2 hr2 hu1 hrows1 hfam1 hu2 hrows2 hfam2 H.size) (hm_cwV hts me_GrantServer_activeTokens wl_GrantServer_168 rfl rfl ⟨Nat.le_of_ble_eq_true rfl, Nat.le_of_ble_eq_true rfl⟩) (hm_preV hM hK hh rfl) rfl rfl hl.1 rfl (lv_room (Nat.le_of_ble_eq_true rfl)) d_GrantServer_revoke_68 ⟨Nat.le_of_ble_eq_true rfl, Nat.le_of_ble_eq_true rfl⟩) (fun r14 f12 H locs p13 hM hS => ?_)
        obtain ⟨rfl, rfl⟩ := p13
        refine lv_isub hx hb d_GrantServer_revoke_71 ?_
        exact hm_iret X hQ hr hlk hK hM hS d_GrantServer_revoke_72 ⟨rfl, rfl⟩
    · exact absurd hk h2
  · exact absurd h1 hlog
set_option maxHeartbeats 4000000 in
set_option maxRecDepth 100000 in
theorem c_rv_1 (l : Launch) (D : va_G) (k : Nat → ClassId) (f : hm) (h : Nat) (u : Nat → Int32) (ad : Nat → Nat) (us : Nat → Nat) (g : Nat → Nat → Option Nat) (w : Nat → Nat → Nat → Int32) (m1 : Nat → Nat → Option Nat) (fs : Nat → Nat → Int32) (fa : Nat → Nat → Int32) (fv : Nat → Nat → Int32) (x : Int32) (y : Int32) (i : Nat) (q : Nat) (qf : Nat) (fs0 : Int32) (fa0 : Int32) (fv0 : Int32) (hh : f h = some (.inr (0, gsV u ad))) (hs1 : f (ad 5) = some (.inr (4, [.ref (ad 15), .int (nI (us 1))]))) (hr1 : f (ad 15) = some (.inl (k 3, 24, .inr (.inr (.inr (.inr (g 1))))))) (hs2 : f (ad 6) = some (.inr (4, [.ref (ad 16), .int (nI (us 2))]))) (hr2 : f (ad 16) = some (.inl (k 3, 24, .inr (.inr (.inr (.inr (g 2))))))) (hq : f q = some (.inr (3, gV (w 1 i) (m1 1 i)))) (hqf : f qf = some (.inr (2, [.int fs0, .int fa0, .int fv0]))) (hlog : ¬ u 13 = -1) (hk : x = 1) (hu1 : us 1 ≤ 24) (hrows1 : ∀ i, i < us 1 → ∃ q, g 1 i = some q ∧ f q = some (.inr (3, gV (w 1 i) (m1 1 i)))) (hfam1 : ∀ i, i < us 1 → ∀ z, m1 1 i = some z → f z = some (.inr (2, [.int (fs 1 i), .int (fa 1 i), .int (fv 1 i)]))) (hu2 : us 2 ≤ 24) (hrows2 : ∀ i, i < us 2 → ∃ q, g 2 i = some q ∧ f q = some (.inr (3, gV (w 2 i) (m1 2 i)))) (hfam2 : ∀ i, i < us 2 → ∀ z, m1 2 i = some z → f z = some (.inr (2, [.int (fs 2 i), .int (fa 2 i), .int (fv 2 i)]))) (hfi : z_fi (w 1) y (us 1) 0 = some i) (hgq : g 1 i = some q) (ho : w 1 i 1 = u 13) (hmm9 : m1 1 i = some qf) : hm_Mi l D vwCl (tyL k) y_GrantServer_revoke (Cond.code y_GrantServer_revoke b_GrantServer_revoke 4 (some .int) :: TB) ({ frames := 3, cells := 0, slots := 0, locals := 64 }) [.ref h, .int x, .int y] f (fun (r : Int32) (f1 : hm) => (nI (z_cn (w 1) (m1 1) (fv 1) (u 15) (us 1)) + nI (z_cn (w 2) (m1 2) (fv 2) (u 15) (us 2))) - (nI (z_cn (w 1) (m1 1) ((fun s0 i0 => if m1 s0 i0 = some qf then 1 else fv s0 i0) 1) (u 15) (us 1)) + nI (z_cn (w 2) (m1 2) ((fun s0 i0 => if m1 s0 i0 = some qf then 1 else fv s0 i0) 2) (u 15) (us 2))) = r ∧ f1 qf = some (.inr (2, [.int fs0, .int fa0, .int 1])) ∧ ∀ (zq : Nat) (zx : va_E), zq ≠ qf → f zq = some zx → f1 zq = some zx) 0 0 := by
  refine hm_enter (Qc := fun sz => va_Qi _ (hm_R D vwCl (tyL k) f sz) (hm_A f sz)) (by decide) rfl (Nat.le_of_ble_eq_true rfl) ?_
  intro pg e s m below meth cd ls X0 hr hlk hin hK hM hS hA hl Q hQ
  have X : CallFix pg m cd b_GrantServer_revoke 4 s ([.ref h, .int x, .int y] : List Value).toArray TB R_GrantServer := ⟨X0.1, X0.2.1, X0.2.2.1, X0.2.2.2.1, fun w h => X0.2.2.2.2 w (List.mem_cons_of_mem _ h)⟩
  have hx := X.1; have hb := X.2.1; have hml := X.2.2.1; have hown := X.2.2.2.1; have hts := X.2.2.2.2
  have hl : lv_has ls 4 [(0, .ref h), (1, .int x), (2, .int y)] := hl
  refine lv_aload_n hx hb d_GrantServer_revoke_0 rfl (lv_at hl 0 rfl) ?_
  refine hm_get X hK hM hh fl_GrantServer_54 (v := .int (u 13)) rfl d_GrantServer_revoke_1 ?_
  refine lv_iconst (v := (-1)) hx hb d_GrantServer_revoke_4 (by decide) ?_
  refine lv_icmp_ne (tgt := 11) hx hb d_GrantServer_revoke_5 (by decide) (fun h1 => ?_) (fun h1 => ?_)
  · refine lv_iload_n hx hb d_GrantServer_revoke_11 rfl (lv_at hl 1 rfl) ?_
    refine lv_iconst (v := 1) hx hb d_GrantServer_revoke_12 (by decide) ?_
    refine lv_icmp_eq (tgt := 23) hx hb d_GrantServer_revoke_13 (by decide) (fun h2 => ?_) (fun h2 => ?_)
    · refine lv_aload_n hx hb d_GrantServer_revoke_23 rfl (lv_at hl 0 rfl) ?_
      refine hm_calli hS hM hA (va_runV (As := []) (rest := []) X (c_activeTokens l D k f h u ad us g w m1 fs fa fv hh hs1 hr1 hs2 hr2 hu1 hrows1 hfam1 hu2 hrows2 hfam2 s.heap.size) (hm_cwV hts me_GrantServer_activeTokens wl_GrantServer_168 rfl rfl ⟨Nat.le_of_ble_eq_true rfl, Nat.le_of_ble_eq_true rfl⟩) (hm_preV hM hK hh rfl) rfl rfl hl.1 rfl (lv_room (Nat.le_of_ble_eq_true rfl)) d_GrantServer_revoke_24 ⟨Nat.le_of_ble_eq_true rfl, Nat.le_of_ble_eq_true rfl⟩) (fun r5 f3 H locs p4 hM hS => ?_)
      obtain ⟨rfl, rfl⟩ := p4
      refine lv_istore_n (lv' := [(3, .int (nI (z_cn (w 1) (m1 1) (fv 1) (u 15) (us 1)) + nI (z_cn (w 2) (m1 2) (fv 2) (u 15) (us 2)))), (0, .ref h), (1, .int x), (2, .int y)]) hx hb d_GrantServer_revoke_27 rfl hl (by decide) rfl (fun ls hl => ?_)
      refine lv_iload_n hx hb d_GrantServer_revoke_28 rfl (lv_at hl 2 rfl) ?_
      refine lv_iconst (v := 1) hx hb d_GrantServer_revoke_29 (by decide) ?_
      refine lv_icmp_ne (tgt := 51) hx hb d_GrantServer_revoke_30 (by decide) (fun h6 => ?_) (fun h6 => ?_)
      · exact absurd hk h6
      · refine lv_aload_n hx hb d_GrantServer_revoke_33 rfl (lv_at hl 1 rfl) ?_
        refine hm_get X hK hM hh fl_GrantServer_24 (v := .ref (ad 5)) rfl d_GrantServer_revoke_34 ?_
        refine lv_iload_n hx hb d_GrantServer_revoke_37 rfl (lv_at hl 3 rfl) ?_
        refine lv_aload_n hx hb d_GrantServer_revoke_38 rfl (lv_at hl 1 rfl) ?_
        refine hm_get X hK hM hh fl_GrantServer_54 (v := .int (u 13)) rfl d_GrantServer_revoke_39 ?_
        refine hm_callq hS hM hA (va_runV (As := [.int y, .int (u 13)]) (rest := []) X (c_findOwned l D k f (ad 5) (ad 15) 24 (us 1) (g 1) (w 1) (m1 1) i q y (u 13) hs1 hr1 hq hu1 (by decide) hrows1 hfi hgq ho H.size) (hm_cwV hts me_Shelf_findOwned wl_GrantServer_129 rfl rfl ⟨Nat.le_of_ble_eq_true rfl, Nat.le_of_ble_eq_true rfl⟩) (hm_preV hM hK hs1 rfl) rfl rfl hl.1 rfl (lv_room (Nat.le_of_ble_eq_true rfl)) d_GrantServer_revoke_42 ⟨Nat.le_of_ble_eq_true rfl, Nat.le_of_ble_eq_true rfl⟩) (fun r9 f7 H locs p8 hM hS => ?_)
        obtain ⟨rfl, rfl⟩ := p8
        refine hm_callv hS hM hA (va_runS (As := [.ref q]) (rest := []) X (c_revokeFamilyOf l D k f q (w 1 i) (m1 1 i) qf fs0 fa0 fv0 hq hqf hmm9 H.size) (hm_cwS hts me_GrantServer_revokeFamilyOf wl_GrantServer_171 rfl rfl ⟨Nat.le_of_ble_eq_true rfl, Nat.le_of_ble_eq_true rfl⟩) (hm_preS hM hK) rfl rfl hl.1 rfl (lv_room (Nat.le_of_ble_eq_true rfl)) d_GrantServer_revoke_45 ⟨Nat.le_of_ble_eq_true rfl, Nat.le_of_ble_eq_true rfl⟩) (fun f10 H locs p11 hM hS => ?_)
        obtain ⟨g12, hfr13⟩ := p11
        refine lv_goto (tgt := 66) hx hb d_GrantServer_revoke_48 (by decide) ?_
        refine lv_iload_n hx hb d_GrantServer_revoke_66 rfl (lv_at hl 0 rfl) ?_
        refine lv_aload_n hx hb d_GrantServer_revoke_67 rfl (lv_at hl 1 rfl) ?_
        have g14 : f10 h = some (.inr (0, gsV u ad)) := hfr13 _ _ (hm_neI hh hqf (by decide)) hh
        have g15 : f10 (ad 5) = some (.inr (4, [.ref (ad 15), .int (nI (us 1))])) := hfr13 _ _ (hm_neI hs1 hqf (by decide)) hs1
        have g16 : f10 (ad 15) = some (.inl (k 3, 24, .inr (.inr (.inr (.inr (g 1)))))) := hfr13 _ _ ((hm_neA hqf hr1).symm) hr1
        have g17 : f10 (ad 6) = some (.inr (4, [.ref (ad 16), .int (nI (us 2))])) := hfr13 _ _ (hm_neI hs2 hqf (by decide)) hs2
        have g18 : f10 (ad 16) = some (.inl (k 3, 24, .inr (.inr (.inr (.inr (g 2)))))) := hfr13 _ _ ((hm_neA hqf hr2).symm) hr2
        have g19 : f10 q = some (.inr (3, gV (w 1 i) (m1 1 i))) := hfr13 _ _ (hm_neI hq hqf (by decide)) hq
        refine hm_calli hS hM hA (va_runV (As := []) (rest := [.int (nI (z_cn (w 1) (m1 1) (fv 1) (u 15) (us 1)) + nI (z_cn (w 2) (m1 2) (fv 2) (u 15) (us 2)))]) X (c_activeTokens l D k f10 h u ad us g w m1 fs fa (fun s0 i0 => if m1 s0 i0 = some qf then 1 else fv s0 i0) g14 g15 g16 g17 g18 hu1 (fun i0 h0 => by obtain ⟨q0, e1, e2⟩ := hrows1 i0 h0; exact ⟨q0, e1, hfr13 _ _ (hm_neI e2 hqf (by decide)) e2⟩) (fun i0 h0 z0 hz0 => by have e2 := hfam1 i0 h0 z0 hz0; by_cases e0 : z0 = qf; (· subst e0; rw [hqf] at e2; rw [if_pos hz0]; cases e2; exact g12); (· rw [if_neg (fun q0 => e0 (Option.some.inj (hz0.symm.trans q0)))]; exact hfr13 _ _ e0 e2)) hu2 (fun i0 h0 => by obtain ⟨q0, e1, e2⟩ := hrows2 i0 h0; exact ⟨q0, e1, hfr13 _ _ (hm_neI e2 hqf (by decide)) e2⟩) (fun i0 h0 z0 hz0 => by have e2 := hfam2 i0 h0 z0 hz0; by_cases e0 : z0 = qf; (· subst e0; rw [hqf] at e2; rw [if_pos hz0]; cases e2; exact g12); (· rw [if_neg (fun q0 => e0 (Option.some.inj (hz0.symm.trans q0)))]; exact hfr13 _ _ e0 e2)) H.size) (hm_cwV hts me_GrantServer_activeTokens wl_GrantServer_168 rfl rfl ⟨Nat.le_of_ble_eq_true rfl, Nat.le_of_ble_eq_true rfl⟩) (hm_preV hM hK g14 rfl) rfl rfl hl.1 rfl (lv_room (Nat.le_of_ble_eq_true rfl)) d_GrantServer_revoke_68 ⟨Nat.le_of_ble_eq_true rfl, Nat.le_of_ble_eq_true rfl⟩) (fun r22 f20 H locs p21 hM hS => ?_)
        obtain ⟨rfl, rfl⟩ := p21
        refine lv_isub hx hb d_GrantServer_revoke_71 ?_
        exact hm_iret X hQ hr hlk hK hM hS d_GrantServer_revoke_72 ⟨rfl, g12, (fun zq zx n0 hq => by have t0 := hq; have t1 := hfr13 _ _ n0 t0; exact t1)⟩
    · exact absurd hk h2
  · exact absurd h1 hlog
set_option maxHeartbeats 4000000 in
set_option maxRecDepth 100000 in
theorem c_rv_nf2 (l : Launch) (D : va_G) (k : Nat → ClassId) (f : hm) (h : Nat) (u : Nat → Int32) (ad : Nat → Nat) (us : Nat → Nat) (g : Nat → Nat → Option Nat) (w : Nat → Nat → Nat → Int32) (m1 : Nat → Nat → Option Nat) (fs : Nat → Nat → Int32) (fa : Nat → Nat → Int32) (fv : Nat → Nat → Int32) (x : Int32) (y : Int32) (hh : f h = some (.inr (0, gsV u ad))) (hs1 : f (ad 5) = some (.inr (4, [.ref (ad 15), .int (nI (us 1))]))) (hr1 : f (ad 15) = some (.inl (k 3, 24, .inr (.inr (.inr (.inr (g 1))))))) (hs2 : f (ad 6) = some (.inr (4, [.ref (ad 16), .int (nI (us 2))]))) (hr2 : f (ad 16) = some (.inl (k 3, 24, .inr (.inr (.inr (.inr (g 2))))))) (hlog : ¬ u 13 = -1) (hk : x = 2) (hu1 : us 1 ≤ 24) (hrows1 : ∀ i, i < us 1 → ∃ q, g 1 i = some q ∧ f q = some (.inr (3, gV (w 1 i) (m1 1 i)))) (hfam1 : ∀ i, i < us 1 → ∀ z, m1 1 i = some z → f z = some (.inr (2, [.int (fs 1 i), .int (fa 1 i), .int (fv 1 i)]))) (hu2 : us 2 ≤ 24) (hrows2 : ∀ i, i < us 2 → ∃ q, g 2 i = some q ∧ f q = some (.inr (3, gV (w 2 i) (m1 2 i)))) (hfam2 : ∀ i, i < us 2 → ∀ z, m1 2 i = some z → f z = some (.inr (2, [.int (fs 2 i), .int (fa 2 i), .int (fv 2 i)]))) (hfi : z_fi (w 2) y (us 2) 0 = none) : hm_Mi l D vwCl (tyL k) y_GrantServer_revoke (Cond.code y_GrantServer_revoke b_GrantServer_revoke 4 (some .int) :: TB) ({ frames := 3, cells := 0, slots := 0, locals := 64 }) [.ref h, .int x, .int y] f (fun (r : Int32) (f1 : hm) => (nI (z_cn (w 1) (m1 1) (fv 1) (u 15) (us 1)) + nI (z_cn (w 2) (m1 2) (fv 2) (u 15) (us 2))) - (nI (z_cn (w 1) (m1 1) (fv 1) (u 15) (us 1)) + nI (z_cn (w 2) (m1 2) (fv 2) (u 15) (us 2))) = r ∧ f = f1) 0 0 := by
  refine hm_enter (Qc := fun sz => va_Qi _ (hm_R D vwCl (tyL k) f sz) (hm_A f sz)) (by decide) rfl (Nat.le_of_ble_eq_true rfl) ?_
  intro pg e s m below meth cd ls X0 hr hlk hin hK hM hS hA hl Q hQ
  have X : CallFix pg m cd b_GrantServer_revoke 4 s ([.ref h, .int x, .int y] : List Value).toArray TB R_GrantServer := ⟨X0.1, X0.2.1, X0.2.2.1, X0.2.2.2.1, fun w h => X0.2.2.2.2 w (List.mem_cons_of_mem _ h)⟩
  have hx := X.1; have hb := X.2.1; have hml := X.2.2.1; have hown := X.2.2.2.1; have hts := X.2.2.2.2
  have hl : lv_has ls 4 [(0, .ref h), (1, .int x), (2, .int y)] := hl
  refine lv_aload_n hx hb d_GrantServer_revoke_0 rfl (lv_at hl 0 rfl) ?_
  refine hm_get X hK hM hh fl_GrantServer_54 (v := .int (u 13)) rfl d_GrantServer_revoke_1 ?_
  refine lv_iconst (v := (-1)) hx hb d_GrantServer_revoke_4 (by decide) ?_
  refine lv_icmp_ne (tgt := 11) hx hb d_GrantServer_revoke_5 (by decide) (fun h1 => ?_) (fun h1 => ?_)
  · refine lv_iload_n hx hb d_GrantServer_revoke_11 rfl (lv_at hl 1 rfl) ?_
    refine lv_iconst (v := 1) hx hb d_GrantServer_revoke_12 (by decide) ?_
    refine lv_icmp_eq (tgt := 23) hx hb d_GrantServer_revoke_13 (by decide) (fun h2 => ?_) (fun h2 => ?_)
    · exact absurd (hk.symm.trans h2) (by decide)
    · refine lv_iload_n hx hb d_GrantServer_revoke_16 rfl (lv_at hl 1 rfl) ?_
      refine lv_iconst (v := 2) hx hb d_GrantServer_revoke_17 (by decide) ?_
      refine lv_icmp_eq (tgt := 23) hx hb d_GrantServer_revoke_18 (by decide) (fun h3 => ?_) (fun h3 => ?_)
      · refine lv_aload_n hx hb d_GrantServer_revoke_23 rfl (lv_at hl 0 rfl) ?_
        refine hm_calli hS hM hA (va_runV (As := []) (rest := []) X (c_activeTokens l D k f h u ad us g w m1 fs fa fv hh hs1 hr1 hs2 hr2 hu1 hrows1 hfam1 hu2 hrows2 hfam2 s.heap.size) (hm_cwV hts me_GrantServer_activeTokens wl_GrantServer_168 rfl rfl ⟨Nat.le_of_ble_eq_true rfl, Nat.le_of_ble_eq_true rfl⟩) (hm_preV hM hK hh rfl) rfl rfl hl.1 rfl (lv_room (Nat.le_of_ble_eq_true rfl)) d_GrantServer_revoke_24 ⟨Nat.le_of_ble_eq_true rfl, Nat.le_of_ble_eq_true rfl⟩) (fun r6 f4 H locs p5 hM hS => ?_)
        obtain ⟨rfl, rfl⟩ := p5
        refine lv_istore_n (lv' := [(3, .int (nI (z_cn (w 1) (m1 1) (fv 1) (u 15) (us 1)) + nI (z_cn (w 2) (m1 2) (fv 2) (u 15) (us 2)))), (0, .ref h), (1, .int x), (2, .int y)]) hx hb d_GrantServer_revoke_27 rfl hl (by decide) rfl (fun ls hl => ?_)
        refine lv_iload_n hx hb d_GrantServer_revoke_28 rfl (lv_at hl 2 rfl) ?_
        refine lv_iconst (v := 1) hx hb d_GrantServer_revoke_29 (by decide) ?_
        refine lv_icmp_ne (tgt := 51) hx hb d_GrantServer_revoke_30 (by decide) (fun h7 => ?_) (fun h7 => ?_)
        · refine lv_aload_n hx hb d_GrantServer_revoke_51 rfl (lv_at hl 1 rfl) ?_
          refine hm_get X hK hM hh fl_GrantServer_27 (v := .ref (ad 6)) rfl d_GrantServer_revoke_52 ?_
          refine lv_iload_n hx hb d_GrantServer_revoke_55 rfl (lv_at hl 3 rfl) ?_
          refine lv_aload_n hx hb d_GrantServer_revoke_56 rfl (lv_at hl 1 rfl) ?_
          refine hm_get X hK hM hh fl_GrantServer_54 (v := .int (u 13)) rfl d_GrantServer_revoke_57 ?_
          refine hm_callq hS hM hA (va_runV (As := [.int y, .int (u 13)]) (rest := []) X (c_findOwned_no l D k f (ad 6) (ad 16) 24 (us 2) (g 2) (w 2) (m1 2) y (u 13) hs2 hr2 hu2 (by decide) hrows2 hfi H.size) (hm_cwV hts me_Shelf_findOwned wl_GrantServer_129 rfl rfl ⟨Nat.le_of_ble_eq_true rfl, Nat.le_of_ble_eq_true rfl⟩) (hm_preV hM hK hs2 rfl) rfl rfl hl.1 rfl (lv_room (Nat.le_of_ble_eq_true rfl)) d_GrantServer_revoke_60 ⟨Nat.le_of_ble_eq_true rfl, Nat.le_of_ble_eq_true rfl⟩) (fun r10 f8 H locs p9 hM hS => ?_)
          obtain ⟨rfl, rfl⟩ := p9
          refine hm_callv hS hM hA (va_runS (As := [.null]) (rest := []) X (c_revokeAlone_no l D k f    H.size) (hm_cwS hts me_GrantServer_revokeAlone wl_GrantServer_175 rfl rfl ⟨Nat.le_of_ble_eq_true rfl, Nat.le_of_ble_eq_true rfl⟩) (hm_preS hM hK) rfl rfl hl.1 rfl (lv_room (Nat.le_of_ble_eq_true rfl)) d_GrantServer_revoke_63 ⟨Nat.le_of_ble_eq_true rfl, Nat.le_of_ble_eq_true rfl⟩) (fun f11 H locs p12 hM hS => ?_)
          subst p12
          refine lv_iload_n hx hb d_GrantServer_revoke_66 rfl (lv_at hl 0 rfl) ?_
          refine lv_aload_n hx hb d_GrantServer_revoke_67 rfl (lv_at hl 1 rfl) ?_
          refine hm_calli hS hM hA (va_runV (As := []) (rest := [.int (nI (z_cn (w 1) (m1 1) (fv 1) (u 15) (us 1)) + nI (z_cn (w 2) (m1 2) (fv 2) (u 15) (us 2)))]) X (c_activeTokens l D k f h u ad us g w m1 fs fa fv hh hs1 hr1 hs2 hr2 hu1 hrows1 hfam1 hu2 hrows2 hfam2 H.size) (hm_cwV hts me_GrantServer_activeTokens wl_GrantServer_168 rfl rfl ⟨Nat.le_of_ble_eq_true rfl, Nat.le_of_ble_eq_true rfl⟩) (hm_preV hM hK hh rfl) rfl rfl hl.1 rfl (lv_room (Nat.le_of_ble_eq_true rfl)) d_GrantServer_revoke_68 ⟨Nat.le_of_ble_eq_true rfl, Nat.le_of_ble_eq_true rfl⟩) (fun r15 f13 H locs p14 hM hS => ?_)
          obtain ⟨rfl, rfl⟩ := p14
          refine lv_isub hx hb d_GrantServer_revoke_71 ?_
          exact hm_iret X hQ hr hlk hK hM hS d_GrantServer_revoke_72 ⟨rfl, rfl⟩
        · exact absurd (hk.symm.trans h7) (by decide)
      · exact absurd hk h3
  · exact absurd h1 hlog
set_option maxHeartbeats 4000000 in
set_option maxRecDepth 100000 in
theorem c_rv_own2 (l : Launch) (D : va_G) (k : Nat → ClassId) (f : hm) (h : Nat) (u : Nat → Int32) (ad : Nat → Nat) (us : Nat → Nat) (g : Nat → Nat → Option Nat) (w : Nat → Nat → Nat → Int32) (m1 : Nat → Nat → Option Nat) (fs : Nat → Nat → Int32) (fa : Nat → Nat → Int32) (fv : Nat → Nat → Int32) (x : Int32) (y : Int32) (i : Nat) (q : Nat) (hh : f h = some (.inr (0, gsV u ad))) (hs1 : f (ad 5) = some (.inr (4, [.ref (ad 15), .int (nI (us 1))]))) (hr1 : f (ad 15) = some (.inl (k 3, 24, .inr (.inr (.inr (.inr (g 1))))))) (hs2 : f (ad 6) = some (.inr (4, [.ref (ad 16), .int (nI (us 2))]))) (hr2 : f (ad 16) = some (.inl (k 3, 24, .inr (.inr (.inr (.inr (g 2))))))) (hq : f q = some (.inr (3, gV (w 2 i) (m1 2 i)))) (hlog : ¬ u 13 = -1) (hk : x = 2) (hu1 : us 1 ≤ 24) (hrows1 : ∀ i, i < us 1 → ∃ q, g 1 i = some q ∧ f q = some (.inr (3, gV (w 1 i) (m1 1 i)))) (hfam1 : ∀ i, i < us 1 → ∀ z, m1 1 i = some z → f z = some (.inr (2, [.int (fs 1 i), .int (fa 1 i), .int (fv 1 i)]))) (hu2 : us 2 ≤ 24) (hrows2 : ∀ i, i < us 2 → ∃ q, g 2 i = some q ∧ f q = some (.inr (3, gV (w 2 i) (m1 2 i)))) (hfam2 : ∀ i, i < us 2 → ∀ z, m1 2 i = some z → f z = some (.inr (2, [.int (fs 2 i), .int (fa 2 i), .int (fv 2 i)]))) (hfi : z_fi (w 2) y (us 2) 0 = some i) (hgq : g 2 i = some q) (ho : ¬ w 2 i 1 = u 13) : hm_Mi l D vwCl (tyL k) y_GrantServer_revoke (Cond.code y_GrantServer_revoke b_GrantServer_revoke 4 (some .int) :: TB) ({ frames := 3, cells := 0, slots := 0, locals := 64 }) [.ref h, .int x, .int y] f (fun (r : Int32) (f1 : hm) => (nI (z_cn (w 1) (m1 1) (fv 1) (u 15) (us 1)) + nI (z_cn (w 2) (m1 2) (fv 2) (u 15) (us 2))) - (nI (z_cn (w 1) (m1 1) (fv 1) (u 15) (us 1)) + nI (z_cn (w 2) (m1 2) (fv 2) (u 15) (us 2))) = r ∧ f = f1) 0 0 := by
  refine hm_enter (Qc := fun sz => va_Qi _ (hm_R D vwCl (tyL k) f sz) (hm_A f sz)) (by decide) rfl (Nat.le_of_ble_eq_true rfl) ?_
  intro pg e s m below meth cd ls X0 hr hlk hin hK hM hS hA hl Q hQ
  have X : CallFix pg m cd b_GrantServer_revoke 4 s ([.ref h, .int x, .int y] : List Value).toArray TB R_GrantServer := ⟨X0.1, X0.2.1, X0.2.2.1, X0.2.2.2.1, fun w h => X0.2.2.2.2 w (List.mem_cons_of_mem _ h)⟩
  have hx := X.1; have hb := X.2.1; have hml := X.2.2.1; have hown := X.2.2.2.1; have hts := X.2.2.2.2
  have hl : lv_has ls 4 [(0, .ref h), (1, .int x), (2, .int y)] := hl
  refine lv_aload_n hx hb d_GrantServer_revoke_0 rfl (lv_at hl 0 rfl) ?_
  refine hm_get X hK hM hh fl_GrantServer_54 (v := .int (u 13)) rfl d_GrantServer_revoke_1 ?_
  refine lv_iconst (v := (-1)) hx hb d_GrantServer_revoke_4 (by decide) ?_
  refine lv_icmp_ne (tgt := 11) hx hb d_GrantServer_revoke_5 (by decide) (fun h1 => ?_) (fun h1 => ?_)
  · refine lv_iload_n hx hb d_GrantServer_revoke_11 rfl (lv_at hl 1 rfl) ?_
    refine lv_iconst (v := 1) hx hb d_GrantServer_revoke_12 (by decide) ?_
    refine lv_icmp_eq (tgt := 23) hx hb d_GrantServer_revoke_13 (by decide) (fun h2 => ?_) (fun h2 => ?_)
    · exact absurd (hk.symm.trans h2) (by decide)
    · refine lv_iload_n hx hb d_GrantServer_revoke_16 rfl (lv_at hl 1 rfl) ?_
      refine lv_iconst (v := 2) hx hb d_GrantServer_revoke_17 (by decide) ?_
      refine lv_icmp_eq (tgt := 23) hx hb d_GrantServer_revoke_18 (by decide) (fun h3 => ?_) (fun h3 => ?_)
      · refine lv_aload_n hx hb d_GrantServer_revoke_23 rfl (lv_at hl 0 rfl) ?_
        refine hm_calli hS hM hA (va_runV (As := []) (rest := []) X (c_activeTokens l D k f h u ad us g w m1 fs fa fv hh hs1 hr1 hs2 hr2 hu1 hrows1 hfam1 hu2 hrows2 hfam2 s.heap.size) (hm_cwV hts me_GrantServer_activeTokens wl_GrantServer_168 rfl rfl ⟨Nat.le_of_ble_eq_true rfl, Nat.le_of_ble_eq_true rfl⟩) (hm_preV hM hK hh rfl) rfl rfl hl.1 rfl (lv_room (Nat.le_of_ble_eq_true rfl)) d_GrantServer_revoke_24 ⟨Nat.le_of_ble_eq_true rfl, Nat.le_of_ble_eq_true rfl⟩) (fun r6 f4 H locs p5 hM hS => ?_)
        obtain ⟨rfl, rfl⟩ := p5
        refine lv_istore_n (lv' := [(3, .int (nI (z_cn (w 1) (m1 1) (fv 1) (u 15) (us 1)) + nI (z_cn (w 2) (m1 2) (fv 2) (u 15) (us 2)))), (0, .ref h), (1, .int x), (2, .int y)]) hx hb d_GrantServer_revoke_27 rfl hl (by decide) rfl (fun ls hl => ?_)
        refine lv_iload_n hx hb d_GrantServer_revoke_28 rfl (lv_at hl 2 rfl) ?_
        refine lv_iconst (v := 1) hx hb d_GrantServer_revoke_29 (by decide) ?_
        refine lv_icmp_ne (tgt := 51) hx hb d_GrantServer_revoke_30 (by decide) (fun h7 => ?_) (fun h7 => ?_)
        · refine lv_aload_n hx hb d_GrantServer_revoke_51 rfl (lv_at hl 1 rfl) ?_
          refine hm_get X hK hM hh fl_GrantServer_27 (v := .ref (ad 6)) rfl d_GrantServer_revoke_52 ?_
          refine lv_iload_n hx hb d_GrantServer_revoke_55 rfl (lv_at hl 3 rfl) ?_
          refine lv_aload_n hx hb d_GrantServer_revoke_56 rfl (lv_at hl 1 rfl) ?_
          refine hm_get X hK hM hh fl_GrantServer_54 (v := .int (u 13)) rfl d_GrantServer_revoke_57 ?_
          refine hm_callq hS hM hA (va_runV (As := [.int y, .int (u 13)]) (rest := []) X (c_findOwned_bad l D k f (ad 6) (ad 16) 24 (us 2) (g 2) (w 2) (m1 2) i q y (u 13) hs2 hr2 hq hu2 (by decide) hrows2 hfi hgq ho H.size) (hm_cwV hts me_Shelf_findOwned wl_GrantServer_129 rfl rfl ⟨Nat.le_of_ble_eq_true rfl, Nat.le_of_ble_eq_true rfl⟩) (hm_preV hM hK hs2 rfl) rfl rfl hl.1 rfl (lv_room (Nat.le_of_ble_eq_true rfl)) d_GrantServer_revoke_60 ⟨Nat.le_of_ble_eq_true rfl, Nat.le_of_ble_eq_true rfl⟩) (fun r10 f8 H locs p9 hM hS => ?_)
          obtain ⟨rfl, rfl⟩ := p9
          refine hm_callv hS hM hA (va_runS (As := [.null]) (rest := []) X (c_revokeAlone_no l D k f    H.size) (hm_cwS hts me_GrantServer_revokeAlone wl_GrantServer_175 rfl rfl ⟨Nat.le_of_ble_eq_true rfl, Nat.le_of_ble_eq_true rfl⟩) (hm_preS hM hK) rfl rfl hl.1 rfl (lv_room (Nat.le_of_ble_eq_true rfl)) d_GrantServer_revoke_63 ⟨Nat.le_of_ble_eq_true rfl, Nat.le_of_ble_eq_true rfl⟩) (fun f11 H locs p12 hM hS => ?_)
          subst p12
          refine lv_iload_n hx hb d_GrantServer_revoke_66 rfl (lv_at hl 0 rfl) ?_
          refine lv_aload_n hx hb d_GrantServer_revoke_67 rfl (lv_at hl 1 rfl) ?_
          refine hm_calli hS hM hA (va_runV (As := []) (rest := [.int (nI (z_cn (w 1) (m1 1) (fv 1) (u 15) (us 1)) + nI (z_cn (w 2) (m1 2) (fv 2) (u 15) (us 2)))]) X (c_activeTokens l D k f h u ad us g w m1 fs fa fv hh hs1 hr1 hs2 hr2 hu1 hrows1 hfam1 hu2 hrows2 hfam2 H.size) (hm_cwV hts me_GrantServer_activeTokens wl_GrantServer_168 rfl rfl ⟨Nat.le_of_ble_eq_true rfl, Nat.le_of_ble_eq_true rfl⟩) (hm_preV hM hK hh rfl) rfl rfl hl.1 rfl (lv_room (Nat.le_of_ble_eq_true rfl)) d_GrantServer_revoke_68 ⟨Nat.le_of_ble_eq_true rfl, Nat.le_of_ble_eq_true rfl⟩) (fun r15 f13 H locs p14 hM hS => ?_)
          obtain ⟨rfl, rfl⟩ := p14
          refine lv_isub hx hb d_GrantServer_revoke_71 ?_
          exact hm_iret X hQ hr hlk hK hM hS d_GrantServer_revoke_72 ⟨rfl, rfl⟩
        · exact absurd (hk.symm.trans h7) (by decide)
      · exact absurd hk h3
  · exact absurd h1 hlog
set_option maxHeartbeats 4000000 in
set_option maxRecDepth 100000 in
theorem c_rv_2 (l : Launch) (D : va_G) (k : Nat → ClassId) (f : hm) (h : Nat) (u : Nat → Int32) (ad : Nat → Nat) (us : Nat → Nat) (g : Nat → Nat → Option Nat) (w : Nat → Nat → Nat → Int32) (m1 : Nat → Nat → Option Nat) (fs : Nat → Nat → Int32) (fa : Nat → Nat → Int32) (fv : Nat → Nat → Int32) (x : Int32) (y : Int32) (i : Nat) (q : Nat) (hh : f h = some (.inr (0, gsV u ad))) (hs1 : f (ad 5) = some (.inr (4, [.ref (ad 15), .int (nI (us 1))]))) (hr1 : f (ad 15) = some (.inl (k 3, 24, .inr (.inr (.inr (.inr (g 1))))))) (hs2 : f (ad 6) = some (.inr (4, [.ref (ad 16), .int (nI (us 2))]))) (hr2 : f (ad 16) = some (.inl (k 3, 24, .inr (.inr (.inr (.inr (g 2))))))) (hq : f q = some (.inr (3, gV (w 2 i) (m1 2 i)))) (hlog : ¬ u 13 = -1) (hk : x = 2) (hu1 : us 1 ≤ 24) (hrows1 : ∀ i, i < us 1 → ∃ q, g 1 i = some q ∧ f q = some (.inr (3, gV (w 1 i) (m1 1 i)))) (hfam1 : ∀ i, i < us 1 → ∀ z, m1 1 i = some z → f z = some (.inr (2, [.int (fs 1 i), .int (fa 1 i), .int (fv 1 i)]))) (hu2 : us 2 ≤ 24) (hrows2 : ∀ i, i < us 2 → ∃ q, g 2 i = some q ∧ f q = some (.inr (3, gV (w 2 i) (m1 2 i)))) (hfam2 : ∀ i, i < us 2 → ∀ z, m1 2 i = some z → f z = some (.inr (2, [.int (fs 2 i), .int (fa 2 i), .int (fv 2 i)]))) (hfi : z_fi (w 2) y (us 2) 0 = some i) (hgq : g 2 i = some q) (ho : w 2 i 1 = u 13) (hne1 : ∀ i0, i0 < us 1 → ¬ g 1 i0 = some q) (hne2 : ∀ i0, i0 < us 2 → g 2 i0 = some q → i0 = i) : hm_Mi l D vwCl (tyL k) y_GrantServer_revoke (Cond.code y_GrantServer_revoke b_GrantServer_revoke 4 (some .int) :: TB) ({ frames := 3, cells := 0, slots := 0, locals := 64 }) [.ref h, .int x, .int y] f (fun (r : Int32) (f1 : hm) => (nI (z_cn (w 1) (m1 1) (fv 1) (u 15) (us 1)) + nI (z_cn (w 2) (m1 2) (fv 2) (u 15) (us 2))) - (nI (z_cn ((fun s0 i0 => if s0 = 2 ∧ i0 = i then upd (w 2 i) 7 1 else w s0 i0) 1) (m1 1) (fv 1) (u 15) (us 1)) + nI (z_cn ((fun s0 i0 => if s0 = 2 ∧ i0 = i then upd (w 2 i) 7 1 else w s0 i0) 2) (m1 2) (fv 2) (u 15) (us 2))) = r ∧ f1 q = some (.inr (3, gV (upd (w 2 i) 7 1) (m1 2 i))) ∧ ∀ (zq : Nat) (zx : va_E), zq ≠ q → f zq = some zx → f1 zq = some zx) 0 0 := by
  refine hm_enter (Qc := fun sz => va_Qi _ (hm_R D vwCl (tyL k) f sz) (hm_A f sz)) (by decide) rfl (Nat.le_of_ble_eq_true rfl) ?_
  intro pg e s m below meth cd ls X0 hr hlk hin hK hM hS hA hl Q hQ
  have X : CallFix pg m cd b_GrantServer_revoke 4 s ([.ref h, .int x, .int y] : List Value).toArray TB R_GrantServer := ⟨X0.1, X0.2.1, X0.2.2.1, X0.2.2.2.1, fun w h => X0.2.2.2.2 w (List.mem_cons_of_mem _ h)⟩
  have hx := X.1; have hb := X.2.1; have hml := X.2.2.1; have hown := X.2.2.2.1; have hts := X.2.2.2.2
  have hl : lv_has ls 4 [(0, .ref h), (1, .int x), (2, .int y)] := hl
  refine lv_aload_n hx hb d_GrantServer_revoke_0 rfl (lv_at hl 0 rfl) ?_
  refine hm_get X hK hM hh fl_GrantServer_54 (v := .int (u 13)) rfl d_GrantServer_revoke_1 ?_
  refine lv_iconst (v := (-1)) hx hb d_GrantServer_revoke_4 (by decide) ?_
  refine lv_icmp_ne (tgt := 11) hx hb d_GrantServer_revoke_5 (by decide) (fun h1 => ?_) (fun h1 => ?_)
  · refine lv_iload_n hx hb d_GrantServer_revoke_11 rfl (lv_at hl 1 rfl) ?_
    refine lv_iconst (v := 1) hx hb d_GrantServer_revoke_12 (by decide) ?_
    refine lv_icmp_eq (tgt := 23) hx hb d_GrantServer_revoke_13 (by decide) (fun h2 => ?_) (fun h2 => ?_)
    · exact absurd (hk.symm.trans h2) (by decide)
    · refine lv_iload_n hx hb d_GrantServer_revoke_16 rfl (lv_at hl 1 rfl) ?_
      refine lv_iconst (v := 2) hx hb d_GrantServer_revoke_17 (by decide) ?_
      refine lv_icmp_eq (tgt := 23) hx hb d_GrantServer_revoke_18 (by decide) (fun h3 => ?_) (fun h3 => ?_)
      · refine lv_aload_n hx hb d_GrantServer_revoke_23 rfl (lv_at hl 0 rfl) ?_
        refine hm_calli hS hM hA (va_runV (As := []) (rest := []) X (c_activeTokens l D k f h u ad us g w m1 fs fa fv hh hs1 hr1 hs2 hr2 hu1 hrows1 hfam1 hu2 hrows2 hfam2 s.heap.size) (hm_cwV hts me_GrantServer_activeTokens wl_GrantServer_168 rfl rfl ⟨Nat.le_of_ble_eq_true rfl, Nat.le_of_ble_eq_true rfl⟩) (hm_preV hM hK hh rfl) rfl rfl hl.1 rfl (lv_room (Nat.le_of_ble_eq_true rfl)) d_GrantServer_revoke_24 ⟨Nat.le_of_ble_eq_true rfl, Nat.le_of_ble_eq_true rfl⟩) (fun r6 f4 H locs p5 hM hS => ?_)
        obtain ⟨rfl, rfl⟩ := p5
        refine lv_istore_n (lv' := [(3, .int (nI (z_cn (w 1) (m1 1) (fv 1) (u 15) (us 1)) + nI (z_cn (w 2) (m1 2) (fv 2) (u 15) (us 2)))), (0, .ref h), (1, .int x), (2, .int y)]) hx hb d_GrantServer_revoke_27 rfl hl (by decide) rfl (fun ls hl => ?_)
        refine lv_iload_n hx hb d_GrantServer_revoke_28 rfl (lv_at hl 2 rfl) ?_
        refine lv_iconst (v := 1) hx hb d_GrantServer_revoke_29 (by decide) ?_
        refine lv_icmp_ne (tgt := 51) hx hb d_GrantServer_revoke_30 (by decide) (fun h7 => ?_) (fun h7 => ?_)
        · refine lv_aload_n hx hb d_GrantServer_revoke_51 rfl (lv_at hl 1 rfl) ?_
          refine hm_get X hK hM hh fl_GrantServer_27 (v := .ref (ad 6)) rfl d_GrantServer_revoke_52 ?_
          refine lv_iload_n hx hb d_GrantServer_revoke_55 rfl (lv_at hl 3 rfl) ?_
          refine lv_aload_n hx hb d_GrantServer_revoke_56 rfl (lv_at hl 1 rfl) ?_
          refine hm_get X hK hM hh fl_GrantServer_54 (v := .int (u 13)) rfl d_GrantServer_revoke_57 ?_
          refine hm_callq hS hM hA (va_runV (As := [.int y, .int (u 13)]) (rest := []) X (c_findOwned l D k f (ad 6) (ad 16) 24 (us 2) (g 2) (w 2) (m1 2) i q y (u 13) hs2 hr2 hq hu2 (by decide) hrows2 hfi hgq ho H.size) (hm_cwV hts me_Shelf_findOwned wl_GrantServer_129 rfl rfl ⟨Nat.le_of_ble_eq_true rfl, Nat.le_of_ble_eq_true rfl⟩) (hm_preV hM hK hs2 rfl) rfl rfl hl.1 rfl (lv_room (Nat.le_of_ble_eq_true rfl)) d_GrantServer_revoke_60 ⟨Nat.le_of_ble_eq_true rfl, Nat.le_of_ble_eq_true rfl⟩) (fun r10 f8 H locs p9 hM hS => ?_)
          obtain ⟨rfl, rfl⟩ := p9
          refine hm_callv hS hM hA (va_runS (As := [.ref q]) (rest := []) X (c_revokeAlone l D k f q (w 2 i) (m1 2 i) hq  H.size) (hm_cwS hts me_GrantServer_revokeAlone wl_GrantServer_175 rfl rfl ⟨Nat.le_of_ble_eq_true rfl, Nat.le_of_ble_eq_true rfl⟩) (hm_preS hM hK) rfl rfl hl.1 rfl (lv_room (Nat.le_of_ble_eq_true rfl)) d_GrantServer_revoke_63 ⟨Nat.le_of_ble_eq_true rfl, Nat.le_of_ble_eq_true rfl⟩) (fun f11 H locs p12 hM hS => ?_)
          obtain ⟨g13, hfr14⟩ := p12
          refine lv_iload_n hx hb d_GrantServer_revoke_66 rfl (lv_at hl 0 rfl) ?_
          refine lv_aload_n hx hb d_GrantServer_revoke_67 rfl (lv_at hl 1 rfl) ?_
          have g15 : f11 h = some (.inr (0, gsV u ad)) := hfr14 _ _ (hm_neI hh hq (by decide)) hh
          have g16 : f11 (ad 5) = some (.inr (4, [.ref (ad 15), .int (nI (us 1))])) := hfr14 _ _ (hm_neI hs1 hq (by decide)) hs1
          have g17 : f11 (ad 15) = some (.inl (k 3, 24, .inr (.inr (.inr (.inr (g 1)))))) := hfr14 _ _ ((hm_neA hq hr1).symm) hr1
          have g18 : f11 (ad 6) = some (.inr (4, [.ref (ad 16), .int (nI (us 2))])) := hfr14 _ _ (hm_neI hs2 hq (by decide)) hs2
          have g19 : f11 (ad 16) = some (.inl (k 3, 24, .inr (.inr (.inr (.inr (g 2)))))) := hfr14 _ _ ((hm_neA hq hr2).symm) hr2
          refine hm_calli hS hM hA (va_runV (As := []) (rest := [.int (nI (z_cn (w 1) (m1 1) (fv 1) (u 15) (us 1)) + nI (z_cn (w 2) (m1 2) (fv 2) (u 15) (us 2)))]) X (c_activeTokens l D k f11 h u ad us g (fun s0 i0 => if s0 = 2 ∧ i0 = i then upd (w 2 i) 7 1 else w s0 i0) m1 fs fa fv g15 g16 g17 g18 g19 hu1 (fun i0 h0 => by obtain ⟨q0, e1, e2⟩ := hrows1 i0 h0; refine ⟨q0, e1, ?_⟩; rw [if_neg (fun z => absurd z.1 (by decide))]; exact hfr14 _ _ (fun z => hne1 i0 h0 (z ▸ e1)) e2) (fun i0 h0 z0 hz0 => by have e2 := hfam1 i0 h0 z0 hz0; exact hfr14 _ _ (hm_neI e2 hq (by decide)) e2) hu2 (fun i0 h0 => by obtain ⟨q0, e1, e2⟩ := hrows2 i0 h0; by_cases e0 : i0 = i; (· subst e0; refine ⟨q, hgq, ?_⟩; rw [if_pos ⟨rfl, rfl⟩]; exact g13); (· refine ⟨q0, e1, ?_⟩; rw [if_neg (fun z => e0 z.2)]; exact hfr14 _ _ (fun z => e0 (hne2 i0 h0 (z ▸ e1))) e2)) (fun i0 h0 z0 hz0 => by have e2 := hfam2 i0 h0 z0 hz0; exact hfr14 _ _ (hm_neI e2 hq (by decide)) e2) H.size) (hm_cwV hts me_GrantServer_activeTokens wl_GrantServer_168 rfl rfl ⟨Nat.le_of_ble_eq_true rfl, Nat.le_of_ble_eq_true rfl⟩) (hm_preV hM hK g15 rfl) rfl rfl hl.1 rfl (lv_room (Nat.le_of_ble_eq_true rfl)) d_GrantServer_revoke_68 ⟨Nat.le_of_ble_eq_true rfl, Nat.le_of_ble_eq_true rfl⟩) (fun r22 f20 H locs p21 hM hS => ?_)
          obtain ⟨rfl, rfl⟩ := p21
          refine lv_isub hx hb d_GrantServer_revoke_71 ?_
          exact hm_iret X hQ hr hlk hK hM hS d_GrantServer_revoke_72 ⟨rfl, g13, (fun zq zx n0 hq => by have t0 := hq; have t1 := hfr14 _ _ n0 t0; exact t1)⟩
        · exact absurd (hk.symm.trans h7) (by decide)
      · exact absurd hk h3
  · exact absurd h1 hlog
set_option maxHeartbeats 4000000 in
set_option maxRecDepth 100000 in
theorem c_hasActiveA (l : Launch) (D : va_G) (k : Nat → ClassId) (f : hm) (h : Nat) (a : Nat) (N : Nat) (u : Nat) (g : Nat → Option Nat) (w : Nat → Nat → Int32) (m1 : Nat → Option Nat) (fs : Nat → Int32) (fa : Nat → Int32) (fv : Nat → Int32) (x : Int32) (y : Int32) (hh : f h = some (.inr (4, [.ref a, .int (nI u)]))) (ha : f a = some (.inl (k 3, N, .inr (.inr (.inr (.inr g)))))) (hu : u ≤ N) (hN : N ≤ 24) (hrows : ∀ i, i < u → ∃ q, g i = some q ∧ f q = some (.inr (3, gV (w i) (m1 i)))) (hfam : ∀ i, i < u → ∀ z, m1 i = some z → f z = some (.inr (2, [.int (fs i), .int (fa i), .int (fv i)]))) : hm_Mi l D vwCl (tyL k) y_Shelf_hasActive (Cond.code y_Shelf_hasActive b_Shelf_hasActive 4 (some .boolean) :: TB) ({ frames := 1, cells := 0, slots := 0, locals := 22 }) [.ref h, .int x, .int y] f (fun (r : Int32) (f1 : hm) => z_ha w m1 fv y u x = r ∧ f = f1) 0 0 := by
  refine hm_enter (Qc := fun sz => va_Qi _ (hm_R D vwCl (tyL k) f sz) (hm_A f sz)) (by decide) rfl (Nat.le_of_ble_eq_true rfl) ?_
  intro pg e s m below meth cd ls X0 hr hlk hin hK hM hS hA hl Q hQ
  have X : CallFix pg m cd b_Shelf_hasActive 4 s ([.ref h, .int x, .int y] : List Value).toArray TB R_Shelf := ⟨X0.1, X0.2.1, X0.2.2.1, X0.2.2.2.1, fun w h => X0.2.2.2.2 w (List.mem_cons_of_mem _ h)⟩
  have hx := X.1; have hb := X.2.1; have hml := X.2.2.1; have hown := X.2.2.2.1; have hts := X.2.2.2.2
  have hl : lv_has ls 4 [(0, .ref h), (1, .int x), (2, .int y)] := hl
  refine lv_aload_n hx hb d_Shelf_hasActive_0 rfl (lv_at hl 0 rfl) ?_
  refine lv_iload_n hx hb d_Shelf_hasActive_1 rfl (lv_at hl 1 rfl) ?_
  refine hm_callq hS hM hA (va_runV (As := [.int x]) (rest := []) X (c_find l D k f h a N u g w m1 x hh ha hu hN hrows s.heap.size) (hm_cwV hts me_Shelf_find wl_Shelf_27 rfl rfl ⟨Nat.le_of_ble_eq_true rfl, Nat.le_of_ble_eq_true rfl⟩) (hm_preV hM hK hh rfl) rfl rfl hl.1 rfl (lv_room (Nat.le_of_ble_eq_true rfl)) d_Shelf_hasActive_2 ⟨Nat.le_of_ble_eq_true rfl, Nat.le_of_ble_eq_true rfl⟩) (fun r3 f1 H locs p2 hM hS => ?_)
  obtain ⟨rfl, rfl⟩ := p2
  cases hfi : z_fi w x u 0 with
  | none =>
    refine hm_topq (show (none : Option Nat).bind g = none from rfl) ?_
    refine lv_astore_nN (lv' := [(3, .null), (0, .ref h), (1, .int x), (2, .int y)]) hx hb d_Shelf_hasActive_5 rfl hl (by decide) rfl (fun ls hl => ?_)
    refine lv_aload_nN hx hb d_Shelf_hasActive_6 rfl (lv_at hl 0 rfl) ?_
    refine lv_ifnullN (tgt := 22) hx hb d_Shelf_hasActive_7 (by decide) ?_
    refine lv_iconst (v := 0) hx hb d_Shelf_hasActive_22 (by decide) ?_
    exact hm_zret X hQ hr hlk hK hM hS rfl d_Shelf_hasActive_23 ⟨(z_ha_n hfi), rfl⟩
  | some i =>
    obtain ⟨q, hgq, hq⟩ := hrows i (by have := z_fi_some hfi; omega)
    have hfam := hfam i (by have := z_fi_some hfi; omega)
    refine hm_topq (show (some i).bind g = some q from hgq) ?_
    refine lv_astore_n (lv' := [(3, .ref q), (0, .ref h), (1, .int x), (2, .int y)]) hx hb d_Shelf_hasActive_5 rfl hl (by decide) rfl (fun ls hl => ?_)
    refine lv_aload_n hx hb d_Shelf_hasActive_6 rfl (lv_at hl 0 rfl) ?_
    refine lv_ifnull hx hb d_Shelf_hasActive_7 ?_
    refine lv_aload_n hx hb d_Shelf_hasActive_10 rfl (lv_at hl 0 rfl) ?_
    refine lv_iload_n hx hb d_Shelf_hasActive_11 rfl (lv_at hl 3 rfl) ?_
    refine hm_calli hS hM hA (va_runV (As := [.int y]) (rest := []) X (c_Grant_isActive l D k f q (w i) (m1 i) (fs i) (fa i) (fv i) y hq hfam H.size) (hm_cwV hts me_Grant_isActive wl_Shelf_34 rfl rfl ⟨Nat.le_of_ble_eq_true rfl, Nat.le_of_ble_eq_true rfl⟩) (hm_preV hM hK hq rfl) rfl rfl hl.1 rfl (lv_room (Nat.le_of_ble_eq_true rfl)) d_Shelf_hasActive_12 ⟨Nat.le_of_ble_eq_true rfl, Nat.le_of_ble_eq_true rfl⟩) (fun r6 f4 H locs p5 hM hS => ?_)
    obtain ⟨rfl, rfl⟩ := p5
    refine lv_if_eq (tgt := 22) hx hb d_Shelf_hasActive_15 (by decide) (fun h7 => ?_) (fun h7 => ?_)
    · refine lv_iconst (v := 0) hx hb d_Shelf_hasActive_22 (by decide) ?_
      exact hm_zret X hQ hr hlk hK hM hS rfl d_Shelf_hasActive_23 ⟨(by rw [z_ha_s hfi]; exact h7), rfl⟩
    · refine lv_iconst (v := 1) hx hb d_Shelf_hasActive_18 (by decide) ?_
      refine lv_goto (tgt := 23) hx hb d_Shelf_hasActive_19 (by decide) ?_
      exact hm_zret X hQ hr hlk hK hM hS rfl d_Shelf_hasActive_23 ⟨(by rw [z_ha_s hfi]; exact (z_act_b h7)), rfl⟩
set_option maxHeartbeats 4000000 in
set_option maxRecDepth 100000 in
theorem c_judge (l : Launch) (D : va_G) (k : Nat → ClassId) (f : hm) (h : Nat) (u : Nat → Int32) (ad : Nat → Nat) (us : Nat → Nat) (g : Nat → Nat → Option Nat) (w : Nat → Nat → Nat → Int32) (m1 : Nat → Nat → Option Nat) (fs : Nat → Nat → Int32) (fa : Nat → Nat → Int32) (fv : Nat → Nat → Int32) (z : Int32) (rd : Nat → Int32) (au : Int32) (sc : Int32) (hh : f h = some (.inr (0, gsV u ad))) (hs2 : f (ad 6) = some (.inr (4, [.ref (ad 16), .int (nI (us 2))]))) (hr2 : f (ad 16) = some (.inl (k 3, 24, .inr (.inr (.inr (.inr (g 2))))))) (hrd : f (ad 10) = some (.inr (7, [.ref (ad 20), .ref (ad 21), .int z]))) (hva : f (ad 20) = some (.inl (k 0, 5, .inl rd))) (hu2 : us 2 ≤ 24) (hrows2 : ∀ i, i < us 2 → ∃ q, g 2 i = some q ∧ f q = some (.inr (3, gV (w 2 i) (m1 2 i)))) (hfam2 : ∀ i, i < us 2 → ∀ z, m1 2 i = some z → f z = some (.inr (2, [.int (fs 2 i), .int (fa 2 i), .int (fv 2 i)]))) : hm_Mi l D vwCl (tyL k) y_GrantServer_judgeClaims (Cond.code y_GrantServer_judgeClaims b_GrantServer_judgeClaims 3 (some .int) :: TB) ({ frames := 2, cells := 0, slots := 0, locals := 45 }) [.ref h, .int au, .int sc] f (fun (r : Int32) (f1 : hm) => a_ck rd (u 15) (z_de (z_ha (w 2) (m1 2) (fv 2) (u 15) (us 2) (rd 3))) au sc = r ∧ f = f1) 0 0 := by
  refine hm_enter (Qc := fun sz => va_Qi _ (hm_R D vwCl (tyL k) f sz) (hm_A f sz)) (by decide) rfl (Nat.le_of_ble_eq_true rfl) ?_
  intro pg e s m below meth cd ls X0 hr hlk hin hK hM hS hA hl Q hQ
  have X : CallFix pg m cd b_GrantServer_judgeClaims 3 s ([.ref h, .int au, .int sc] : List Value).toArray TB R_GrantServer := ⟨X0.1, X0.2.1, X0.2.2.1, X0.2.2.2.1, fun w h => X0.2.2.2.2 w (List.mem_cons_of_mem _ h)⟩
  have hx := X.1; have hb := X.2.1; have hml := X.2.2.1; have hown := X.2.2.2.1; have hts := X.2.2.2.2
  have hl : lv_has ls 3 [(0, .ref h), (1, .int au), (2, .int sc)] := hl
  refine lv_aload_n hx hb d_GrantServer_judgeClaims_0 rfl (lv_at hl 0 rfl) ?_
  refine hm_get X hK hM hh fl_GrantServer_46 (v := .ref (ad 10)) rfl d_GrantServer_judgeClaims_1 ?_
  refine lv_iconst (v := 2) hx hb d_GrantServer_judgeClaims_4 (by decide) ?_
  refine hm_calli hS hM hA (va_runV (As := [.int 2]) (rest := []) X (c_value l D k f (ad 10) (ad 20) (ad 21) z rd 2 hrd hva (by decide) s.heap.size) (hm_cwV hts me_ClaimsReader_value wl_GrantServer_288 rfl rfl ⟨Nat.le_of_ble_eq_true rfl, Nat.le_of_ble_eq_true rfl⟩) (hm_preV hM hK hrd rfl) rfl rfl hl.1 rfl (lv_room (Nat.le_of_ble_eq_true rfl)) d_GrantServer_judgeClaims_5 ⟨Nat.le_of_ble_eq_true rfl, Nat.le_of_ble_eq_true rfl⟩) (fun r3 f1 H locs p2 hM hS => ?_)
  obtain ⟨rfl, rfl⟩ := p2
  refine lv_aload_n hx hb d_GrantServer_judgeClaims_8 rfl (lv_at hl 0 rfl) ?_
  refine hm_get X hK hM hh fl_GrantServer_60 (v := .int (u 15)) rfl d_GrantServer_judgeClaims_9 ?_
  refine lv_icmp_gt (tgt := 18) hx hb d_GrantServer_judgeClaims_12 (by decide) (fun h4 => ?_) (fun h4 => ?_)
  · refine lv_aload_n hx hb d_GrantServer_judgeClaims_18 rfl (lv_at hl 0 rfl) ?_
    refine hm_get X hK hM hh fl_GrantServer_27 (v := .ref (ad 6)) rfl d_GrantServer_judgeClaims_19 ?_
    refine lv_aload_n hx hb d_GrantServer_judgeClaims_22 rfl (lv_at hl 0 rfl) ?_
    refine hm_get X hK hM hh fl_GrantServer_46 (v := .ref (ad 10)) rfl d_GrantServer_judgeClaims_23 ?_
    refine lv_iconst (v := 3) hx hb d_GrantServer_judgeClaims_26 (by decide) ?_
    refine hm_calli hS hM hA (va_runV (As := [.int 3]) (rest := [.ref (ad 6)]) X (c_value l D k f (ad 10) (ad 20) (ad 21) z rd 3 hrd hva (by decide) H.size) (hm_cwV hts me_ClaimsReader_value wl_GrantServer_288 rfl rfl ⟨Nat.le_of_ble_eq_true rfl, Nat.le_of_ble_eq_true rfl⟩) (hm_preV hM hK hrd rfl) rfl rfl hl.1 rfl (lv_room (Nat.le_of_ble_eq_true rfl)) d_GrantServer_judgeClaims_27 ⟨Nat.le_of_ble_eq_true rfl, Nat.le_of_ble_eq_true rfl⟩) (fun r7 f5 H locs p6 hM hS => ?_)
    obtain ⟨rfl, rfl⟩ := p6
    refine lv_aload_n hx hb d_GrantServer_judgeClaims_30 rfl (lv_at hl 0 rfl) ?_
    refine hm_get X hK hM hh fl_GrantServer_60 (v := .int (u 15)) rfl d_GrantServer_judgeClaims_31 ?_
    refine hm_calli hS hM hA (va_runV (As := [.int (rd 3), .int (u 15)]) (rest := []) X (c_hasActiveA l D k f (ad 6) (ad 16) 24 (us 2) (g 2) (w 2) (m1 2) (fs 2) (fa 2) (fv 2) (rd 3) (u 15) hs2 hr2 hu2 (by decide) hrows2 hfam2 H.size) (hm_cwV hts me_Shelf_hasActive wl_GrantServer_182 rfl rfl ⟨Nat.le_of_ble_eq_true rfl, Nat.le_of_ble_eq_true rfl⟩) (hm_preV hM hK hs2 rfl) rfl rfl hl.1 rfl (lv_room (Nat.le_of_ble_eq_true rfl)) d_GrantServer_judgeClaims_34 ⟨Nat.le_of_ble_eq_true rfl, Nat.le_of_ble_eq_true rfl⟩) (fun r10 f8 H locs p9 hM hS => ?_)
    obtain ⟨rfl, rfl⟩ := p9
    refine lv_if_ne (tgt := 43) hx hb d_GrantServer_judgeClaims_37 (by decide) (fun h11 => ?_) (fun h11 => ?_)
    · refine lv_aload_n hx hb d_GrantServer_judgeClaims_43 rfl (lv_at hl 0 rfl) ?_
      refine hm_get X hK hM hh fl_GrantServer_46 (v := .ref (ad 10)) rfl d_GrantServer_judgeClaims_44 ?_
      refine lv_iconst (v := 1) hx hb d_GrantServer_judgeClaims_47 (by decide) ?_
      refine hm_calli hS hM hA (va_runV (As := [.int 1]) (rest := []) X (c_value l D k f (ad 10) (ad 20) (ad 21) z rd 1 hrd hva (by decide) H.size) (hm_cwV hts me_ClaimsReader_value wl_GrantServer_288 rfl rfl ⟨Nat.le_of_ble_eq_true rfl, Nat.le_of_ble_eq_true rfl⟩) (hm_preV hM hK hrd rfl) rfl rfl hl.1 rfl (lv_room (Nat.le_of_ble_eq_true rfl)) d_GrantServer_judgeClaims_48 ⟨Nat.le_of_ble_eq_true rfl, Nat.le_of_ble_eq_true rfl⟩) (fun r14 f12 H locs p13 hM hS => ?_)
      obtain ⟨rfl, rfl⟩ := p13
      refine lv_iload_n hx hb d_GrantServer_judgeClaims_51 rfl (lv_at hl 1 rfl) ?_
      refine lv_icmp_eq (tgt := 58) hx hb d_GrantServer_judgeClaims_52 (by decide) (fun h15 => ?_) (fun h15 => ?_)
      · refine lv_iload_n hx hb d_GrantServer_judgeClaims_58 rfl (lv_at hl 2 rfl) ?_
        refine lv_bipush (v := 15) hx hb d_GrantServer_judgeClaims_59 (by decide) ?_
        refine lv_iand hx hb d_GrantServer_judgeClaims_61 ?_
        refine lv_aload_n hx hb d_GrantServer_judgeClaims_62 rfl (lv_at hl 0 rfl) ?_
        refine hm_get X hK hM hh fl_GrantServer_46 (v := .ref (ad 10)) rfl d_GrantServer_judgeClaims_63 ?_
        refine lv_iconst (v := 4) hx hb d_GrantServer_judgeClaims_66 (by decide) ?_
        refine hm_calli hS hM hA (va_runV (As := [.int 4]) (rest := [.int (sc &&& 15)]) X (c_value l D k f (ad 10) (ad 20) (ad 21) z rd 4 hrd hva (by decide) H.size) (hm_cwV hts me_ClaimsReader_value wl_GrantServer_288 rfl rfl ⟨Nat.le_of_ble_eq_true rfl, Nat.le_of_ble_eq_true rfl⟩) (hm_preV hM hK hrd rfl) rfl rfl hl.1 rfl (lv_room (Nat.le_of_ble_eq_true rfl)) d_GrantServer_judgeClaims_67 ⟨Nat.le_of_ble_eq_true rfl, Nat.le_of_ble_eq_true rfl⟩) (fun r18 f16 H locs p17 hM hS => ?_)
        obtain ⟨rfl, rfl⟩ := p17
        refine hm_calli hS hM hA (va_runS (As := [.int (sc &&& 15), .int (rd 4)]) (rest := []) X (c_isWithin l D k f (sc &&& 15) (rd 4)   H.size) (hm_cwS hts me_GrantServer_isWithin wl_GrantServer_104 rfl rfl ⟨Nat.le_of_ble_eq_true rfl, Nat.le_of_ble_eq_true rfl⟩) (hm_preS hM hK) rfl rfl hl.1 rfl (lv_room (Nat.le_of_ble_eq_true rfl)) d_GrantServer_judgeClaims_70 ⟨Nat.le_of_ble_eq_true rfl, Nat.le_of_ble_eq_true rfl⟩) (fun r21 f19 H locs p20 hM hS => ?_)
        obtain ⟨rfl, rfl⟩ := p20
        refine lv_if_ne (tgt := 79) hx hb d_GrantServer_judgeClaims_73 (by decide) (fun h22 => ?_) (fun h22 => ?_)
        · refine lv_aload_n hx hb d_GrantServer_judgeClaims_79 rfl (lv_at hl 0 rfl) ?_
          refine hm_get X hK hM hh fl_GrantServer_46 (v := .ref (ad 10)) rfl d_GrantServer_judgeClaims_80 ?_
          refine lv_iconst (v := 0) hx hb d_GrantServer_judgeClaims_83 (by decide) ?_
          refine hm_calli hS hM hA (va_runV (As := [.int 0]) (rest := []) X (c_value l D k f (ad 10) (ad 20) (ad 21) z rd 0 hrd hva (by decide) H.size) (hm_cwV hts me_ClaimsReader_value wl_GrantServer_288 rfl rfl ⟨Nat.le_of_ble_eq_true rfl, Nat.le_of_ble_eq_true rfl⟩) (hm_preV hM hK hrd rfl) rfl rfl hl.1 rfl (lv_room (Nat.le_of_ble_eq_true rfl)) d_GrantServer_judgeClaims_84 ⟨Nat.le_of_ble_eq_true rfl, Nat.le_of_ble_eq_true rfl⟩) (fun r25 f23 H locs p24 hM hS => ?_)
          obtain ⟨rfl, rfl⟩ := p24
          exact hm_iret X hQ hr hlk hK hM hS d_GrantServer_judgeClaims_87 ⟨(Eq.trans (if_neg (Int32.not_le.mpr h4)) (Eq.trans (if_neg (fun q => absurd ((z_de_0 h11).symm.trans q) (by decide))) (Eq.trans (if_neg (fun q => q h15)) (if_neg h22)))), rfl⟩
        · refine lv_bipush (v := (-4)) hx hb d_GrantServer_judgeClaims_76 (by decide) ?_
          exact hm_iret X hQ hr hlk hK hM hS d_GrantServer_judgeClaims_78 ⟨(Eq.trans (if_neg (Int32.not_le.mpr h4)) (Eq.trans (if_neg (fun q => absurd ((z_de_0 h11).symm.trans q) (by decide))) (Eq.trans (if_neg (fun q => q h15)) (if_pos h22)))), rfl⟩
      · refine lv_bipush (v := (-12)) hx hb d_GrantServer_judgeClaims_55 (by decide) ?_
        exact hm_iret X hQ hr hlk hK hM hS d_GrantServer_judgeClaims_57 ⟨(Eq.trans (if_neg (Int32.not_le.mpr h4)) (Eq.trans (if_neg (fun q => absurd ((z_de_0 h11).symm.trans q) (by decide))) (if_pos h15))), rfl⟩
    · refine lv_bipush (v := (-11)) hx hb d_GrantServer_judgeClaims_40 (by decide) ?_
      exact hm_iret X hQ hr hlk hK hM hS d_GrantServer_judgeClaims_42 ⟨(Eq.trans (if_neg (Int32.not_le.mpr h4)) (if_pos (z_de_1 h11))), rfl⟩
  · refine lv_bipush (v := (-10)) hx hb d_GrantServer_judgeClaims_15 (by decide) ?_
    exact hm_iret X hQ hr hlk hK hM hS d_GrantServer_judgeClaims_17 ⟨(if_pos (Int32.not_lt.mp h4)), rfl⟩
set_option maxHeartbeats 4000000 in
set_option maxRecDepth 100000 in
theorem c_ck_form (l : Launch) (D : va_G) (k : Nat → ClassId) (sA sV : Nat → Nat) (f : hm) (h : Nat) (u : Nat → Int32) (ad : Nat → Nat) (n : Nat) (y : Nat → Int32) (ch : Nat → Nat) (ky : Int32) (au : Int32) (sc : Int32) (hh : f h = some (.inr (0, gsV u ad))) (ht0 : f (ad 7) = some (.inr (5, [.ref (ad 17), .int (nI n)]))) (ha0 : f (ad 17) = some (.inl (k 2, 120, .inl y))) (hw : f (ad 11) = some (.inr (6, [.int ky]))) (hn : n ≤ 120) (hx9 : ∀ j, j < n → y j = nI (ch j) ∧ ch j < 127) (hn11 : 11 ≤ n) (hfo : ¬ z_form n y) : hm_MiZ l sA sV D vwCl (tyL k) y_GrantServer_check (Cond.code y_GrantServer_check b_GrantServer_check 3 (some .int) :: TB) ({ frames := 6, cells := 0, slots := 0, locals := 136 }) [.ref h, .int au, .int sc] f (fun (r : Int32) (f1 : hm) => (-7) = r ∧ f = f1) 0 0 := by
  refine hm_enterZ (Qc := fun sz => va_Qi _ (hm_R D vwCl (tyL k) f sz) (hm_A f sz)) (by decide) rfl (Nat.le_of_ble_eq_true rfl) ?_
  intro pg e s m below meth cd ls hZ X0 hr hlk hin hK hM hS hA hl Q hQ
  have X : CallFix pg m cd b_GrantServer_check 3 s ([.ref h, .int au, .int sc] : List Value).toArray TB R_GrantServer := ⟨X0.1, X0.2.1, X0.2.2.1, X0.2.2.2.1, fun w h => X0.2.2.2.2 w (List.mem_cons_of_mem _ h)⟩
  have hx := X.1; have hb := X.2.1; have hml := X.2.2.1; have hown := X.2.2.2.1; have hts := X.2.2.2.2
  have hl : lv_has ls 3 [(0, .ref h), (1, .int au), (2, .int sc)] := hl
  refine lv_aload_n hx hb d_GrantServer_check_0 rfl (lv_at hl 0 rfl) ?_
  refine hm_get X hK hM hh fl_GrantServer_66 (v := .ref (ad 11)) rfl d_GrantServer_check_1 ?_
  refine lv_aload_n hx hb d_GrantServer_check_4 rfl (lv_at hl 0 rfl) ?_
  refine hm_get X hK hM hh fl_GrantServer_33 (v := .ref (ad 7)) rfl d_GrantServer_check_5 ?_
  refine hm_calli hS hM hA (va_runV (As := [.ref (ad 7)]) (rest := []) X (c_hasForm l D k sA sV f (ad 11) (ad 7) (ad 17) n y ch ht0 ha0 hn hx9 hn11 s.heap.size) (hm_cwV hts me_Wrapping_hasForm wl_GrantServer_185 rfl rfl ⟨Nat.le_of_ble_eq_true rfl, Nat.le_of_ble_eq_true rfl⟩) (hm_preVZ hZ hS hA hM hK hw rfl) rfl rfl hl.1 rfl (lv_room (Nat.le_of_ble_eq_true rfl)) d_GrantServer_check_8 ⟨Nat.le_of_ble_eq_true rfl, Nat.le_of_ble_eq_true rfl⟩) (fun r3 f1 H locs p2 hM hS => ?_)
  obtain ⟨h4, rfl⟩ := p2
  have hr9 : r3 = 0 := (h4.resolve_left (fun z => hfo z.2)).1
  refine hm_top (z := 0) hr9 ?_
  refine lv_if_ne (tgt := 17) hx hb d_GrantServer_check_11 (by decide) (fun h5 => ?_) (fun h5 => ?_)
  · exact absurd h5 (by decide)
  · refine lv_bipush (v := (-7)) hx hb d_GrantServer_check_14 (by decide) ?_
    exact hm_iret X hQ hr hlk hK hM hS d_GrantServer_check_16 ⟨rfl, rfl⟩
set_option maxHeartbeats 4000000 in
set_option maxRecDepth 100000 in
theorem c_ck_seal (l : Launch) (D : va_G) (k : Nat → ClassId) (sA sV : Nat → Nat) (f : hm) (h : Nat) (u : Nat → Int32) (ad : Nat → Nat) (n : Nat) (y : Nat → Int32) (ch : Nat → Nat) (ky : Int32) (au : Int32) (sc : Int32) (hh : f h = some (.inr (0, gsV u ad))) (ht0 : f (ad 7) = some (.inr (5, [.ref (ad 17), .int (nI n)]))) (ha0 : f (ad 17) = some (.inl (k 2, 120, .inl y))) (hw : f (ad 11) = some (.inr (6, [.int ky]))) (hn : n ≤ 120) (hx9 : ∀ j, j < n → y j = nI (ch j) ∧ ch j < 127) (hn11 : 11 ≤ n) (hfo : z_form n y) (hse : ¬ z_sealed ky.toInt64 n y) : hm_MiZ l sA sV D vwCl (tyL k) y_GrantServer_check (Cond.code y_GrantServer_check b_GrantServer_check 3 (some .int) :: TB) ({ frames := 6, cells := 0, slots := 0, locals := 136 }) [.ref h, .int au, .int sc] f (fun (r : Int32) (f1 : hm) => (-8) = r ∧ f = f1) 0 0 := by
  refine hm_enterZ (Qc := fun sz => va_Qi _ (hm_R D vwCl (tyL k) f sz) (hm_A f sz)) (by decide) rfl (Nat.le_of_ble_eq_true rfl) ?_
  intro pg e s m below meth cd ls hZ X0 hr hlk hin hK hM hS hA hl Q hQ
  have X : CallFix pg m cd b_GrantServer_check 3 s ([.ref h, .int au, .int sc] : List Value).toArray TB R_GrantServer := ⟨X0.1, X0.2.1, X0.2.2.1, X0.2.2.2.1, fun w h => X0.2.2.2.2 w (List.mem_cons_of_mem _ h)⟩
  have hx := X.1; have hb := X.2.1; have hml := X.2.2.1; have hown := X.2.2.2.1; have hts := X.2.2.2.2
  have hl : lv_has ls 3 [(0, .ref h), (1, .int au), (2, .int sc)] := hl
  refine lv_aload_n hx hb d_GrantServer_check_0 rfl (lv_at hl 0 rfl) ?_
  refine hm_get X hK hM hh fl_GrantServer_66 (v := .ref (ad 11)) rfl d_GrantServer_check_1 ?_
  refine lv_aload_n hx hb d_GrantServer_check_4 rfl (lv_at hl 0 rfl) ?_
  refine hm_get X hK hM hh fl_GrantServer_33 (v := .ref (ad 7)) rfl d_GrantServer_check_5 ?_
  refine hm_calli hS hM hA (va_runV (As := [.ref (ad 7)]) (rest := []) X (c_hasForm l D k sA sV f (ad 11) (ad 7) (ad 17) n y ch ht0 ha0 hn hx9 hn11 s.heap.size) (hm_cwV hts me_Wrapping_hasForm wl_GrantServer_185 rfl rfl ⟨Nat.le_of_ble_eq_true rfl, Nat.le_of_ble_eq_true rfl⟩) (hm_preVZ hZ hS hA hM hK hw rfl) rfl rfl hl.1 rfl (lv_room (Nat.le_of_ble_eq_true rfl)) d_GrantServer_check_8 ⟨Nat.le_of_ble_eq_true rfl, Nat.le_of_ble_eq_true rfl⟩) (fun r3 f1 H locs p2 hM hS => ?_)
  obtain ⟨h4, rfl⟩ := p2
  have hr9 : r3 = 1 := (h4.resolve_right (fun z => z.2 hfo)).1
  refine hm_top (z := 1) hr9 ?_
  refine lv_if_ne (tgt := 17) hx hb d_GrantServer_check_11 (by decide) (fun h5 => ?_) (fun h5 => ?_)
  · refine lv_aload_n hx hb d_GrantServer_check_17 rfl (lv_at hl 0 rfl) ?_
    refine hm_get X hK hM hh fl_GrantServer_66 (v := .ref (ad 11)) rfl d_GrantServer_check_18 ?_
    refine lv_aload_n hx hb d_GrantServer_check_21 rfl (lv_at hl 0 rfl) ?_
    refine hm_get X hK hM hh fl_GrantServer_33 (v := .ref (ad 7)) rfl d_GrantServer_check_22 ?_
    refine hm_calli hS hM hA (va_runV (As := [.ref (ad 7)]) (rest := []) X (c_hasSeal l D k sA sV f (ad 11) ky (ad 7) (ad 17) n y hw ht0 ha0 hn hn11 H.size) (hm_cwV hts me_Wrapping_hasSeal wl_GrantServer_189 rfl rfl ⟨Nat.le_of_ble_eq_true rfl, Nat.le_of_ble_eq_true rfl⟩) (hm_preVZ hZ hS hA hM hK hw rfl) rfl rfl hl.1 rfl (lv_room (Nat.le_of_ble_eq_true rfl)) d_GrantServer_check_25 ⟨Nat.le_of_ble_eq_true rfl, Nat.le_of_ble_eq_true rfl⟩) (fun r8 f6 H locs p7 hM hS => ?_)
    obtain ⟨h9, rfl⟩ := p7
    have hr9 : r8 = 0 := (h9.resolve_left (fun z => hse z.2)).1
    refine hm_top (z := 0) hr9 ?_
    refine lv_if_ne (tgt := 34) hx hb d_GrantServer_check_28 (by decide) (fun h10 => ?_) (fun h10 => ?_)
    · exact absurd h10 (by decide)
    · refine lv_bipush (v := (-8)) hx hb d_GrantServer_check_31 (by decide) ?_
      exact hm_iret X hQ hr hlk hK hM hS d_GrantServer_check_33 ⟨rfl, rfl⟩
  · exact absurd h5 (by decide)
set_option maxHeartbeats 4000000 in
set_option maxRecDepth 100000 in
theorem c_ck (l : Launch) (D : va_G) (k : Nat → ClassId) (sA sV : Nat → Nat) (f : hm) (h : Nat) (u : Nat → Int32) (ad : Nat → Nat) (us : Nat → Nat) (g : Nat → Nat → Option Nat) (w : Nat → Nat → Nat → Int32) (m1 : Nat → Nat → Option Nat) (fs : Nat → Nat → Int32) (fa : Nat → Nat → Int32) (fv : Nat → Nat → Int32) (n : Nat) (y : Nat → Int32) (ch : Nat → Nat) (ky : Int32) (au : Int32) (sc : Int32) (n9 : Int32) (y9 : Nat → Int32) (z : Int32) (rd : Nat → Int32) (rs : Nat → Int32) (hh : f h = some (.inr (0, gsV u ad))) (hs2 : f (ad 6) = some (.inr (4, [.ref (ad 16), .int (nI (us 2))]))) (hr2 : f (ad 16) = some (.inl (k 3, 24, .inr (.inr (.inr (.inr (g 2))))))) (ht0 : f (ad 7) = some (.inr (5, [.ref (ad 17), .int (nI n)]))) (ha0 : f (ad 17) = some (.inl (k 2, 120, .inl y))) (ht2 : f (ad 9) = some (.inr (5, [.ref (ad 19), .int n9]))) (ha2 : f (ad 19) = some (.inl (k 2, 120, .inl y9))) (hw : f (ad 11) = some (.inr (6, [.int ky]))) (hrd : f (ad 10) = some (.inr (7, [.ref (ad 20), .ref (ad 21), .int z]))) (hva : f (ad 20) = some (.inl (k 0, 5, .inl rd))) (hsa : f (ad 21) = some (.inl (k 1, 5, .inl rs))) (hap : gs_ap ad) (hn : n ≤ 120) (hx9 : ∀ j, j < n → y j = nI (ch j) ∧ ch j < 127) (hn11 : 11 ≤ n) (hfo : z_form n y) (hse : z_sealed ky.toInt64 n y) (hu2 : us 2 ≤ 24) (hrows2 : ∀ i, i < us 2 → ∃ q, g 2 i = some q ∧ f q = some (.inr (3, gV (w 2 i) (m1 2 i)))) (hfam2 : ∀ i, i < us 2 → ∀ z, m1 2 i = some z → f z = some (.inr (2, [.int (fs 2 i), .int (fa 2 i), .int (fv 2 i)]))) : hm_MiZ l sA sV D vwCl (tyL k) y_GrantServer_check (Cond.code y_GrantServer_check b_GrantServer_check 3 (some .int) :: TB) ({ frames := 8, cells := 0, slots := 0, locals := 175 }) [.ref h, .int au, .int sc] f (fun (r : Int32) (f1 : hm) => ∃ (y1 : Nat → Int32) (p' : Nat) (rd' : Nat → Int32) (rs' : Nat → Int32), (∀ e, e < (n - 11) * 6 / 8 → y1 e = nI (z_eight y e)) ∧ ((a_ck rd' (u 15) (z_de (z_ha (w 2) (m1 2) (fv 2) (u 15) (us 2) (rd' 3))) au sc = r ∧ z_read ((n - 11) * 6 / 8) y1 rs rd = some rd') ∨ (-9 = r ∧ z_read ((n - 11) * 6 / 8) y1 rs rd = none)) ∧ f1 (ad 9) = some (.inr (5, [.ref (ad 19), .int (nI ((n - 11) * 6 / 8))])) ∧ f1 (ad 19) = some (.inl (k 2, 120, .inl y1)) ∧ f1 (ad 10) = some (.inr (7, [.ref (ad 20), .ref (ad 21), .int (nI p')])) ∧ f1 (ad 20) = some (.inl (k 0, 5, .inl rd')) ∧ f1 (ad 21) = some (.inl (k 1, 5, .inl rs')) ∧ ∀ (zq : Nat) (zx : va_E), zq ≠ (ad 9) → zq ≠ (ad 19) → zq ≠ (ad 10) → zq ≠ (ad 20) → zq ≠ (ad 21) → f zq = some zx → f1 zq = some zx) 0 0 := by
  refine hm_enterZ (Qc := fun sz => va_Qi _ (hm_R D vwCl (tyL k) f sz) (hm_A f sz)) (by decide) rfl (Nat.le_of_ble_eq_true rfl) ?_
  intro pg e s m below meth cd ls hZ X0 hr hlk hin hK hM hS hA hl Q hQ
  have X : CallFix pg m cd b_GrantServer_check 3 s ([.ref h, .int au, .int sc] : List Value).toArray TB R_GrantServer := ⟨X0.1, X0.2.1, X0.2.2.1, X0.2.2.2.1, fun w h => X0.2.2.2.2 w (List.mem_cons_of_mem _ h)⟩
  have hx := X.1; have hb := X.2.1; have hml := X.2.2.1; have hown := X.2.2.2.1; have hts := X.2.2.2.2
  have hl : lv_has ls 3 [(0, .ref h), (1, .int au), (2, .int sc)] := hl
  refine lv_aload_n hx hb d_GrantServer_check_0 rfl (lv_at hl 0 rfl) ?_
  refine hm_get X hK hM hh fl_GrantServer_66 (v := .ref (ad 11)) rfl d_GrantServer_check_1 ?_
  refine lv_aload_n hx hb d_GrantServer_check_4 rfl (lv_at hl 0 rfl) ?_
  refine hm_get X hK hM hh fl_GrantServer_33 (v := .ref (ad 7)) rfl d_GrantServer_check_5 ?_
  refine hm_calli hS hM hA (va_runV (As := [.ref (ad 7)]) (rest := []) X (c_hasForm l D k sA sV f (ad 11) (ad 7) (ad 17) n y ch ht0 ha0 hn hx9 hn11 s.heap.size) (hm_cwV hts me_Wrapping_hasForm wl_GrantServer_185 rfl rfl ⟨Nat.le_of_ble_eq_true rfl, Nat.le_of_ble_eq_true rfl⟩) (hm_preVZ hZ hS hA hM hK hw rfl) rfl rfl hl.1 rfl (lv_room (Nat.le_of_ble_eq_true rfl)) d_GrantServer_check_8 ⟨Nat.le_of_ble_eq_true rfl, Nat.le_of_ble_eq_true rfl⟩) (fun r3 f1 H locs p2 hM hS => ?_)
  obtain ⟨h4, rfl⟩ := p2
  have hr9 : r3 = 1 := (h4.resolve_right (fun z => z.2 hfo)).1
  refine hm_top (z := 1) hr9 ?_
  refine lv_if_ne (tgt := 17) hx hb d_GrantServer_check_11 (by decide) (fun h5 => ?_) (fun h5 => ?_)
  · refine lv_aload_n hx hb d_GrantServer_check_17 rfl (lv_at hl 0 rfl) ?_
    refine hm_get X hK hM hh fl_GrantServer_66 (v := .ref (ad 11)) rfl d_GrantServer_check_18 ?_
    refine lv_aload_n hx hb d_GrantServer_check_21 rfl (lv_at hl 0 rfl) ?_
    refine hm_get X hK hM hh fl_GrantServer_33 (v := .ref (ad 7)) rfl d_GrantServer_check_22 ?_
    refine hm_calli hS hM hA (va_runV (As := [.ref (ad 7)]) (rest := []) X (c_hasSeal l D k sA sV f (ad 11) ky (ad 7) (ad 17) n y hw ht0 ha0 hn hn11 H.size) (hm_cwV hts me_Wrapping_hasSeal wl_GrantServer_189 rfl rfl ⟨Nat.le_of_ble_eq_true rfl, Nat.le_of_ble_eq_true rfl⟩) (hm_preVZ hZ hS hA hM hK hw rfl) rfl rfl hl.1 rfl (lv_room (Nat.le_of_ble_eq_true rfl)) d_GrantServer_check_25 ⟨Nat.le_of_ble_eq_true rfl, Nat.le_of_ble_eq_true rfl⟩) (fun r8 f6 H locs p7 hM hS => ?_)
    obtain ⟨h9, rfl⟩ := p7
    have hr9 : r8 = 1 := (h9.resolve_right (fun z => z.2 hse)).1
    refine hm_top (z := 1) hr9 ?_
    refine lv_if_ne (tgt := 34) hx hb d_GrantServer_check_28 (by decide) (fun h10 => ?_) (fun h10 => ?_)
    · refine lv_aload_n hx hb d_GrantServer_check_34 rfl (lv_at hl 0 rfl) ?_
      refine hm_get X hK hM hh fl_GrantServer_66 (v := .ref (ad 11)) rfl d_GrantServer_check_35 ?_
      refine lv_aload_n hx hb d_GrantServer_check_38 rfl (lv_at hl 0 rfl) ?_
      refine hm_get X hK hM hh fl_GrantServer_33 (v := .ref (ad 7)) rfl d_GrantServer_check_39 ?_
      refine lv_aload_n hx hb d_GrantServer_check_42 rfl (lv_at hl 0 rfl) ?_
      refine hm_get X hK hM hh fl_GrantServer_40 (v := .ref (ad 9)) rfl d_GrantServer_check_43 ?_
      refine hm_callv hS hM hA (va_runV (As := [.ref (ad 7), .ref (ad 9)]) (rest := []) X (c_unwrapInto l D k sA sV f (ad 11) (ad 7) (ad 17) n y ch (ad 9) (ad 19) n9 y9 ht0 ha0 ht2 ha2 hn hx9 hfo.2.2.2.1 hn11 (fun z => absurd (hap 7 9 (by decide) (by decide) rfl rfl z) (by decide)) (fun z => absurd (hap 17 19 (by decide) (by decide) rfl rfl z) (by decide)) H.size) (hm_cwV hts me_Wrapping_unwrapInto wl_GrantServer_192 rfl rfl ⟨Nat.le_of_ble_eq_true rfl, Nat.le_of_ble_eq_true rfl⟩) (hm_preVZ hZ hS hA hM hK hw rfl) rfl rfl hl.1 rfl (lv_room (Nat.le_of_ble_eq_true rfl)) d_GrantServer_check_46 ⟨Nat.le_of_ble_eq_true rfl, Nat.le_of_ble_eq_true rfl⟩) (fun f11 H locs p12 hM hS => ?_)
      obtain ⟨x13, h14, g15, g16, hfr17⟩ := p12
      refine lv_aload_n hx hb d_GrantServer_check_49 rfl (lv_at hl 0 rfl) ?_
      have g18 : f11 h = some (.inr (0, gsV u ad)) := hfr17 _ _ (hm_neI hh ht2 (by decide)) (hm_neA hh ha2) hh
      refine hm_get X hK hM g18 fl_GrantServer_46 (v := .ref (ad 10)) rfl d_GrantServer_check_50 ?_
      refine lv_aload_n hx hb d_GrantServer_check_53 rfl (lv_at hl 0 rfl) ?_
      refine hm_get X hK hM g18 fl_GrantServer_40 (v := .ref (ad 9)) rfl d_GrantServer_check_54 ?_
      have g19 : f11 (ad 10) = some (.inr (7, [.ref (ad 20), .ref (ad 21), .int z])) := hfr17 _ _ (fun z => absurd (hap 10 9 (by decide) (by decide) rfl rfl z) (by decide)) (fun z => absurd (hap 10 19 (by decide) (by decide) rfl rfl z) (by decide)) hrd
      have g20 : f11 (ad 20) = some (.inl (k 0, 5, .inl rd)) := hfr17 _ _ (fun z => absurd (hap 20 9 (by decide) (by decide) rfl rfl z) (by decide)) (fun z => absurd (hap 20 19 (by decide) (by decide) rfl rfl z) (by decide)) hva
      have g21 : f11 (ad 21) = some (.inl (k 1, 5, .inl rs)) := hfr17 _ _ (fun z => absurd (hap 21 9 (by decide) (by decide) rfl rfl z) (by decide)) (fun z => absurd (hap 21 19 (by decide) (by decide) rfl rfl z) (by decide)) hsa
      have g22 : f11 (ad 6) = some (.inr (4, [.ref (ad 16), .int (nI (us 2))])) := hfr17 _ _ (fun z => absurd (hap 6 9 (by decide) (by decide) rfl rfl z) (by decide)) (fun z => absurd (hap 6 19 (by decide) (by decide) rfl rfl z) (by decide)) hs2
      have g23 : f11 (ad 16) = some (.inl (k 3, 24, .inr (.inr (.inr (.inr (g 2)))))) := hfr17 _ _ (fun z => absurd (hap 16 9 (by decide) (by decide) rfl rfl z) (by decide)) (fun z => absurd (hap 16 19 (by decide) (by decide) rfl rfl z) (by decide)) hr2
      have g24 : f11 (ad 7) = some (.inr (5, [.ref (ad 17), .int (nI n)])) := hfr17 _ _ (fun z => absurd (hap 7 9 (by decide) (by decide) rfl rfl z) (by decide)) (fun z => absurd (hap 7 19 (by decide) (by decide) rfl rfl z) (by decide)) ht0
      have g25 : f11 (ad 17) = some (.inl (k 2, 120, .inl y)) := hfr17 _ _ (fun z => absurd (hap 17 9 (by decide) (by decide) rfl rfl z) (by decide)) (fun z => absurd (hap 17 19 (by decide) (by decide) rfl rfl z) (by decide)) ha0
      have g26 : f11 (ad 11) = some (.inr (6, [.int ky])) := hfr17 _ _ (fun z => absurd (hap 11 9 (by decide) (by decide) rfl rfl z) (by decide)) (fun z => absurd (hap 11 19 (by decide) (by decide) rfl rfl z) (by decide)) hw
      refine hm_calli hS hM hA (va_runV (As := [.ref (ad 9)]) (rest := []) X (c_reads l D k sA sV f11 (ad 10) (ad 20) (ad 21) z (ad 9) (ad 19) ((n - 11) * 6 / 8) x13 rd rs g19 g15 g16 g20 g21 (by omega) (fun z => absurd (hap 20 21 (by decide) (by decide) rfl rfl z) (by decide)) H.size) (hm_cwV hts me_ClaimsReader_reads wl_GrantServer_196 rfl rfl ⟨Nat.le_of_ble_eq_true rfl, Nat.le_of_ble_eq_true rfl⟩) (hm_preVZ hZ hS hA hM hK g19 rfl) rfl rfl hl.1 rfl (lv_room (Nat.le_of_ble_eq_true rfl)) d_GrantServer_check_57 ⟨Nat.le_of_ble_eq_true rfl, Nat.le_of_ble_eq_true rfl⟩) (fun r29 f27 H locs p28 hM hS => ?_)
      obtain ⟨x30, x31, x32, h33, g34, g35, g36, hfr37⟩ := p28
      rcases h33 with ⟨hr1, hrd9⟩ | ⟨hr1, hrd9⟩
      · refine hm_top (z := 1) hr1 ?_
        refine lv_if_ne (tgt := 66) hx hb d_GrantServer_check_60 (by decide) (fun h38 => ?_) (fun h38 => ?_)
        · refine lv_aload_n hx hb d_GrantServer_check_66 rfl (lv_at hl 0 rfl) ?_
          refine lv_iload_n hx hb d_GrantServer_check_67 rfl (lv_at hl 1 rfl) ?_
          refine lv_iload_n hx hb d_GrantServer_check_68 rfl (lv_at hl 2 rfl) ?_
          have g39 : f27 h = some (.inr (0, gsV u ad)) := hfr37 _ _ (hm_neI g18 g19 (by decide)) (hm_neA g18 g20) (hm_neA g18 g21) g18
          have g40 : f27 (ad 6) = some (.inr (4, [.ref (ad 16), .int (nI (us 2))])) := hfr37 _ _ (fun z => absurd (hap 6 10 (by decide) (by decide) rfl rfl z) (by decide)) (fun z => absurd (hap 6 20 (by decide) (by decide) rfl rfl z) (by decide)) (fun z => absurd (hap 6 21 (by decide) (by decide) rfl rfl z) (by decide)) g22
          have g41 : f27 (ad 16) = some (.inl (k 3, 24, .inr (.inr (.inr (.inr (g 2)))))) := hfr37 _ _ (fun z => absurd (hap 16 10 (by decide) (by decide) rfl rfl z) (by decide)) (fun z => absurd (hap 16 20 (by decide) (by decide) rfl rfl z) (by decide)) (fun z => absurd (hap 16 21 (by decide) (by decide) rfl rfl z) (by decide)) g23
          have g42 : f27 (ad 7) = some (.inr (5, [.ref (ad 17), .int (nI n)])) := hfr37 _ _ (fun z => absurd (hap 7 10 (by decide) (by decide) rfl rfl z) (by decide)) (fun z => absurd (hap 7 20 (by decide) (by decide) rfl rfl z) (by decide)) (fun z => absurd (hap 7 21 (by decide) (by decide) rfl rfl z) (by decide)) g24
          have g43 : f27 (ad 17) = some (.inl (k 2, 120, .inl y)) := hfr37 _ _ (fun z => absurd (hap 17 10 (by decide) (by decide) rfl rfl z) (by decide)) (fun z => absurd (hap 17 20 (by decide) (by decide) rfl rfl z) (by decide)) (fun z => absurd (hap 17 21 (by decide) (by decide) rfl rfl z) (by decide)) g25
          have g44 : f27 (ad 9) = some (.inr (5, [.ref (ad 19), .int (nI ((n - 11) * 6 / 8))])) := hfr37 _ _ (fun z => absurd (hap 9 10 (by decide) (by decide) rfl rfl z) (by decide)) (fun z => absurd (hap 9 20 (by decide) (by decide) rfl rfl z) (by decide)) (fun z => absurd (hap 9 21 (by decide) (by decide) rfl rfl z) (by decide)) g15
          have g45 : f27 (ad 19) = some (.inl (k 2, 120, .inl x13)) := hfr37 _ _ (fun z => absurd (hap 19 10 (by decide) (by decide) rfl rfl z) (by decide)) (fun z => absurd (hap 19 20 (by decide) (by decide) rfl rfl z) (by decide)) (fun z => absurd (hap 19 21 (by decide) (by decide) rfl rfl z) (by decide)) g16
          have g46 : f27 (ad 11) = some (.inr (6, [.int ky])) := hfr37 _ _ (fun z => absurd (hap 11 10 (by decide) (by decide) rfl rfl z) (by decide)) (fun z => absurd (hap 11 20 (by decide) (by decide) rfl rfl z) (by decide)) (fun z => absurd (hap 11 21 (by decide) (by decide) rfl rfl z) (by decide)) g26
          refine hm_calli hS hM hA (va_runV (As := [.int au, .int sc]) (rest := []) X (c_judge l D k f27 h u ad us g w m1 fs fa fv (nI x30) x31 au sc g39 g40 g41 g34 g35 hu2 (fun i0 h0 => by obtain ⟨q0, e1, e2⟩ := hrows2 i0 h0; have t0 := e2; have t1 := hfr17 _ _ (hm_neI t0 ht2 (by decide)) (hm_neA t0 ha2) t0; have t2 := hfr37 _ _ (hm_neI t1 g19 (by decide)) (hm_neA t1 g20) (hm_neA t1 g21) t1; exact ⟨q0, e1, t2⟩) (fun i0 h0 z0 hz0 => by have e2 := hfam2 i0 h0 z0 hz0; have t0 := e2; have t1 := hfr17 _ _ (hm_neI t0 ht2 (by decide)) (hm_neA t0 ha2) t0; have t2 := hfr37 _ _ (hm_neI t1 g19 (by decide)) (hm_neA t1 g20) (hm_neA t1 g21) t1; exact t2) H.size) (hm_cwV hts me_GrantServer_judgeClaims wl_GrantServer_199 rfl rfl ⟨Nat.le_of_ble_eq_true rfl, Nat.le_of_ble_eq_true rfl⟩) (hm_preV hM hK g39 rfl) rfl rfl hl.1 rfl (lv_room (Nat.le_of_ble_eq_true rfl)) d_GrantServer_check_69 ⟨Nat.le_of_ble_eq_true rfl, Nat.le_of_ble_eq_true rfl⟩) (fun r49 f47 H locs p48 hM hS => ?_)
          obtain ⟨rfl, rfl⟩ := p48
          exact hm_iret X hQ hr hlk hK hM hS d_GrantServer_check_72 ⟨x13, x30, x31, x32, h14, (Or.inl ⟨rfl, hrd9⟩), g44, g45, g34, g35, g36, (fun zq zx n0 n1 n2 n3 n4 hq => by have t0 := hq; have t1 := hfr17 _ _ n0 n1 t0; have t2 := hfr37 _ _ n2 n3 n4 t1; exact t2)⟩
        · exact absurd h38 (by decide)
      · refine hm_top (z := 0) hr1 ?_
        refine lv_if_ne (tgt := 66) hx hb d_GrantServer_check_60 (by decide) (fun h38 => ?_) (fun h38 => ?_)
        · exact absurd h38 (by decide)
        · refine lv_bipush (v := (-9)) hx hb d_GrantServer_check_63 (by decide) ?_
          have g39 : f27 (ad 9) = some (.inr (5, [.ref (ad 19), .int (nI ((n - 11) * 6 / 8))])) := hfr37 _ _ (fun z => absurd (hap 9 10 (by decide) (by decide) rfl rfl z) (by decide)) (fun z => absurd (hap 9 20 (by decide) (by decide) rfl rfl z) (by decide)) (fun z => absurd (hap 9 21 (by decide) (by decide) rfl rfl z) (by decide)) g15
          have g40 : f27 (ad 19) = some (.inl (k 2, 120, .inl x13)) := hfr37 _ _ (fun z => absurd (hap 19 10 (by decide) (by decide) rfl rfl z) (by decide)) (fun z => absurd (hap 19 20 (by decide) (by decide) rfl rfl z) (by decide)) (fun z => absurd (hap 19 21 (by decide) (by decide) rfl rfl z) (by decide)) g16
          exact hm_iret X hQ hr hlk hK hM hS d_GrantServer_check_65 ⟨x13, x30, x31, x32, h14, (Or.inr ⟨rfl, hrd9⟩), g39, g40, g34, g35, g36, (fun zq zx n0 n1 n2 n3 n4 hq => by have t0 := hq; have t1 := hfr17 _ _ n0 n1 t0; have t2 := hfr37 _ _ n2 n3 n4 t1; exact t2)⟩
    · exact absurd h10 (by decide)
  · exact absurd h5 (by decide)
