theorem d_GrantServerModel_readName_0 : decode b_GrantServerModel_readName 0 = .ok (.iconst 0, 1) := by decide +kernel
theorem d_GrantServerModel_readName_1 : decode b_GrantServerModel_readName 1 = .ok (.istore_n 1, 1) := by decide +kernel
theorem d_GrantServerModel_readName_2 : decode b_GrantServerModel_readName 2 = .ok (.iload_n 1, 1) := by decide +kernel
theorem d_GrantServerModel_readName_3 : decode b_GrantServerModel_readName 3 = .ok (.iconst 5, 1) := by decide +kernel
theorem d_GrantServerModel_readName_4 : decode b_GrantServerModel_readName 4 = .ok (.if_icmp .ge 108, 3) := by decide +kernel
theorem d_GrantServerModel_readName_7 : decode b_GrantServerModel_readName 7 = .ok (.iconst 0, 1) := by decide +kernel
theorem d_GrantServerModel_readName_8 : decode b_GrantServerModel_readName 8 = .ok (.istore_n 2, 1) := by decide +kernel
theorem d_GrantServerModel_readName_9 : decode b_GrantServerModel_readName 9 = .ok (.iload_n 1, 1) := by decide +kernel
theorem d_GrantServerModel_readName_10 : decode b_GrantServerModel_readName 10 = .ok (.iload_n 2, 1) := by decide +kernel
theorem d_GrantServerModel_readName_11 : decode b_GrantServerModel_readName 11 = .ok (.invokestatic 151, 3) := by decide +kernel
theorem d_GrantServerModel_readName_14 : decode b_GrantServerModel_readName 14 = .ok (.ifCond .eq 41, 3) := by decide +kernel
theorem d_GrantServerModel_readName_17 : decode b_GrantServerModel_readName 17 = .ok (.aload_n 0, 1) := by decide +kernel
theorem d_GrantServerModel_readName_18 : decode b_GrantServerModel_readName 18 = .ok (.getfield 188, 3) := by decide +kernel
theorem d_GrantServerModel_readName_21 : decode b_GrantServerModel_readName 21 = .ok (.iload_n 2, 1) := by decide +kernel
theorem d_GrantServerModel_readName_22 : decode b_GrantServerModel_readName 22 = .ok (.iadd, 1) := by decide +kernel
theorem d_GrantServerModel_readName_23 : decode b_GrantServerModel_readName 23 = .ok (.aload_n 0, 1) := by decide +kernel
theorem d_GrantServerModel_readName_24 : decode b_GrantServerModel_readName 24 = .ok (.getfield 121, 3) := by decide +kernel
theorem d_GrantServerModel_readName_27 : decode b_GrantServerModel_readName 27 = .ok (.if_icmp .ge 28, 3) := by decide +kernel
theorem d_GrantServerModel_readName_30 : decode b_GrantServerModel_readName 30 = .ok (.aload_n 0, 1) := by decide +kernel
theorem d_GrantServerModel_readName_31 : decode b_GrantServerModel_readName 31 = .ok (.getfield 63, 3) := by decide +kernel
theorem d_GrantServerModel_readName_34 : decode b_GrantServerModel_readName 34 = .ok (.aload_n 0, 1) := by decide +kernel
theorem d_GrantServerModel_readName_35 : decode b_GrantServerModel_readName 35 = .ok (.getfield 188, 3) := by decide +kernel
theorem d_GrantServerModel_readName_38 : decode b_GrantServerModel_readName 38 = .ok (.iload_n 2, 1) := by decide +kernel
theorem d_GrantServerModel_readName_39 : decode b_GrantServerModel_readName 39 = .ok (.iadd, 1) := by decide +kernel
theorem d_GrantServerModel_readName_40 : decode b_GrantServerModel_readName 40 = .ok (.iaload, 1) := by decide +kernel
theorem d_GrantServerModel_readName_41 : decode b_GrantServerModel_readName 41 = .ok (.iload_n 1, 1) := by decide +kernel
theorem d_GrantServerModel_readName_42 : decode b_GrantServerModel_readName 42 = .ok (.iload_n 2, 1) := by decide +kernel
theorem d_GrantServerModel_readName_43 : decode b_GrantServerModel_readName 43 = .ok (.invokestatic 151, 3) := by decide +kernel
theorem d_GrantServerModel_readName_46 : decode b_GrantServerModel_readName 46 = .ok (.if_icmp .ne 9, 3) := by decide +kernel
theorem d_GrantServerModel_readName_49 : decode b_GrantServerModel_readName 49 = .ok (.iinc 2 1, 3) := by decide +kernel
theorem d_GrantServerModel_readName_52 : decode b_GrantServerModel_readName 52 = .ok (.goto (-43), 3) := by decide +kernel
theorem d_GrantServerModel_readName_55 : decode b_GrantServerModel_readName 55 = .ok (.iload_n 1, 1) := by decide +kernel
theorem d_GrantServerModel_readName_56 : decode b_GrantServerModel_readName 56 = .ok (.iload_n 2, 1) := by decide +kernel
theorem d_GrantServerModel_readName_57 : decode b_GrantServerModel_readName 57 = .ok (.invokestatic 151, 3) := by decide +kernel
theorem d_GrantServerModel_readName_60 : decode b_GrantServerModel_readName 60 = .ok (.ifCond .ne 46, 3) := by decide +kernel
theorem d_GrantServerModel_readName_63 : decode b_GrantServerModel_readName 63 = .ok (.aload_n 0, 1) := by decide +kernel
theorem d_GrantServerModel_readName_64 : decode b_GrantServerModel_readName 64 = .ok (.getfield 188, 3) := by decide +kernel
theorem d_GrantServerModel_readName_67 : decode b_GrantServerModel_readName 67 = .ok (.iload_n 2, 1) := by decide +kernel
theorem d_GrantServerModel_readName_68 : decode b_GrantServerModel_readName 68 = .ok (.iadd, 1) := by decide +kernel
theorem d_GrantServerModel_readName_69 : decode b_GrantServerModel_readName 69 = .ok (.aload_n 0, 1) := by decide +kernel
theorem d_GrantServerModel_readName_70 : decode b_GrantServerModel_readName 70 = .ok (.getfield 121, 3) := by decide +kernel
theorem d_GrantServerModel_readName_73 : decode b_GrantServerModel_readName 73 = .ok (.if_icmp .ge 33, 3) := by decide +kernel
theorem d_GrantServerModel_readName_76 : decode b_GrantServerModel_readName 76 = .ok (.aload_n 0, 1) := by decide +kernel
theorem d_GrantServerModel_readName_77 : decode b_GrantServerModel_readName 77 = .ok (.getfield 63, 3) := by decide +kernel
theorem d_GrantServerModel_readName_80 : decode b_GrantServerModel_readName 80 = .ok (.aload_n 0, 1) := by decide +kernel
theorem d_GrantServerModel_readName_81 : decode b_GrantServerModel_readName 81 = .ok (.getfield 188, 3) := by decide +kernel
theorem d_GrantServerModel_readName_84 : decode b_GrantServerModel_readName 84 = .ok (.iload_n 2, 1) := by decide +kernel
theorem d_GrantServerModel_readName_85 : decode b_GrantServerModel_readName 85 = .ok (.iadd, 1) := by decide +kernel
theorem d_GrantServerModel_readName_86 : decode b_GrantServerModel_readName 86 = .ok (.iaload, 1) := by decide +kernel
theorem d_GrantServerModel_readName_87 : decode b_GrantServerModel_readName 87 = .ok (.bipush 34, 2) := by decide +kernel
theorem d_GrantServerModel_readName_89 : decode b_GrantServerModel_readName 89 = .ok (.if_icmp .ne 17, 3) := by decide +kernel
theorem d_GrantServerModel_readName_92 : decode b_GrantServerModel_readName 92 = .ok (.aload_n 0, 1) := by decide +kernel
theorem d_GrantServerModel_readName_93 : decode b_GrantServerModel_readName 93 = .ok (.aload_n 0, 1) := by decide +kernel
theorem d_GrantServerModel_readName_94 : decode b_GrantServerModel_readName 94 = .ok (.getfield 188, 3) := by decide +kernel
theorem d_GrantServerModel_readName_97 : decode b_GrantServerModel_readName 97 = .ok (.iload_n 2, 1) := by decide +kernel
theorem d_GrantServerModel_readName_98 : decode b_GrantServerModel_readName 98 = .ok (.iadd, 1) := by decide +kernel
theorem d_GrantServerModel_readName_99 : decode b_GrantServerModel_readName 99 = .ok (.iconst 1, 1) := by decide +kernel
theorem d_GrantServerModel_readName_100 : decode b_GrantServerModel_readName 100 = .ok (.iadd, 1) := by decide +kernel
theorem d_GrantServerModel_readName_101 : decode b_GrantServerModel_readName 101 = .ok (.putfield 188, 3) := by decide +kernel
theorem d_GrantServerModel_readName_104 : decode b_GrantServerModel_readName 104 = .ok (.iload_n 1, 1) := by decide +kernel
theorem d_GrantServerModel_readName_105 : decode b_GrantServerModel_readName 105 = .ok (.ireturn, 1) := by decide +kernel
theorem d_GrantServerModel_readName_106 : decode b_GrantServerModel_readName 106 = .ok (.iinc 1 1, 3) := by decide +kernel
theorem d_GrantServerModel_readName_109 : decode b_GrantServerModel_readName 109 = .ok (.goto (-107), 3) := by decide +kernel
theorem d_GrantServerModel_readName_112 : decode b_GrantServerModel_readName 112 = .ok (.iconst (-1), 1) := by decide +kernel
theorem d_GrantServerModel_readName_113 : decode b_GrantServerModel_readName 113 = .ok (.ireturn, 1) := by decide +kernel
theorem d_GrantServerModel_readNumber_0 : decode b_GrantServerModel_readNumber 0 = .ok (.aload_n 0, 1) := by decide +kernel
theorem d_GrantServerModel_readNumber_1 : decode b_GrantServerModel_readNumber 1 = .ok (.invokevirtual 191, 3) := by decide +kernel
theorem d_GrantServerModel_readNumber_4 : decode b_GrantServerModel_readNumber 4 = .ok (.istore_n 1, 1) := by decide +kernel
theorem d_GrantServerModel_readNumber_5 : decode b_GrantServerModel_readNumber 5 = .ok (.iload_n 1, 1) := by decide +kernel
theorem d_GrantServerModel_readNumber_6 : decode b_GrantServerModel_readNumber 6 = .ok (.bipush 48, 2) := by decide +kernel
theorem d_GrantServerModel_readNumber_8 : decode b_GrantServerModel_readNumber 8 = .ok (.if_icmp .ne 15, 3) := by decide +kernel
theorem d_GrantServerModel_readNumber_11 : decode b_GrantServerModel_readNumber 11 = .ok (.aload_n 0, 1) := by decide +kernel
theorem d_GrantServerModel_readNumber_12 : decode b_GrantServerModel_readNumber 12 = .ok (.dup, 1) := by decide +kernel
theorem d_GrantServerModel_readNumber_13 : decode b_GrantServerModel_readNumber 13 = .ok (.getfield 188, 3) := by decide +kernel
theorem d_GrantServerModel_readNumber_16 : decode b_GrantServerModel_readNumber 16 = .ok (.iconst 1, 1) := by decide +kernel
theorem d_GrantServerModel_readNumber_17 : decode b_GrantServerModel_readNumber 17 = .ok (.iadd, 1) := by decide +kernel
theorem d_GrantServerModel_readNumber_18 : decode b_GrantServerModel_readNumber 18 = .ok (.putfield 188, 3) := by decide +kernel
theorem d_GrantServerModel_readNumber_21 : decode b_GrantServerModel_readNumber 21 = .ok (.iconst 0, 1) := by decide +kernel
theorem d_GrantServerModel_readNumber_22 : decode b_GrantServerModel_readNumber 22 = .ok (.ireturn, 1) := by decide +kernel
theorem d_GrantServerModel_readNumber_23 : decode b_GrantServerModel_readNumber 23 = .ok (.iconst 0, 1) := by decide +kernel
theorem d_GrantServerModel_readNumber_24 : decode b_GrantServerModel_readNumber 24 = .ok (.istore_n 2, 1) := by decide +kernel
theorem d_GrantServerModel_readNumber_25 : decode b_GrantServerModel_readNumber 25 = .ok (.iconst 0, 1) := by decide +kernel
theorem d_GrantServerModel_readNumber_26 : decode b_GrantServerModel_readNumber 26 = .ok (.istore_n 3, 1) := by decide +kernel
theorem d_GrantServerModel_readNumber_27 : decode b_GrantServerModel_readNumber 27 = .ok (.aload_n 0, 1) := by decide +kernel
theorem d_GrantServerModel_readNumber_28 : decode b_GrantServerModel_readNumber 28 = .ok (.getfield 188, 3) := by decide +kernel
theorem d_GrantServerModel_readNumber_31 : decode b_GrantServerModel_readNumber 31 = .ok (.aload_n 0, 1) := by decide +kernel
theorem d_GrantServerModel_readNumber_32 : decode b_GrantServerModel_readNumber 32 = .ok (.getfield 121, 3) := by decide +kernel
theorem d_GrantServerModel_readNumber_35 : decode b_GrantServerModel_readNumber 35 = .ok (.if_icmp .ge 71, 3) := by decide +kernel
theorem d_GrantServerModel_readNumber_38 : decode b_GrantServerModel_readNumber 38 = .ok (.aload_n 0, 1) := by decide +kernel
theorem d_GrantServerModel_readNumber_39 : decode b_GrantServerModel_readNumber 39 = .ok (.getfield 63, 3) := by decide +kernel
theorem d_GrantServerModel_readNumber_42 : decode b_GrantServerModel_readNumber 42 = .ok (.aload_n 0, 1) := by decide +kernel
theorem d_GrantServerModel_readNumber_43 : decode b_GrantServerModel_readNumber 43 = .ok (.getfield 188, 3) := by decide +kernel
theorem d_GrantServerModel_readNumber_46 : decode b_GrantServerModel_readNumber 46 = .ok (.iaload, 1) := by decide +kernel
theorem d_GrantServerModel_readNumber_47 : decode b_GrantServerModel_readNumber 47 = .ok (.bipush 48, 2) := by decide +kernel
theorem d_GrantServerModel_readNumber_49 : decode b_GrantServerModel_readNumber 49 = .ok (.if_icmp .lt 57, 3) := by decide +kernel
theorem d_GrantServerModel_readNumber_52 : decode b_GrantServerModel_readNumber 52 = .ok (.aload_n 0, 1) := by decide +kernel
theorem d_GrantServerModel_readNumber_53 : decode b_GrantServerModel_readNumber 53 = .ok (.getfield 63, 3) := by decide +kernel
theorem d_GrantServerModel_readNumber_56 : decode b_GrantServerModel_readNumber 56 = .ok (.aload_n 0, 1) := by decide +kernel
theorem d_GrantServerModel_readNumber_57 : decode b_GrantServerModel_readNumber 57 = .ok (.getfield 188, 3) := by decide +kernel
theorem d_GrantServerModel_readNumber_60 : decode b_GrantServerModel_readNumber 60 = .ok (.iaload, 1) := by decide +kernel
theorem d_GrantServerModel_readNumber_61 : decode b_GrantServerModel_readNumber 61 = .ok (.bipush 57, 2) := by decide +kernel
theorem d_GrantServerModel_readNumber_63 : decode b_GrantServerModel_readNumber 63 = .ok (.if_icmp .gt 43, 3) := by decide +kernel
theorem d_GrantServerModel_readNumber_66 : decode b_GrantServerModel_readNumber 66 = .ok (.iload_n 3, 1) := by decide +kernel
theorem d_GrantServerModel_readNumber_67 : decode b_GrantServerModel_readNumber 67 = .ok (.bipush 9, 2) := by decide +kernel
theorem d_GrantServerModel_readNumber_69 : decode b_GrantServerModel_readNumber 69 = .ok (.if_icmp .ge 37, 3) := by decide +kernel
theorem d_GrantServerModel_readNumber_72 : decode b_GrantServerModel_readNumber 72 = .ok (.bipush 10, 2) := by decide +kernel
theorem d_GrantServerModel_readNumber_74 : decode b_GrantServerModel_readNumber 74 = .ok (.iload_n 2, 1) := by decide +kernel
theorem d_GrantServerModel_readNumber_75 : decode b_GrantServerModel_readNumber 75 = .ok (.imul, 1) := by decide +kernel
theorem d_GrantServerModel_readNumber_76 : decode b_GrantServerModel_readNumber 76 = .ok (.aload_n 0, 1) := by decide +kernel
theorem d_GrantServerModel_readNumber_77 : decode b_GrantServerModel_readNumber 77 = .ok (.getfield 63, 3) := by decide +kernel
theorem d_GrantServerModel_readNumber_80 : decode b_GrantServerModel_readNumber 80 = .ok (.aload_n 0, 1) := by decide +kernel
theorem d_GrantServerModel_readNumber_81 : decode b_GrantServerModel_readNumber 81 = .ok (.getfield 188, 3) := by decide +kernel
theorem d_GrantServerModel_readNumber_84 : decode b_GrantServerModel_readNumber 84 = .ok (.iaload, 1) := by decide +kernel
theorem d_GrantServerModel_readNumber_85 : decode b_GrantServerModel_readNumber 85 = .ok (.iadd, 1) := by decide +kernel
theorem d_GrantServerModel_readNumber_86 : decode b_GrantServerModel_readNumber 86 = .ok (.bipush 48, 2) := by decide +kernel
theorem d_GrantServerModel_readNumber_88 : decode b_GrantServerModel_readNumber 88 = .ok (.isub, 1) := by decide +kernel
theorem d_GrantServerModel_readNumber_89 : decode b_GrantServerModel_readNumber 89 = .ok (.istore_n 2, 1) := by decide +kernel
theorem d_GrantServerModel_readNumber_90 : decode b_GrantServerModel_readNumber 90 = .ok (.aload_n 0, 1) := by decide +kernel
theorem d_GrantServerModel_readNumber_91 : decode b_GrantServerModel_readNumber 91 = .ok (.dup, 1) := by decide +kernel
theorem d_GrantServerModel_readNumber_92 : decode b_GrantServerModel_readNumber 92 = .ok (.getfield 188, 3) := by decide +kernel
theorem d_GrantServerModel_readNumber_95 : decode b_GrantServerModel_readNumber 95 = .ok (.iconst 1, 1) := by decide +kernel
theorem d_GrantServerModel_readNumber_96 : decode b_GrantServerModel_readNumber 96 = .ok (.iadd, 1) := by decide +kernel
theorem d_GrantServerModel_readNumber_97 : decode b_GrantServerModel_readNumber 97 = .ok (.putfield 188, 3) := by decide +kernel
theorem d_GrantServerModel_readNumber_100 : decode b_GrantServerModel_readNumber 100 = .ok (.iinc 3 1, 3) := by decide +kernel
theorem d_GrantServerModel_readNumber_103 : decode b_GrantServerModel_readNumber 103 = .ok (.goto (-76), 3) := by decide +kernel
theorem d_GrantServerModel_readNumber_106 : decode b_GrantServerModel_readNumber 106 = .ok (.iload_n 3, 1) := by decide +kernel
theorem d_GrantServerModel_readNumber_107 : decode b_GrantServerModel_readNumber 107 = .ok (.ifCond .ne 7, 3) := by decide +kernel
theorem d_GrantServerModel_readNumber_110 : decode b_GrantServerModel_readNumber 110 = .ok (.iconst (-1), 1) := by decide +kernel
theorem d_GrantServerModel_readNumber_111 : decode b_GrantServerModel_readNumber 111 = .ok (.goto 4, 3) := by decide +kernel
theorem d_GrantServerModel_readNumber_114 : decode b_GrantServerModel_readNumber 114 = .ok (.iload_n 2, 1) := by decide +kernel
theorem d_GrantServerModel_readNumber_115 : decode b_GrantServerModel_readNumber 115 = .ok (.ireturn, 1) := by decide +kernel
theorem d_GrantServerModel_readMember_0 : decode b_GrantServerModel_readMember 0 = .ok (.aload_n 0, 1) := by decide +kernel
theorem d_GrantServerModel_readMember_1 : decode b_GrantServerModel_readMember 1 = .ok (.bipush 34, 2) := by decide +kernel
theorem d_GrantServerModel_readMember_3 : decode b_GrantServerModel_readMember 3 = .ok (.invokevirtual 194, 3) := by decide +kernel
theorem d_GrantServerModel_readMember_6 : decode b_GrantServerModel_readMember 6 = .ok (.ifCond .ne 5, 3) := by decide +kernel
theorem d_GrantServerModel_readMember_9 : decode b_GrantServerModel_readMember 9 = .ok (.iconst 0, 1) := by decide +kernel
theorem d_GrantServerModel_readMember_10 : decode b_GrantServerModel_readMember 10 = .ok (.ireturn, 1) := by decide +kernel
theorem d_GrantServerModel_readMember_11 : decode b_GrantServerModel_readMember 11 = .ok (.aload_n 0, 1) := by decide +kernel
theorem d_GrantServerModel_readMember_12 : decode b_GrantServerModel_readMember 12 = .ok (.invokevirtual 197, 3) := by decide +kernel
theorem d_GrantServerModel_readMember_15 : decode b_GrantServerModel_readMember 15 = .ok (.istore_n 1, 1) := by decide +kernel
theorem d_GrantServerModel_readMember_16 : decode b_GrantServerModel_readMember 16 = .ok (.iload_n 1, 1) := by decide +kernel
theorem d_GrantServerModel_readMember_17 : decode b_GrantServerModel_readMember 17 = .ok (.ifCond .lt 21, 3) := by decide +kernel
theorem d_GrantServerModel_readMember_20 : decode b_GrantServerModel_readMember 20 = .ok (.aload_n 0, 1) := by decide +kernel
theorem d_GrantServerModel_readMember_21 : decode b_GrantServerModel_readMember 21 = .ok (.getfield 66, 3) := by decide +kernel
theorem d_GrantServerModel_readMember_24 : decode b_GrantServerModel_readMember 24 = .ok (.iload_n 1, 1) := by decide +kernel
theorem d_GrantServerModel_readMember_25 : decode b_GrantServerModel_readMember 25 = .ok (.iaload, 1) := by decide +kernel
theorem d_GrantServerModel_readMember_26 : decode b_GrantServerModel_readMember 26 = .ok (.ifCond .ge 12, 3) := by decide +kernel
theorem d_GrantServerModel_readMember_29 : decode b_GrantServerModel_readMember 29 = .ok (.aload_n 0, 1) := by decide +kernel
theorem d_GrantServerModel_readMember_30 : decode b_GrantServerModel_readMember 30 = .ok (.bipush 58, 2) := by decide +kernel
theorem d_GrantServerModel_readMember_32 : decode b_GrantServerModel_readMember 32 = .ok (.invokevirtual 194, 3) := by decide +kernel
theorem d_GrantServerModel_readMember_35 : decode b_GrantServerModel_readMember 35 = .ok (.ifCond .ne 5, 3) := by decide +kernel
theorem d_GrantServerModel_readMember_38 : decode b_GrantServerModel_readMember 38 = .ok (.iconst 0, 1) := by decide +kernel
theorem d_GrantServerModel_readMember_39 : decode b_GrantServerModel_readMember 39 = .ok (.ireturn, 1) := by decide +kernel
theorem d_GrantServerModel_readMember_40 : decode b_GrantServerModel_readMember 40 = .ok (.aload_n 0, 1) := by decide +kernel
theorem d_GrantServerModel_readMember_41 : decode b_GrantServerModel_readMember 41 = .ok (.invokevirtual 200, 3) := by decide +kernel
theorem d_GrantServerModel_readMember_44 : decode b_GrantServerModel_readMember 44 = .ok (.istore_n 2, 1) := by decide +kernel
theorem d_GrantServerModel_readMember_45 : decode b_GrantServerModel_readMember 45 = .ok (.aload_n 0, 1) := by decide +kernel
theorem d_GrantServerModel_readMember_46 : decode b_GrantServerModel_readMember 46 = .ok (.getfield 66, 3) := by decide +kernel
theorem d_GrantServerModel_readMember_49 : decode b_GrantServerModel_readMember 49 = .ok (.iload_n 1, 1) := by decide +kernel
theorem d_GrantServerModel_readMember_50 : decode b_GrantServerModel_readMember 50 = .ok (.iload_n 2, 1) := by decide +kernel
theorem d_GrantServerModel_readMember_51 : decode b_GrantServerModel_readMember 51 = .ok (.iastore, 1) := by decide +kernel
theorem d_GrantServerModel_readMember_52 : decode b_GrantServerModel_readMember 52 = .ok (.iload_n 2, 1) := by decide +kernel
theorem d_GrantServerModel_readMember_53 : decode b_GrantServerModel_readMember 53 = .ok (.ifCond .lt 7, 3) := by decide +kernel
theorem d_GrantServerModel_readMember_56 : decode b_GrantServerModel_readMember 56 = .ok (.iconst 1, 1) := by decide +kernel
theorem d_GrantServerModel_readMember_57 : decode b_GrantServerModel_readMember 57 = .ok (.goto 4, 3) := by decide +kernel
theorem d_GrantServerModel_readMember_60 : decode b_GrantServerModel_readMember 60 = .ok (.iconst 0, 1) := by decide +kernel
theorem d_GrantServerModel_readMember_61 : decode b_GrantServerModel_readMember 61 = .ok (.ireturn, 1) := by decide +kernel
theorem d_GrantServerModel_readClaims_0 : decode b_GrantServerModel_readClaims 0 = .ok (.aload_n 0, 1) := by decide +kernel
theorem d_GrantServerModel_readClaims_1 : decode b_GrantServerModel_readClaims 1 = .ok (.iconst 0, 1) := by decide +kernel
theorem d_GrantServerModel_readClaims_2 : decode b_GrantServerModel_readClaims 2 = .ok (.putfield 188, 3) := by decide +kernel
theorem d_GrantServerModel_readClaims_5 : decode b_GrantServerModel_readClaims 5 = .ok (.iconst 0, 1) := by decide +kernel
theorem d_GrantServerModel_readClaims_6 : decode b_GrantServerModel_readClaims 6 = .ok (.istore_n 1, 1) := by decide +kernel
theorem d_GrantServerModel_readClaims_7 : decode b_GrantServerModel_readClaims 7 = .ok (.iload_n 1, 1) := by decide +kernel
theorem d_GrantServerModel_readClaims_8 : decode b_GrantServerModel_readClaims 8 = .ok (.iconst 5, 1) := by decide +kernel
theorem d_GrantServerModel_readClaims_9 : decode b_GrantServerModel_readClaims 9 = .ok (.if_icmp .ge 16, 3) := by decide +kernel
theorem d_GrantServerModel_readClaims_12 : decode b_GrantServerModel_readClaims 12 = .ok (.aload_n 0, 1) := by decide +kernel
theorem d_GrantServerModel_readClaims_13 : decode b_GrantServerModel_readClaims 13 = .ok (.getfield 66, 3) := by decide +kernel
theorem d_GrantServerModel_readClaims_16 : decode b_GrantServerModel_readClaims 16 = .ok (.iload_n 1, 1) := by decide +kernel
theorem d_GrantServerModel_readClaims_17 : decode b_GrantServerModel_readClaims 17 = .ok (.iconst (-1), 1) := by decide +kernel
theorem d_GrantServerModel_readClaims_18 : decode b_GrantServerModel_readClaims 18 = .ok (.iastore, 1) := by decide +kernel
theorem d_GrantServerModel_readClaims_19 : decode b_GrantServerModel_readClaims 19 = .ok (.iinc 1 1, 3) := by decide +kernel
theorem d_GrantServerModel_readClaims_22 : decode b_GrantServerModel_readClaims 22 = .ok (.goto (-15), 3) := by decide +kernel
theorem d_GrantServerModel_readClaims_25 : decode b_GrantServerModel_readClaims 25 = .ok (.aload_n 0, 1) := by decide +kernel
theorem d_GrantServerModel_readClaims_26 : decode b_GrantServerModel_readClaims 26 = .ok (.bipush 123, 2) := by decide +kernel
theorem d_GrantServerModel_readClaims_28 : decode b_GrantServerModel_readClaims 28 = .ok (.invokevirtual 194, 3) := by decide +kernel
theorem d_GrantServerModel_readClaims_31 : decode b_GrantServerModel_readClaims 31 = .ok (.ifCond .ne 5, 3) := by decide +kernel
theorem d_GrantServerModel_readClaims_34 : decode b_GrantServerModel_readClaims 34 = .ok (.iconst 0, 1) := by decide +kernel
theorem d_GrantServerModel_readClaims_35 : decode b_GrantServerModel_readClaims 35 = .ok (.ireturn, 1) := by decide +kernel
theorem d_GrantServerModel_readClaims_36 : decode b_GrantServerModel_readClaims 36 = .ok (.iconst 1, 1) := by decide +kernel
theorem d_GrantServerModel_readClaims_37 : decode b_GrantServerModel_readClaims 37 = .ok (.istore_n 1, 1) := by decide +kernel
theorem d_GrantServerModel_readClaims_38 : decode b_GrantServerModel_readClaims 38 = .ok (.iload_n 1, 1) := by decide +kernel
theorem d_GrantServerModel_readClaims_39 : decode b_GrantServerModel_readClaims 39 = .ok (.ifCond .eq 22, 3) := by decide +kernel
theorem d_GrantServerModel_readClaims_42 : decode b_GrantServerModel_readClaims 42 = .ok (.aload_n 0, 1) := by decide +kernel
theorem d_GrantServerModel_readClaims_43 : decode b_GrantServerModel_readClaims 43 = .ok (.invokevirtual 203, 3) := by decide +kernel
theorem d_GrantServerModel_readClaims_46 : decode b_GrantServerModel_readClaims 46 = .ok (.ifCond .ne 5, 3) := by decide +kernel
theorem d_GrantServerModel_readClaims_49 : decode b_GrantServerModel_readClaims 49 = .ok (.iconst 0, 1) := by decide +kernel
theorem d_GrantServerModel_readClaims_50 : decode b_GrantServerModel_readClaims 50 = .ok (.ireturn, 1) := by decide +kernel
theorem d_GrantServerModel_readClaims_51 : decode b_GrantServerModel_readClaims 51 = .ok (.aload_n 0, 1) := by decide +kernel
theorem d_GrantServerModel_readClaims_52 : decode b_GrantServerModel_readClaims 52 = .ok (.bipush 44, 2) := by decide +kernel
theorem d_GrantServerModel_readClaims_54 : decode b_GrantServerModel_readClaims 54 = .ok (.invokevirtual 194, 3) := by decide +kernel
theorem d_GrantServerModel_readClaims_57 : decode b_GrantServerModel_readClaims 57 = .ok (.istore_n 1, 1) := by decide +kernel
theorem d_GrantServerModel_readClaims_58 : decode b_GrantServerModel_readClaims 58 = .ok (.goto (-20), 3) := by decide +kernel
theorem d_GrantServerModel_readClaims_61 : decode b_GrantServerModel_readClaims 61 = .ok (.aload_n 0, 1) := by decide +kernel
theorem d_GrantServerModel_readClaims_62 : decode b_GrantServerModel_readClaims 62 = .ok (.bipush 125, 2) := by decide +kernel
theorem d_GrantServerModel_readClaims_64 : decode b_GrantServerModel_readClaims 64 = .ok (.invokevirtual 194, 3) := by decide +kernel
theorem d_GrantServerModel_readClaims_67 : decode b_GrantServerModel_readClaims 67 = .ok (.ifCond .ne 5, 3) := by decide +kernel
theorem d_GrantServerModel_readClaims_70 : decode b_GrantServerModel_readClaims 70 = .ok (.iconst 0, 1) := by decide +kernel
theorem d_GrantServerModel_readClaims_71 : decode b_GrantServerModel_readClaims 71 = .ok (.ireturn, 1) := by decide +kernel
theorem d_GrantServerModel_readClaims_72 : decode b_GrantServerModel_readClaims 72 = .ok (.aload_n 0, 1) := by decide +kernel
theorem d_GrantServerModel_readClaims_73 : decode b_GrantServerModel_readClaims 73 = .ok (.invokevirtual 191, 3) := by decide +kernel
theorem d_GrantServerModel_readClaims_76 : decode b_GrantServerModel_readClaims 76 = .ok (.istore_n 2, 1) := by decide +kernel
theorem d_GrantServerModel_readClaims_77 : decode b_GrantServerModel_readClaims 77 = .ok (.aload_n 0, 1) := by decide +kernel
theorem d_GrantServerModel_readClaims_78 : decode b_GrantServerModel_readClaims 78 = .ok (.getfield 188, 3) := by decide +kernel
theorem d_GrantServerModel_readClaims_81 : decode b_GrantServerModel_readClaims 81 = .ok (.aload_n 0, 1) := by decide +kernel
theorem d_GrantServerModel_readClaims_82 : decode b_GrantServerModel_readClaims 82 = .ok (.getfield 121, 3) := by decide +kernel
theorem d_GrantServerModel_readClaims_85 : decode b_GrantServerModel_readClaims 85 = .ok (.if_icmp .ne 11, 3) := by decide +kernel
theorem d_GrantServerModel_readClaims_88 : decode b_GrantServerModel_readClaims 88 = .ok (.iload_n 2, 1) := by decide +kernel
theorem d_GrantServerModel_readClaims_89 : decode b_GrantServerModel_readClaims 89 = .ok (.ifCond .ne 7, 3) := by decide +kernel
theorem d_GrantServerModel_readClaims_92 : decode b_GrantServerModel_readClaims 92 = .ok (.iconst 1, 1) := by decide +kernel
theorem d_GrantServerModel_readClaims_93 : decode b_GrantServerModel_readClaims 93 = .ok (.goto 4, 3) := by decide +kernel
theorem d_GrantServerModel_readClaims_96 : decode b_GrantServerModel_readClaims 96 = .ok (.iconst 0, 1) := by decide +kernel
theorem d_GrantServerModel_readClaims_97 : decode b_GrantServerModel_readClaims 97 = .ok (.istore_n 3, 1) := by decide +kernel
theorem d_GrantServerModel_readClaims_98 : decode b_GrantServerModel_readClaims 98 = .ok (.iconst 0, 1) := by decide +kernel
theorem d_GrantServerModel_readClaims_99 : decode b_GrantServerModel_readClaims 99 = .ok (.istore 4, 2) := by decide +kernel
theorem d_GrantServerModel_readClaims_101 : decode b_GrantServerModel_readClaims 101 = .ok (.iload 4, 2) := by decide +kernel
theorem d_GrantServerModel_readClaims_103 : decode b_GrantServerModel_readClaims 103 = .ok (.iconst 5, 1) := by decide +kernel
theorem d_GrantServerModel_readClaims_104 : decode b_GrantServerModel_readClaims 104 = .ok (.if_icmp .ge 29, 3) := by decide +kernel
theorem d_GrantServerModel_readClaims_107 : decode b_GrantServerModel_readClaims 107 = .ok (.iload_n 3, 1) := by decide +kernel
theorem d_GrantServerModel_readClaims_108 : decode b_GrantServerModel_readClaims 108 = .ok (.ifCond .eq 17, 3) := by decide +kernel
theorem d_GrantServerModel_readClaims_111 : decode b_GrantServerModel_readClaims 111 = .ok (.aload_n 0, 1) := by decide +kernel
theorem d_GrantServerModel_readClaims_112 : decode b_GrantServerModel_readClaims 112 = .ok (.getfield 66, 3) := by decide +kernel
theorem d_GrantServerModel_readClaims_115 : decode b_GrantServerModel_readClaims 115 = .ok (.iload 4, 2) := by decide +kernel
theorem d_GrantServerModel_readClaims_117 : decode b_GrantServerModel_readClaims 117 = .ok (.iaload, 1) := by decide +kernel
theorem d_GrantServerModel_readClaims_118 : decode b_GrantServerModel_readClaims 118 = .ok (.ifCond .lt 7, 3) := by decide +kernel
theorem d_GrantServerModel_readClaims_121 : decode b_GrantServerModel_readClaims 121 = .ok (.iconst 1, 1) := by decide +kernel
theorem d_GrantServerModel_readClaims_122 : decode b_GrantServerModel_readClaims 122 = .ok (.goto 4, 3) := by decide +kernel
theorem d_GrantServerModel_readClaims_125 : decode b_GrantServerModel_readClaims 125 = .ok (.iconst 0, 1) := by decide +kernel
theorem d_GrantServerModel_readClaims_126 : decode b_GrantServerModel_readClaims 126 = .ok (.istore_n 3, 1) := by decide +kernel
theorem d_GrantServerModel_readClaims_127 : decode b_GrantServerModel_readClaims 127 = .ok (.iinc 4 1, 3) := by decide +kernel
theorem d_GrantServerModel_readClaims_130 : decode b_GrantServerModel_readClaims 130 = .ok (.goto (-29), 3) := by decide +kernel
theorem d_GrantServerModel_readClaims_133 : decode b_GrantServerModel_readClaims 133 = .ok (.iload_n 3, 1) := by decide +kernel
theorem d_GrantServerModel_readClaims_134 : decode b_GrantServerModel_readClaims 134 = .ok (.ireturn, 1) := by decide +kernel
set_option maxRecDepth 20000 in
theorem fl_GrantServerModel_66 : hm_fl vwCl TB R_GrantServerModel 66 8 30 true (.array .int) := ⟨_, _, _, _, cl_GrantServerModel, by decide, (TBm 722 (by decide +kernel) rfl), rfl, rfl⟩
set_option maxRecDepth 20000 in
theorem me_GrantServerModel_readMember : hm_meV y_GrantServerModel_readMember b_GrantServerModel_readMember 3 (some .boolean) 0 := ⟨⟨(TBm 961 rfl rfl), (TBm 47 (by decide +kernel) rfl), by decide +kernel⟩, (TBm 960 (by decide +kernel) rfl), (TBm 36 (by decide +kernel) rfl)⟩
set_option maxRecDepth 20000 in
theorem me_GrantServerModel_readName : hm_meV y_GrantServerModel_readName b_GrantServerModel_readName 3 (some .int) 0 := ⟨⟨(TBm 965 rfl rfl), (TBm 47 (by decide +kernel) rfl), by decide +kernel⟩, (TBm 964 (by decide +kernel) rfl), (TBm 37 (by decide +kernel) rfl)⟩
set_option maxRecDepth 20000 in
theorem me_GrantServerModel_readNumber : hm_meV y_GrantServerModel_readNumber b_GrantServerModel_readNumber 4 (some .int) 0 := ⟨⟨(TBm 969 rfl rfl), (TBm 47 (by decide +kernel) rfl), by decide +kernel⟩, (TBm 968 (by decide +kernel) rfl), (TBm 38 (by decide +kernel) rfl)⟩
set_option maxRecDepth 20000 in
theorem me_GrantServerModel_reads : hm_meV y_GrantServerModel_reads b_GrantServerModel_reads 3 (some .boolean) 1 := ⟨⟨(TBm 953 rfl rfl), (TBm 47 (by decide +kernel) rfl), by decide +kernel⟩, (TBm 952 (by decide +kernel) rfl), (TBm 34 (by decide +kernel) rfl)⟩
set_option maxRecDepth 20000 in
theorem wl_GrantServerModel_194 : Cond.methodLink R_GrantServerModel 194 y_GrantServerModel_reads ∈ TB := TBm 950 (by decide +kernel) rfl
set_option maxRecDepth 20000 in
theorem wl_GrantServerModel_197 : Cond.methodLink R_GrantServerModel 197 y_GrantServerModel_readName ∈ TB := TBm 962 (by decide +kernel) rfl
set_option maxRecDepth 20000 in
theorem wl_GrantServerModel_200 : Cond.methodLink R_GrantServerModel 200 y_GrantServerModel_readNumber ∈ TB := TBm 966 (by decide +kernel) rfl
set_option maxRecDepth 20000 in
theorem wl_GrantServerModel_203 : Cond.methodLink R_GrantServerModel 203 y_GrantServerModel_readMember ∈ TB := TBm 958 (by decide +kernel) rfl
set_option maxHeartbeats 4000000 in
set_option maxRecDepth 100000 in
theorem m_c_readName (l : Launch) (D : va_G) (k : Nat → ClassId) (f : hm) (h : Nat) (ad : Nat → Nat) (sk : Int64) (v : Nat → Int32) (c : Nat → Nat → Int32) (n : Nat) (p0 : Nat) (x : Nat → Int32) (hmo : mo k f h ad sk v c) (hn : v 28 = nI n) (hcx : c 27 = x) (hp0 : v 29 = nI (p0 + 1)) (hn9 : n ≤ 120) (hq1 : p0 < n) (hq2 : x p0 = 34) : hm_Mi l D vwCl (tyL k) y_GrantServerModel_readName (Cond.code y_GrantServerModel_readName b_GrantServerModel_readName 3 (some .int) :: TB) ({ frames := 1, cells := 0, slots := 0, locals := 21 }) [.ref h] f (fun (r : Int32) (f1 : hm) => z_ni (z_nm n x p0) = r ∧ mo k f1 h ad sk (upd v 29 (nI (p0 + m_nla (z_nm n x p0)))) c ∧ mo_fr h ad f f1) 0 0 := by
  refine hm_enter (Qc := fun sz => va_Qi _ (hm_R D vwCl (tyL k) f sz) (hm_A f sz)) (by decide) rfl (Nat.le_of_ble_eq_true rfl) ?_
  intro pg e s m below meth cd ls X0 hr hlk hin hK hM hS hA hl Q hQ
  have X : CallFix pg m cd b_GrantServerModel_readName 3 s ([.ref h] : List Value).toArray TB R_GrantServerModel := ⟨X0.1, X0.2.1, X0.2.2.1, X0.2.2.2.1, fun w h => X0.2.2.2.2 w (List.mem_cons_of_mem _ h)⟩
  have hx := X.1; have hb := X.2.1; have hml := X.2.2.1; have hown := X.2.2.2.1; have hts := X.2.2.2.2
  have hl : lv_has ls 3 [(0, .ref h)] := hl
  have hfr : mo_fr h ad f f := mo_fr.rf
  have hmo : mo k f h ad sk (upd (upd v 28 (nI n)) 29 (nI (p0 + 1))) (va_up c 27 x) := hmo.cv (by rw [upd_id hn, upd_id hp0]) (by rw [va_up_idE hcx])
  refine lv_iconst (v := 0) hx hb d_GrantServerModel_readName_0 (by decide) ?_
  refine lv_istore_n (lv' := [(1, .int 0), (0, .ref h)]) hx hb d_GrantServerModel_readName_1 rfl hl (by decide) rfl (fun ls hl => ?_)
  have loop2 : ∀ (fu : Nat) (w : Nat) (H : Heap) (locs : List Loc) (ls : Array Slot) (hmu : 5 - w < fu) (hw : w ≤ 5) (hinv : z_nm n x p0 = z_nmF n x p0 (5 - w) w) (hM : hm_W D vwCl (hm_A f s.heap.size) f H) (hS : va_S (hm_A f s.heap.size) s.heap H locs) (hl : lv_has ls 3 [(0, .ref h), (1, .int (nI w))]), W pg l e ({ frames := 1, cells := 0, slots := 0, locals := 21 }) s m ([.ref h] : List Value).toArray below meth cd H locs 0 0 Q (F0 m 2 ls []) := by
    intro fu
    induction fu with
    | zero => intro w H locs ls hmu; exact absurd hmu (Nat.not_lt_zero _)
    | succ fu ih =>
      intro w H locs ls hmu hw hinv  hM hS hl
      refine lv_iload_n hx hb d_GrantServerModel_readName_2 rfl (lv_at hl 1 rfl) ?_
      refine lv_iconst (v := 5) hx hb d_GrantServerModel_readName_3 (by decide) ?_
      refine lv_icmp_ge (tgt := 112) hx hb d_GrantServerModel_readName_4 (by decide) (fun h1 => ?_) (fun h1 => ?_)
      · have hnm : z_nm n x p0 = none := by rw [hinv, show 5 - w = 0 by have z2 := (nI_leI (a := 5) (b := w) (by decide) (by omega)).mp h1; omega]; rfl
        refine lv_iconst (v := (-1)) hx hb d_GrantServerModel_readName_112 (by decide) ?_
        exact hm_iret X hQ hr hlk hK hM hS d_GrantServerModel_readName_113 ⟨(congrArg z_ni hnm), (show mo k _ h ad sk (upd v 29 (nI (p0 + m_nla (z_nm n x p0)))) c by rw [hnm]; exact hmo.cv (by funext z9; by_cases q28 : z9 = 28 <;> by_cases q29 : z9 = 29 <;> simp [upd, q28, q29, hn, hp0, m_nla]) (va_up_idE hcx).symm), hfr⟩
      · have hw5 : w < 5 := by have z := mt (nI_leI (a := 5) (b := w) (by decide) (by omega)).mpr h1; omega
        have hnl := m_nl_le 0 w hw5
        refine lv_iconst (v := 0) hx hb d_GrantServerModel_readName_7 (by decide) ?_
        refine lv_istore_n (lv' := [(2, .int 0), (0, .ref h), (1, .int (nI w))]) hx hb d_GrantServerModel_readName_8 rfl hl (by decide) rfl (fun ls hl => ?_)
        have loop9 : ∀ (fu9 : Nat) (i : Nat) (H : Heap) (locs : List Loc) (ls : Array Slot) (hmu9 : m_nl w - i < fu9) (hi : i ≤ m_nl w) (hok : ∀ e, e < i → p0 + 1 + e < n ∧ x (p0 + 1 + e) = nI (m_nm w e)) (hM : hm_W D vwCl (hm_A f s.heap.size) f H) (hS : va_S (hm_A f s.heap.size) s.heap H locs) (hl : lv_has ls 3 [(0, .ref h), (1, .int (nI w)), (2, .int (nI i))]), W pg l e ({ frames := 1, cells := 0, slots := 0, locals := 21 }) s m ([.ref h] : List Value).toArray below meth cd H locs 0 0 Q (F0 m 9 ls []) := by
          intro fu9
          induction fu9 with
          | zero => intro i H locs ls hmu9; exact absurd hmu9 (Nat.not_lt_zero _)
          | succ fu9 ih9 =>
            intro i H locs ls hmu9 hi hok  hM hS hl
            refine lv_iload_n hx hb d_GrantServerModel_readName_9 rfl (lv_at hl 1 rfl) ?_
            refine lv_iload_n hx hb d_GrantServerModel_readName_10 rfl (lv_at hl 2 rfl) ?_
            refine hm_calli hS hM hA (va_runS (As := [.int (nI w), .int (nI i)]) (rest := []) X (m_c_nameAt l D k f w i hw5 (by omega) H.size) (hm_cwS hts me_GrantServerModel_nameAt wl_GrantServerModel_151 rfl rfl ⟨Nat.le_of_ble_eq_true rfl, Nat.le_of_ble_eq_true rfl⟩) (hm_preS hM hK) rfl rfl hl.1 rfl (lv_room (Nat.le_of_ble_eq_true rfl)) d_GrantServerModel_readName_11 ⟨Nat.le_of_ble_eq_true rfl, Nat.le_of_ble_eq_true rfl⟩) (fun r4 f2 H locs p3 hM hS => ?_)
            obtain ⟨rfl, rfl⟩ := p3
            refine lv_if_eq (tgt := 55) hx hb d_GrantServerModel_readName_14 (by decide) (fun h5 => ?_) (fun h5 => ?_)
            · refine lv_iload_n hx hb d_GrantServerModel_readName_55 rfl (lv_at hl 1 rfl) ?_
              refine lv_iload_n hx hb d_GrantServerModel_readName_56 rfl (lv_at hl 2 rfl) ?_
              refine hm_calli hS hM hA (va_runS (As := [.int (nI w), .int (nI i)]) (rest := []) X (m_c_nameAt l D k f w i hw5 (by omega) H.size) (hm_cwS hts me_GrantServerModel_nameAt wl_GrantServerModel_151 rfl rfl ⟨Nat.le_of_ble_eq_true rfl, Nat.le_of_ble_eq_true rfl⟩) (hm_preS hM hK) rfl rfl hl.1 rfl (lv_room (Nat.le_of_ble_eq_true rfl)) d_GrantServerModel_readName_57 ⟨Nat.le_of_ble_eq_true rfl, Nat.le_of_ble_eq_true rfl⟩) (fun r8 f6 H locs p7 hM hS => ?_)
              obtain ⟨rfl, rfl⟩ := p7
              refine lv_if_ne (tgt := 106) hx hb d_GrantServerModel_readName_60 (by decide) (fun h9 => ?_) (fun h9 => ?_)
              · exact absurd h5 h9
              · have him : i = m_nl w := by have z := (m_nm_0 w hw5 i (by omega)).mp h5; omega
                refine lv_aload_n hx hb d_GrantServerModel_readName_63 rfl (lv_at hl 0 rfl) ?_
                refine hm_get X hK hM hmo.1 fl_GrantServerModel_188 (v := .int (nI (p0 + 1))) rfl d_GrantServerModel_readName_64 ?_
                refine lv_iload_n hx hb d_GrantServerModel_readName_67 rfl (lv_at hl 2 rfl) ?_
                refine lv_iadd hx hb d_GrantServerModel_readName_68 ?_
                refine hm_top (z := nI (p0 + 1 + i)) (nI_add _ _) ?_
                refine lv_aload_n hx hb d_GrantServerModel_readName_69 rfl (lv_at hl 0 rfl) ?_
                refine hm_get X hK hM hmo.1 fl_GrantServerModel_121 (v := .int (nI n)) rfl d_GrantServerModel_readName_70 ?_
                refine lv_icmp_ge (tgt := 106) hx hb d_GrantServerModel_readName_73 (by decide) (fun h10 => ?_) (fun h10 => ?_)
                · have hns : ¬ z_st n x p0 (7 + w) = true := fun z => by have z3 := ((m_st_w hw5).mp z).2.2.1; have z4 := (nI_leI (a := n) (b := p0 + 1 + i) (by omega) (by omega)).mp h10; omega
                  refine lv_iinc (lv' := [(1, .int (nI (w + 1))), (0, .ref h), (2, .int (nI i))]) hx hb d_GrantServerModel_readName_106 hl (k := 1) rfl (hm_inc _) (by decide) rfl (fun ls hl => ?_)
                  refine lv_goto (tgt := 2) hx hb d_GrantServerModel_readName_109 (by decide) ?_
                  exact ih (w + 1)  H locs ls (by omega) (by omega) (by rw [hinv, show 5 - w = (5 - (w + 1)) + 1 by omega]; exact if_neg hns)  hM hS (lv_sub hl [1, 0] rfl)
                · have hlt2 : p0 + 1 + i < n := by have z := mt (nI_leI (a := n) (b := p0 + 1 + i) (by omega) (by omega)).mpr h10; omega
                  refine lv_aload_n hx hb d_GrantServerModel_readName_76 rfl (lv_at hl 0 rfl) ?_
                  refine hm_get X hK hM hmo.1 fl_GrantServerModel_63 (v := .ref (ad 27)) rfl d_GrantServerModel_readName_77 ?_
                  refine lv_aload_n hx hb d_GrantServerModel_readName_80 rfl (lv_at hl 0 rfl) ?_
                  refine hm_get X hK hM hmo.1 fl_GrantServerModel_188 (v := .int (nI (p0 + 1))) rfl d_GrantServerModel_readName_81 ?_
                  refine lv_iload_n hx hb d_GrantServerModel_readName_84 rfl (lv_at hl 2 rfl) ?_
                  refine lv_iadd hx hb d_GrantServerModel_readName_85 ?_
                  refine hm_top (z := nI (p0 + 1 + i)) (nI_add _ _) ?_
                  have g11 : f (ad 27) = some (.inl (k 0, 130, .inl x)) := hmo.arr 27 (by decide) (by decide)
                  refine hm_iald X hK hM g11 0 rfl (p0 + 1 + i) rfl (by omega) (by decide) d_GrantServerModel_readName_86 ?_
                  refine lv_bipush (v := 34) hx hb d_GrantServerModel_readName_87 (by decide) ?_
                  refine lv_icmp_ne (tgt := 106) hx hb d_GrantServerModel_readName_89 (by decide) (fun h12 => ?_) (fun h12 => ?_)
                  · have hns : ¬ z_st n x p0 (7 + w) = true := fun z => h12 (by rw [him]; exact ((m_st_w hw5).mp z).2.2.2)
                    refine lv_iinc (lv' := [(1, .int (nI (w + 1))), (0, .ref h), (2, .int (nI i))]) hx hb d_GrantServerModel_readName_106 hl (k := 1) rfl (hm_inc _) (by decide) rfl (fun ls hl => ?_)
                    refine lv_goto (tgt := 2) hx hb d_GrantServerModel_readName_109 (by decide) ?_
                    exact ih (w + 1)  H locs ls (by omega) (by omega) (by rw [hinv, show 5 - w = (5 - (w + 1)) + 1 by omega]; exact if_neg hns)  hM hS (lv_sub hl [1, 0] rfl)
                  · have hgd : z_st n x p0 (7 + w) = true := (m_st_w hw5).mpr ⟨⟨hq1, hq2⟩, fun e h9 => hok e (by omega), by rw [← him]; exact ⟨hlt2, h12⟩⟩
                    have hnm : z_nm n x p0 = some w := by rw [hinv, show 5 - w = (5 - (w + 1)) + 1 by omega]; exact if_pos hgd
                    refine lv_aload_n hx hb d_GrantServerModel_readName_92 rfl (lv_at hl 0 rfl) ?_
                    refine lv_aload_n hx hb d_GrantServerModel_readName_93 rfl (lv_at hl 0 rfl) ?_
                    refine hm_get X hK hM hmo.1 fl_GrantServerModel_188 (v := .int (nI (p0 + 1))) rfl d_GrantServerModel_readName_94 ?_
                    refine lv_iload_n hx hb d_GrantServerModel_readName_97 rfl (lv_at hl 2 rfl) ?_
                    refine lv_iadd hx hb d_GrantServerModel_readName_98 ?_
                    refine hm_top (z := nI (p0 + 1 + i)) (nI_add _ _) ?_
                    refine lv_iconst (v := 1) hx hb d_GrantServerModel_readName_99 (by decide) ?_
                    refine lv_iadd hx hb d_GrantServerModel_readName_100 ?_
                    refine hm_top (nI_1 _) ?_
                    refine hm_put X hK hM hS (fs' := moV sk (upd (upd (upd v 28 (nI n)) 29 (nI (p0 + 1))) 29 (nI ((p0 + 1 + i) + 1))) ad) hmo.1 fl_GrantServerModel_188 rfl rfl (Nat.le_of_ble_eq_true rfl) rfl d_GrantServerModel_readName_101 (fun f13 H locs e14 hM hS => ?_)
                    have hfr := hfr.put e14; have hmo : mo k f13 h ad sk (upd (upd (upd v 28 (nI n)) 29 (nI (p0 + 1))) 29 (nI ((p0 + 1 + i) + 1))) (va_up c 27 x) := hmo.put e14
                    refine lv_iload_n hx hb d_GrantServerModel_readName_104 rfl (lv_at hl 1 rfl) ?_
                    exact hm_iret X hQ hr hlk hK hM hS d_GrantServerModel_readName_105 ⟨(congrArg z_ni hnm), (show mo k _ h ad sk (upd v 29 (nI (p0 + m_nla (z_nm n x p0)))) c by rw [hnm, show p0 + m_nla (some w) = p0 + 1 + i + 1 by show p0 + st_len.getD (7 + w) 0 = _; rw [(m_nl_st w hw5).1]; omega]; exact hmo.cv (by funext z9; by_cases q28 : z9 = 28 <;> by_cases q29 : z9 = 29 <;> simp [upd, q28, q29, hn, hp0]) (va_up_idE hcx).symm), hfr⟩
            · have hil : i < m_nl w := by have z := mt (m_nm_0 w hw5 i (by omega)).mpr h5; omega
              refine lv_aload_n hx hb d_GrantServerModel_readName_17 rfl (lv_at hl 0 rfl) ?_
              refine hm_get X hK hM hmo.1 fl_GrantServerModel_188 (v := .int (nI (p0 + 1))) rfl d_GrantServerModel_readName_18 ?_
              refine lv_iload_n hx hb d_GrantServerModel_readName_21 rfl (lv_at hl 2 rfl) ?_
              refine lv_iadd hx hb d_GrantServerModel_readName_22 ?_
              refine hm_top (z := nI (p0 + 1 + i)) (nI_add _ _) ?_
              refine lv_aload_n hx hb d_GrantServerModel_readName_23 rfl (lv_at hl 0 rfl) ?_
              refine hm_get X hK hM hmo.1 fl_GrantServerModel_121 (v := .int (nI n)) rfl d_GrantServerModel_readName_24 ?_
              refine lv_icmp_ge (tgt := 55) hx hb d_GrantServerModel_readName_27 (by decide) (fun h6 => ?_) (fun h6 => ?_)
              · refine lv_iload_n hx hb d_GrantServerModel_readName_55 rfl (lv_at hl 1 rfl) ?_
                refine lv_iload_n hx hb d_GrantServerModel_readName_56 rfl (lv_at hl 2 rfl) ?_
                refine hm_calli hS hM hA (va_runS (As := [.int (nI w), .int (nI i)]) (rest := []) X (m_c_nameAt l D k f w i hw5 (by omega) H.size) (hm_cwS hts me_GrantServerModel_nameAt wl_GrantServerModel_151 rfl rfl ⟨Nat.le_of_ble_eq_true rfl, Nat.le_of_ble_eq_true rfl⟩) (hm_preS hM hK) rfl rfl hl.1 rfl (lv_room (Nat.le_of_ble_eq_true rfl)) d_GrantServerModel_readName_57 ⟨Nat.le_of_ble_eq_true rfl, Nat.le_of_ble_eq_true rfl⟩) (fun r9 f7 H locs p8 hM hS => ?_)
                obtain ⟨rfl, rfl⟩ := p8
                refine lv_if_ne (tgt := 106) hx hb d_GrantServerModel_readName_60 (by decide) (fun h10 => ?_) (fun h10 => ?_)
                · have hns : ¬ z_st n x p0 (7 + w) = true := fun z => by have z3 := (((m_st_w hw5).mp z).2.1 i hil).1; have z4 := (nI_leI (a := n) (b := p0 + 1 + i) (by omega) (by omega)).mp h6; omega
                  refine lv_iinc (lv' := [(1, .int (nI (w + 1))), (0, .ref h), (2, .int (nI i))]) hx hb d_GrantServerModel_readName_106 hl (k := 1) rfl (hm_inc _) (by decide) rfl (fun ls hl => ?_)
                  refine lv_goto (tgt := 2) hx hb d_GrantServerModel_readName_109 (by decide) ?_
                  exact ih (w + 1)  H locs ls (by omega) (by omega) (by rw [hinv, show 5 - w = (5 - (w + 1)) + 1 by omega]; exact if_neg hns)  hM hS (lv_sub hl [1, 0] rfl)
                · exact absurd h10 h5
              · have hlt : p0 + 1 + i < n := by have z := mt (nI_leI (a := n) (b := p0 + 1 + i) (by omega) (by omega)).mpr h6; omega
                refine lv_aload_n hx hb d_GrantServerModel_readName_30 rfl (lv_at hl 0 rfl) ?_
                refine hm_get X hK hM hmo.1 fl_GrantServerModel_63 (v := .ref (ad 27)) rfl d_GrantServerModel_readName_31 ?_
                refine lv_aload_n hx hb d_GrantServerModel_readName_34 rfl (lv_at hl 0 rfl) ?_
                refine hm_get X hK hM hmo.1 fl_GrantServerModel_188 (v := .int (nI (p0 + 1))) rfl d_GrantServerModel_readName_35 ?_
                refine lv_iload_n hx hb d_GrantServerModel_readName_38 rfl (lv_at hl 2 rfl) ?_
                refine lv_iadd hx hb d_GrantServerModel_readName_39 ?_
                refine hm_top (z := nI (p0 + 1 + i)) (nI_add _ _) ?_
                have g7 : f (ad 27) = some (.inl (k 0, 130, .inl x)) := hmo.arr 27 (by decide) (by decide)
                refine hm_iald X hK hM g7 0 rfl (p0 + 1 + i) rfl (by omega) (by decide) d_GrantServerModel_readName_40 ?_
                refine lv_iload_n hx hb d_GrantServerModel_readName_41 rfl (lv_at hl 1 rfl) ?_
                refine lv_iload_n hx hb d_GrantServerModel_readName_42 rfl (lv_at hl 2 rfl) ?_
                refine hm_calli hS hM hA (va_runS (As := [.int (nI w), .int (nI i)]) (rest := [.int (x (p0 + 1 + i))]) X (m_c_nameAt l D k f w i hw5 (by omega) H.size) (hm_cwS hts me_GrantServerModel_nameAt wl_GrantServerModel_151 rfl rfl ⟨Nat.le_of_ble_eq_true rfl, Nat.le_of_ble_eq_true rfl⟩) (hm_preS hM hK) rfl rfl hl.1 rfl (lv_room (Nat.le_of_ble_eq_true rfl)) d_GrantServerModel_readName_43 ⟨Nat.le_of_ble_eq_true rfl, Nat.le_of_ble_eq_true rfl⟩) (fun r10 f8 H locs p9 hM hS => ?_)
                obtain ⟨rfl, rfl⟩ := p9
                refine lv_icmp_ne (tgt := 55) hx hb d_GrantServerModel_readName_46 (by decide) (fun h11 => ?_) (fun h11 => ?_)
                · refine lv_iload_n hx hb d_GrantServerModel_readName_55 rfl (lv_at hl 1 rfl) ?_
                  refine lv_iload_n hx hb d_GrantServerModel_readName_56 rfl (lv_at hl 2 rfl) ?_
                  refine hm_calli hS hM hA (va_runS (As := [.int (nI w), .int (nI i)]) (rest := []) X (m_c_nameAt l D k f w i hw5 (by omega) H.size) (hm_cwS hts me_GrantServerModel_nameAt wl_GrantServerModel_151 rfl rfl ⟨Nat.le_of_ble_eq_true rfl, Nat.le_of_ble_eq_true rfl⟩) (hm_preS hM hK) rfl rfl hl.1 rfl (lv_room (Nat.le_of_ble_eq_true rfl)) d_GrantServerModel_readName_57 ⟨Nat.le_of_ble_eq_true rfl, Nat.le_of_ble_eq_true rfl⟩) (fun r14 f12 H locs p13 hM hS => ?_)
                  obtain ⟨rfl, rfl⟩ := p13
                  refine lv_if_ne (tgt := 106) hx hb d_GrantServerModel_readName_60 (by decide) (fun h15 => ?_) (fun h15 => ?_)
                  · have hns : ¬ z_st n x p0 (7 + w) = true := fun z => h11 (((m_st_w hw5).mp z).2.1 i hil).2
                    refine lv_iinc (lv' := [(1, .int (nI (w + 1))), (0, .ref h), (2, .int (nI i))]) hx hb d_GrantServerModel_readName_106 hl (k := 1) rfl (hm_inc _) (by decide) rfl (fun ls hl => ?_)
                    refine lv_goto (tgt := 2) hx hb d_GrantServerModel_readName_109 (by decide) ?_
                    exact ih (w + 1)  H locs ls (by omega) (by omega) (by rw [hinv, show 5 - w = (5 - (w + 1)) + 1 by omega]; exact if_neg hns)  hM hS (lv_sub hl [1, 0] rfl)
                  · exact absurd h15 h5
                · refine lv_iinc (lv' := [(2, .int (nI (i + 1))), (0, .ref h), (1, .int (nI w))]) hx hb d_GrantServerModel_readName_49 hl (k := 2) rfl (hm_inc _) (by decide) rfl (fun ls hl => ?_)
                  refine lv_goto (tgt := 9) hx hb d_GrantServerModel_readName_52 (by decide) ?_
                  exact ih9 (i + 1)  H locs ls (by omega) (by omega) (z_ext hok ⟨hlt, h11⟩)  hM hS (lv_sub hl [1, 2, 0] rfl)
        exact loop9 _ 0  H locs ls (Nat.lt_succ_self _) (Nat.zero_le _) (fun e h9 => absurd h9 (Nat.not_lt_zero _))  hM hS (lv_sub hl [1, 2, 0] rfl)
  exact loop2 _ 0  s.heap [] ls (Nat.lt_succ_self _) (Nat.zero_le _) rfl  hM hS (lv_sub hl [1, 0] rfl)
set_option maxHeartbeats 4000000 in
set_option maxRecDepth 100000 in
theorem m_c_readNumber (l : Launch) (D : va_G) (k : Nat → ClassId) (f : hm) (h : Nat) (ad : Nat → Nat) (sk : Int64) (v : Nat → Int32) (c : Nat → Nat → Int32) (n : Nat) (p : Nat) (x : Nat → Int32) (hmo : mo k f h ad sk v c) (hn : v 28 = nI n) (hcx : c 27 = x) (hp0 : v 29 = nI p) (hn9 : n ≤ 120) (hp : p ≤ n) : hm_Mi l D vwCl (tyL k) y_GrantServerModel_readNumber (Cond.code y_GrantServerModel_readNumber b_GrantServerModel_readNumber 4 (some .int) :: TB) ({ frames := 1, cells := 0, slots := 0, locals := 20 }) [.ref h] f (fun (r : Int32) (f1 : hm) => z_nr n x (z_sk n x p) = r ∧ mo k f1 h ad sk (upd v 29 (nI (z_na n x (z_sk n x p)))) c ∧ mo_fr h ad f f1) 0 0 := by
  refine hm_enter (Qc := fun sz => va_Qi _ (hm_R D vwCl (tyL k) f sz) (hm_A f sz)) (by decide) rfl (Nat.le_of_ble_eq_true rfl) ?_
  intro pg e s m below meth cd ls X0 hr hlk hin hK hM hS hA hl Q hQ
  have X : CallFix pg m cd b_GrantServerModel_readNumber 4 s ([.ref h] : List Value).toArray TB R_GrantServerModel := ⟨X0.1, X0.2.1, X0.2.2.1, X0.2.2.2.1, fun w h => X0.2.2.2.2 w (List.mem_cons_of_mem _ h)⟩
  have hx := X.1; have hb := X.2.1; have hml := X.2.2.1; have hown := X.2.2.2.1; have hts := X.2.2.2.2
  have hl : lv_has ls 4 [(0, .ref h)] := hl
  have hfr : mo_fr h ad f f := mo_fr.rf
  have hmo : mo k f h ad sk (upd (upd v 28 (nI n)) 29 (nI p)) (va_up c 27 x) := hmo.cv (by rw [upd_id hn, upd_id hp0]) (by rw [va_up_idE hcx])
  refine lv_aload_n hx hb d_GrantServerModel_readNumber_0 rfl (lv_at hl 0 rfl) ?_
  refine hm_calli hS hM hA (va_runV (As := []) (rest := []) X (m_c_next l D k f h ad sk (upd (upd v 28 (nI n)) 29 (nI p)) (va_up c 27 x) n p x hmo rfl rfl rfl hn9 hp s.heap.size) (hm_cwV hts me_GrantServerModel_next wl_GrantServerModel_191 rfl rfl ⟨Nat.le_of_ble_eq_true rfl, Nat.le_of_ble_eq_true rfl⟩) (hm_preV hM hK hmo.1 rfl) rfl rfl hl.1 rfl (lv_room (Nat.le_of_ble_eq_true rfl)) d_GrantServerModel_readNumber_1 ⟨Nat.le_of_ble_eq_true rfl, Nat.le_of_ble_eq_true rfl⟩) (fun r3 f1 H locs p2 hM hS => ?_)
  obtain ⟨rfl, hmo, hfr4⟩ := p2
  have hfr := hfr.tr hfr4
  have hmo : mo k f1 h ad sk (upd (upd (upd v 28 (nI n)) 29 (nI p)) 29 (nI (z_sk n x p))) (va_up c 27 x) := hmo
  obtain ⟨q, hq⟩ : ∃ q, z_sk n x p = q := ⟨_, rfl⟩
  have hqn : q ≤ n := hq ▸ (z_sk_le hp).2
  rw [hq] at hmo
  refine lv_istore_n (lv' := [(1, .int (m_nx n x p)), (0, .ref h)]) hx hb d_GrantServerModel_readNumber_4 rfl hl (by decide) rfl (fun ls hl => ?_)
  refine lv_iload_n hx hb d_GrantServerModel_readNumber_5 rfl (lv_at hl 0 rfl) ?_
  refine lv_bipush (v := 48) hx hb d_GrantServerModel_readNumber_6 (by decide) ?_
  refine lv_icmp_ne (tgt := 23) hx hb d_GrantServerModel_readNumber_8 (by decide) (fun h5 => ?_) (fun h5 => ?_)
  · have h48 : ¬ (q < n ∧ x q = 48) := by have z := mt (m_nx_eq (n := n) (p := p) (x := x) (y := 48) (by decide)).mpr h5; rw [hq] at z; exact z
    refine lv_iconst (v := 0) hx hb d_GrantServerModel_readNumber_23 (by decide) ?_
    refine lv_istore_n (lv' := [(2, .int 0), (1, .int (m_nx n x p)), (0, .ref h)]) hx hb d_GrantServerModel_readNumber_24 rfl hl (by decide) rfl (fun ls hl => ?_)
    refine lv_iconst (v := 0) hx hb d_GrantServerModel_readNumber_25 (by decide) ?_
    refine lv_istore_n (lv' := [(3, .int 0), (2, .int 0), (1, .int (m_nx n x p)), (0, .ref h)]) hx hb d_GrantServerModel_readNumber_26 rfl hl (by decide) rfl (fun ls hl => ?_)
    have loop27 : ∀ (fu : Nat) (d : Nat) (a : Int32) (fL : hm) (H : Heap) (locs : List Loc) (ls : Array Slot) (hmu : 9 - d < fu) (hd : d ≤ 9) (hpd : q + d ≤ n) (hinv : z_num n x 9 q 0 = z_num n x (9 - d) (q + d) a) (hmo : mo k fL h ad sk (upd (upd v 28 (nI n)) 29 (nI (q + d))) (va_up c 27 x)) (hfr : mo_fr h ad f fL) (hM : hm_W D vwCl (hm_A f s.heap.size) fL H) (hS : va_S (hm_A f s.heap.size) s.heap H locs) (hl : lv_has ls 4 [(0, .ref h), (2, .int a), (3, .int (nI d))]), W pg l e ({ frames := 1, cells := 0, slots := 0, locals := 20 }) s m ([.ref h] : List Value).toArray below meth cd H locs 0 0 Q (F0 m 27 ls []) := by
      intro fu
      induction fu with
      | zero => intro d a fL H locs ls hmu; exact absurd hmu (Nat.not_lt_zero _)
      | succ fu ih =>
        intro d a fL H locs ls hmu hd hpd hinv  hmo hfr hM hS hl
        refine lv_aload_n hx hb d_GrantServerModel_readNumber_27 rfl (lv_at hl 0 rfl) ?_
        refine hm_get X hK hM hmo.1 fl_GrantServerModel_188 (v := .int (nI (q + d))) rfl d_GrantServerModel_readNumber_28 ?_
        refine lv_aload_n hx hb d_GrantServerModel_readNumber_31 rfl (lv_at hl 0 rfl) ?_
        refine hm_get X hK hM hmo.1 fl_GrantServerModel_121 (v := .int (nI n)) rfl d_GrantServerModel_readNumber_32 ?_
        refine lv_icmp_ge (tgt := 106) hx hb d_GrantServerModel_readNumber_35 (by decide) (fun h6 => ?_) (fun h6 => ?_)
        · have hnum : z_num n x 9 q 0 = (q + d, a) := hinv.trans (z_num_stop (fun z => by have z2 := (nI_leI (a := n) (b := q + d) (by omega) (by omega)).mp h6; omega))
          refine lv_iload_n hx hb d_GrantServerModel_readNumber_106 rfl (lv_at hl 2 rfl) ?_
          refine lv_if_ne (tgt := 114) hx hb d_GrantServerModel_readNumber_107 (by decide) (fun h7 => ?_) (fun h7 => ?_)
          · refine lv_iload_n hx hb d_GrantServerModel_readNumber_114 rfl (lv_at hl 1 rfl) ?_
            exact hm_iret X hQ hr hlk hK hM hS d_GrantServerModel_readNumber_115 ⟨(by rw [hq]; unfold z_nr; rw [if_neg h48, hnum, if_neg (fun z => h7 ((nI_eq (a := d) (b := 0) (by omega) (by decide)).mpr (by have z2 : q + d = q := z; omega)))]), (show mo k _ h ad sk (upd v 29 (nI (z_na n x (z_sk n x p)))) c by rw [show z_na n x (z_sk n x p) = q + d by rw [hq]; unfold z_na; rw [if_neg h48, hnum]]; exact hmo.cv (by funext z9; by_cases q28 : z9 = 28 <;> by_cases q29 : z9 = 29 <;> simp [upd, q28, q29, hn, hp0]) (va_up_idE hcx).symm), hfr⟩
          · refine lv_iconst (v := (-1)) hx hb d_GrantServerModel_readNumber_110 (by decide) ?_
            refine lv_goto (tgt := 115) hx hb d_GrantServerModel_readNumber_111 (by decide) ?_
            exact hm_iret X hQ hr hlk hK hM hS d_GrantServerModel_readNumber_115 ⟨(by rw [hq]; unfold z_nr; rw [if_neg h48, hnum, if_pos (by have z := (nI_eq (a := d) (b := 0) (by omega) (by decide)).mp h7; show q + d = q; omega)]), (show mo k _ h ad sk (upd v 29 (nI (z_na n x (z_sk n x p)))) c by rw [show z_na n x (z_sk n x p) = q + d by rw [hq]; unfold z_na; rw [if_neg h48, hnum]]; exact hmo.cv (by funext z9; by_cases q28 : z9 = 28 <;> by_cases q29 : z9 = 29 <;> simp [upd, q28, q29, hn, hp0]) (va_up_idE hcx).symm), hfr⟩
        · have hlt : q + d < n := by have z := mt (nI_leI (a := n) (b := q + d) (by omega) (by omega)).mpr h6; omega
          refine lv_aload_n hx hb d_GrantServerModel_readNumber_38 rfl (lv_at hl 0 rfl) ?_
          refine hm_get X hK hM hmo.1 fl_GrantServerModel_63 (v := .ref (ad 27)) rfl d_GrantServerModel_readNumber_39 ?_
          refine lv_aload_n hx hb d_GrantServerModel_readNumber_42 rfl (lv_at hl 0 rfl) ?_
          refine hm_get X hK hM hmo.1 fl_GrantServerModel_188 (v := .int (nI (q + d))) rfl d_GrantServerModel_readNumber_43 ?_
          have g7 : fL (ad 27) = some (.inl (k 0, 130, .inl x)) := hmo.arr 27 (by decide) (by decide)
          refine hm_iald X hK hM g7 0 rfl (q + d) rfl (by omega) (by decide) d_GrantServerModel_readNumber_46 ?_
          refine lv_bipush (v := 48) hx hb d_GrantServerModel_readNumber_47 (by decide) ?_
          refine lv_icmp_lt (tgt := 106) hx hb d_GrantServerModel_readNumber_49 (by decide) (fun h8 => ?_) (fun h8 => ?_)
          · have hnum : z_num n x 9 q 0 = (q + d, a) := hinv.trans (z_num_stop (fun z => z.2.1 h8))
            refine lv_iload_n hx hb d_GrantServerModel_readNumber_106 rfl (lv_at hl 2 rfl) ?_
            refine lv_if_ne (tgt := 114) hx hb d_GrantServerModel_readNumber_107 (by decide) (fun h9 => ?_) (fun h9 => ?_)
            · refine lv_iload_n hx hb d_GrantServerModel_readNumber_114 rfl (lv_at hl 1 rfl) ?_
              exact hm_iret X hQ hr hlk hK hM hS d_GrantServerModel_readNumber_115 ⟨(by rw [hq]; unfold z_nr; rw [if_neg h48, hnum, if_neg (fun z => h9 ((nI_eq (a := d) (b := 0) (by omega) (by decide)).mpr (by have z2 : q + d = q := z; omega)))]), (show mo k _ h ad sk (upd v 29 (nI (z_na n x (z_sk n x p)))) c by rw [show z_na n x (z_sk n x p) = q + d by rw [hq]; unfold z_na; rw [if_neg h48, hnum]]; exact hmo.cv (by funext z9; by_cases q28 : z9 = 28 <;> by_cases q29 : z9 = 29 <;> simp [upd, q28, q29, hn, hp0]) (va_up_idE hcx).symm), hfr⟩
            · refine lv_iconst (v := (-1)) hx hb d_GrantServerModel_readNumber_110 (by decide) ?_
              refine lv_goto (tgt := 115) hx hb d_GrantServerModel_readNumber_111 (by decide) ?_
              exact hm_iret X hQ hr hlk hK hM hS d_GrantServerModel_readNumber_115 ⟨(by rw [hq]; unfold z_nr; rw [if_neg h48, hnum, if_pos (by have z := (nI_eq (a := d) (b := 0) (by omega) (by decide)).mp h9; show q + d = q; omega)]), (show mo k _ h ad sk (upd v 29 (nI (z_na n x (z_sk n x p)))) c by rw [show z_na n x (z_sk n x p) = q + d by rw [hq]; unfold z_na; rw [if_neg h48, hnum]]; exact hmo.cv (by funext z9; by_cases q28 : z9 = 28 <;> by_cases q29 : z9 = 29 <;> simp [upd, q28, q29, hn, hp0]) (va_up_idE hcx).symm), hfr⟩
          · refine lv_aload_n hx hb d_GrantServerModel_readNumber_52 rfl (lv_at hl 0 rfl) ?_
            refine hm_get X hK hM hmo.1 fl_GrantServerModel_63 (v := .ref (ad 27)) rfl d_GrantServerModel_readNumber_53 ?_
            refine lv_aload_n hx hb d_GrantServerModel_readNumber_56 rfl (lv_at hl 0 rfl) ?_
            refine hm_get X hK hM hmo.1 fl_GrantServerModel_188 (v := .int (nI (q + d))) rfl d_GrantServerModel_readNumber_57 ?_
            have g9 : fL (ad 27) = some (.inl (k 0, 130, .inl x)) := hmo.arr 27 (by decide) (by decide)
            refine hm_iald X hK hM g9 0 rfl (q + d) rfl (by omega) (by decide) d_GrantServerModel_readNumber_60 ?_
            refine lv_bipush (v := 57) hx hb d_GrantServerModel_readNumber_61 (by decide) ?_
            refine lv_icmp_gt (tgt := 106) hx hb d_GrantServerModel_readNumber_63 (by decide) (fun h10 => ?_) (fun h10 => ?_)
            · have hnum : z_num n x 9 q 0 = (q + d, a) := hinv.trans (z_num_stop (fun z => z.2.2 h10))
              refine lv_iload_n hx hb d_GrantServerModel_readNumber_106 rfl (lv_at hl 2 rfl) ?_
              refine lv_if_ne (tgt := 114) hx hb d_GrantServerModel_readNumber_107 (by decide) (fun h11 => ?_) (fun h11 => ?_)
              · refine lv_iload_n hx hb d_GrantServerModel_readNumber_114 rfl (lv_at hl 1 rfl) ?_
                exact hm_iret X hQ hr hlk hK hM hS d_GrantServerModel_readNumber_115 ⟨(by rw [hq]; unfold z_nr; rw [if_neg h48, hnum, if_neg (fun z => h11 ((nI_eq (a := d) (b := 0) (by omega) (by decide)).mpr (by have z2 : q + d = q := z; omega)))]), (show mo k _ h ad sk (upd v 29 (nI (z_na n x (z_sk n x p)))) c by rw [show z_na n x (z_sk n x p) = q + d by rw [hq]; unfold z_na; rw [if_neg h48, hnum]]; exact hmo.cv (by funext z9; by_cases q28 : z9 = 28 <;> by_cases q29 : z9 = 29 <;> simp [upd, q28, q29, hn, hp0]) (va_up_idE hcx).symm), hfr⟩
              · refine lv_iconst (v := (-1)) hx hb d_GrantServerModel_readNumber_110 (by decide) ?_
                refine lv_goto (tgt := 115) hx hb d_GrantServerModel_readNumber_111 (by decide) ?_
                exact hm_iret X hQ hr hlk hK hM hS d_GrantServerModel_readNumber_115 ⟨(by rw [hq]; unfold z_nr; rw [if_neg h48, hnum, if_pos (by have z := (nI_eq (a := d) (b := 0) (by omega) (by decide)).mp h11; show q + d = q; omega)]), (show mo k _ h ad sk (upd v 29 (nI (z_na n x (z_sk n x p)))) c by rw [show z_na n x (z_sk n x p) = q + d by rw [hq]; unfold z_na; rw [if_neg h48, hnum]]; exact hmo.cv (by funext z9; by_cases q28 : z9 = 28 <;> by_cases q29 : z9 = 29 <;> simp [upd, q28, q29, hn, hp0]) (va_up_idE hcx).symm), hfr⟩
            · refine lv_iload_n hx hb d_GrantServerModel_readNumber_66 rfl (lv_at hl 2 rfl) ?_
              refine lv_bipush (v := 9) hx hb d_GrantServerModel_readNumber_67 (by decide) ?_
              refine lv_icmp_ge (tgt := 106) hx hb d_GrantServerModel_readNumber_69 (by decide) (fun h11 => ?_) (fun h11 => ?_)
              · have hnum : z_num n x 9 q 0 = (q + d, a) := by rw [hinv, show 9 - d = 0 by have z2 := (nI_leI (a := 9) (b := d) (by decide) (by omega)).mp h11; omega]; rfl
                refine lv_iload_n hx hb d_GrantServerModel_readNumber_106 rfl (lv_at hl 2 rfl) ?_
                refine lv_if_ne (tgt := 114) hx hb d_GrantServerModel_readNumber_107 (by decide) (fun h12 => ?_) (fun h12 => ?_)
                · refine lv_iload_n hx hb d_GrantServerModel_readNumber_114 rfl (lv_at hl 1 rfl) ?_
                  exact hm_iret X hQ hr hlk hK hM hS d_GrantServerModel_readNumber_115 ⟨(by rw [hq]; unfold z_nr; rw [if_neg h48, hnum, if_neg (fun z => h12 ((nI_eq (a := d) (b := 0) (by omega) (by decide)).mpr (by have z2 : q + d = q := z; omega)))]), (show mo k _ h ad sk (upd v 29 (nI (z_na n x (z_sk n x p)))) c by rw [show z_na n x (z_sk n x p) = q + d by rw [hq]; unfold z_na; rw [if_neg h48, hnum]]; exact hmo.cv (by funext z9; by_cases q28 : z9 = 28 <;> by_cases q29 : z9 = 29 <;> simp [upd, q28, q29, hn, hp0]) (va_up_idE hcx).symm), hfr⟩
                · refine lv_iconst (v := (-1)) hx hb d_GrantServerModel_readNumber_110 (by decide) ?_
                  refine lv_goto (tgt := 115) hx hb d_GrantServerModel_readNumber_111 (by decide) ?_
                  exact hm_iret X hQ hr hlk hK hM hS d_GrantServerModel_readNumber_115 ⟨(by rw [hq]; unfold z_nr; rw [if_neg h48, hnum, if_pos (by have z := (nI_eq (a := d) (b := 0) (by omega) (by decide)).mp h12; show q + d = q; omega)]), (show mo k _ h ad sk (upd v 29 (nI (z_na n x (z_sk n x p)))) c by rw [show z_na n x (z_sk n x p) = q + d by rw [hq]; unfold z_na; rw [if_neg h48, hnum]]; exact hmo.cv (by funext z9; by_cases q28 : z9 = 28 <;> by_cases q29 : z9 = 29 <;> simp [upd, q28, q29, hn, hp0]) (va_up_idE hcx).symm), hfr⟩
              · have hd9 : d < 9 := by have z := mt (nI_leI (a := 9) (b := d) (by decide) (by omega)).mpr h11; omega
                refine lv_bipush (v := 10) hx hb d_GrantServerModel_readNumber_72 (by decide) ?_
                refine lv_iload_n hx hb d_GrantServerModel_readNumber_74 rfl (lv_at hl 1 rfl) ?_
                refine lv_imul hx hb d_GrantServerModel_readNumber_75 ?_
                refine lv_aload_n hx hb d_GrantServerModel_readNumber_76 rfl (lv_at hl 0 rfl) ?_
                refine hm_get X hK hM hmo.1 fl_GrantServerModel_63 (v := .ref (ad 27)) rfl d_GrantServerModel_readNumber_77 ?_
                refine lv_aload_n hx hb d_GrantServerModel_readNumber_80 rfl (lv_at hl 0 rfl) ?_
                refine hm_get X hK hM hmo.1 fl_GrantServerModel_188 (v := .int (nI (q + d))) rfl d_GrantServerModel_readNumber_81 ?_
                have g12 : fL (ad 27) = some (.inl (k 0, 130, .inl x)) := hmo.arr 27 (by decide) (by decide)
                refine hm_iald X hK hM g12 0 rfl (q + d) rfl (by omega) (by decide) d_GrantServerModel_readNumber_84 ?_
                refine lv_iadd hx hb d_GrantServerModel_readNumber_85 ?_
                refine lv_bipush (v := 48) hx hb d_GrantServerModel_readNumber_86 (by decide) ?_
                refine lv_isub hx hb d_GrantServerModel_readNumber_88 ?_
                refine hm_top (z := a * 10 + x (q + d) - 48) m_mr ?_
                refine lv_istore_n (lv' := [(2, .int (a * 10 + x (q + d) - 48)), (0, .ref h), (3, .int (nI d))]) hx hb d_GrantServerModel_readNumber_89 rfl hl (by decide) rfl (fun ls hl => ?_)
                refine lv_aload_n hx hb d_GrantServerModel_readNumber_90 rfl (lv_at hl 1 rfl) ?_
                refine lv_dup hx hb d_GrantServerModel_readNumber_91 rfl ?_
                refine hm_get X hK hM hmo.1 fl_GrantServerModel_188 (v := .int (nI (q + d))) rfl d_GrantServerModel_readNumber_92 ?_
                refine lv_iconst (v := 1) hx hb d_GrantServerModel_readNumber_95 (by decide) ?_
                refine lv_iadd hx hb d_GrantServerModel_readNumber_96 ?_
                refine hm_top (nI_1 _) ?_
                refine hm_put X hK hM hS (fs' := moV sk (upd (upd (upd v 28 (nI n)) 29 (nI (q + d))) 29 (nI ((q + d) + 1))) ad) hmo.1 fl_GrantServerModel_188 rfl rfl (Nat.le_of_ble_eq_true rfl) rfl d_GrantServerModel_readNumber_97 (fun f13 H locs e14 hM hS => ?_)
                have hfr := hfr.put e14; have hmo : mo k f13 h ad sk (upd (upd (upd v 28 (nI n)) 29 (nI (q + d))) 29 (nI ((q + d) + 1))) (va_up c 27 x) := hmo.put e14
                refine lv_iinc (lv' := [(3, .int (nI (d + 1))), (2, .int (a * 10 + x (q + d) - 48)), (0, .ref h)]) hx hb d_GrantServerModel_readNumber_100 hl (k := 2) rfl (hm_inc _) (by decide) rfl (fun ls hl => ?_)
                refine lv_goto (tgt := 27) hx hb d_GrantServerModel_readNumber_103 (by decide) ?_
                exact ih (d + 1) (a * 10 + x (q + d) - 48) f13 H locs ls (by omega) (by omega) (by omega) (by rw [hinv, show 9 - d = (9 - (d + 1)) + 1 by omega]; exact if_pos ⟨hlt, h8, h10⟩)  (hmo.cv (upd_uu _ _ _ _).symm rfl) hfr hM hS (lv_sub hl [2, 1, 0] rfl)
    exact loop27 _ 0 0 f1 H locs ls (Nat.lt_succ_self _) (Nat.zero_le _) hqn rfl  (hmo.cv (upd_uu _ _ _ _).symm rfl) hfr hM hS (lv_sub hl [3, 1, 0] rfl)
  · have h48 : q < n ∧ x q = 48 := by have z := (m_nx_eq (by decide)).mp h5; rw [hq] at z; exact z
    refine lv_aload_n hx hb d_GrantServerModel_readNumber_11 rfl (lv_at hl 1 rfl) ?_
    refine lv_dup hx hb d_GrantServerModel_readNumber_12 rfl ?_
    refine hm_get X hK hM hmo.1 fl_GrantServerModel_188 (v := .int (nI q)) rfl d_GrantServerModel_readNumber_13 ?_
    refine lv_iconst (v := 1) hx hb d_GrantServerModel_readNumber_16 (by decide) ?_
    refine lv_iadd hx hb d_GrantServerModel_readNumber_17 ?_
    refine hm_top (nI_1 _) ?_
    refine hm_put X hK hM hS (fs' := moV sk (upd (upd (upd (upd v 28 (nI n)) 29 (nI p)) 29 (nI q)) 29 (nI (q + 1))) ad) hmo.1 fl_GrantServerModel_188 rfl rfl (Nat.le_of_ble_eq_true rfl) rfl d_GrantServerModel_readNumber_18 (fun f6 H locs e7 hM hS => ?_)
    have hfr := hfr.put e7; have hmo : mo k f6 h ad sk (upd (upd (upd (upd v 28 (nI n)) 29 (nI p)) 29 (nI q)) 29 (nI (q + 1))) (va_up c 27 x) := hmo.put e7
    refine lv_iconst (v := 0) hx hb d_GrantServerModel_readNumber_21 (by decide) ?_
    exact hm_iret X hQ hr hlk hK hM hS d_GrantServerModel_readNumber_22 ⟨(by rw [hq]; unfold z_nr; rw [if_pos h48]), (show mo k _ h ad sk (upd v 29 (nI (z_na n x (z_sk n x p)))) c by rw [show z_na n x (z_sk n x p) = q + 1 by rw [hq]; unfold z_na; rw [if_pos h48]]; exact hmo.cv (by funext z9; by_cases q28 : z9 = 28 <;> by_cases q29 : z9 = 29 <;> simp [upd, q28, q29, hn, hp0]) (va_up_idE hcx).symm), hfr⟩
set_option maxHeartbeats 4000000 in
set_option maxRecDepth 100000 in
theorem m_c_readMember (l : Launch) (D : va_G) (k : Nat → ClassId) (f : hm) (h : Nat) (ad : Nat → Nat) (sk : Int64) (v : Nat → Int32) (c : Nat → Nat → Int32) (n : Nat) (p : Nat) (x : Nat → Int32) (cl : Nat → Int32) (hmo : mo k f h ad sk v c) (hn : v 28 = nI n) (hcx : c 27 = x) (hcl : c 30 = cl) (hp0 : v 29 = nI p) (hn9 : n ≤ 120) (hp : p ≤ n) : hm_Mi l D vwCl (tyL k) y_GrantServerModel_readMember (Cond.code y_GrantServerModel_readMember b_GrantServerModel_readMember 3 (some .boolean) :: TB) ({ frames := 2, cells := 0, slots := 0, locals := 43 }) [.ref h] f (fun (r : Int32) (f1 : hm) => ∃ (p' : Nat) (cl' : Nat → Int32), ((r = 1 ∧ m_mem n x p cl = some (p', cl')) ∨ (r = 0 ∧ m_mem n x p cl = none)) ∧ mo k f1 h ad sk (upd v 29 (nI p')) (va_up c 30 cl') ∧ mo_fr h ad f f1) 0 0 := by
  refine hm_enter (Qc := fun sz => va_Qi _ (hm_R D vwCl (tyL k) f sz) (hm_A f sz)) (by decide) rfl (Nat.le_of_ble_eq_true rfl) ?_
  intro pg e s m below meth cd ls X0 hr hlk hin hK hM hS hA hl Q hQ
  have X : CallFix pg m cd b_GrantServerModel_readMember 3 s ([.ref h] : List Value).toArray TB R_GrantServerModel := ⟨X0.1, X0.2.1, X0.2.2.1, X0.2.2.2.1, fun w h => X0.2.2.2.2 w (List.mem_cons_of_mem _ h)⟩
  have hx := X.1; have hb := X.2.1; have hml := X.2.2.1; have hown := X.2.2.2.1; have hts := X.2.2.2.2
  have hl : lv_has ls 3 [(0, .ref h)] := hl
  have hfr : mo_fr h ad f f := mo_fr.rf
  have hmo : mo k f h ad sk (upd (upd v 28 (nI n)) 29 (nI p)) (va_up (va_up c 27 x) 30 cl) := hmo.cv (by rw [upd_id hn, upd_id hp0]) (by rw [va_up_idE hcx, va_up_idE hcl])
  refine lv_aload_n hx hb d_GrantServerModel_readMember_0 rfl (lv_at hl 0 rfl) ?_
  refine lv_bipush (v := 34) hx hb d_GrantServerModel_readMember_1 (by decide) ?_
  refine hm_calli hS hM hA (va_runV (As := [.int 34]) (rest := []) X (m_c_reads l D k f h ad sk (upd (upd v 28 (nI n)) 29 (nI p)) (va_up (va_up c 27 x) 30 cl) n p x 34 hmo rfl rfl rfl hn9 hp (by decide) s.heap.size) (hm_cwV hts me_GrantServerModel_reads wl_GrantServerModel_194 rfl rfl ⟨Nat.le_of_ble_eq_true rfl, Nat.le_of_ble_eq_true rfl⟩) (hm_preV hM hK hmo.1 rfl) rfl rfl hl.1 rfl (lv_room (Nat.le_of_ble_eq_true rfl)) d_GrantServerModel_readMember_3 ⟨Nat.le_of_ble_eq_true rfl, Nat.le_of_ble_eq_true rfl⟩) (fun r3 f1 H locs p2 hM hS => ?_)
  obtain ⟨rfl, hmo, hfr4⟩ := p2
  have hfr := hfr.tr hfr4
  have hmo : mo k f1 h ad sk (upd (upd (upd v 28 (nI n)) 29 (nI p)) 29 (nI (m_mkA n x p 34))) (va_up (va_up c 27 x) 30 cl) := hmo
  refine lv_if_ne (tgt := 11) hx hb d_GrantServerModel_readMember_6 (by decide) (fun h5 => ?_) (fun h5 => ?_)
  · obtain ⟨q1, hq1⟩ := z_b_some h5
    have hq2 := m_mk_A hq1
    rw [hq2.1.trans hq2.2.1] at hmo
    refine lv_aload_n hx hb d_GrantServerModel_readMember_11 rfl (lv_at hl 0 rfl) ?_
    refine hm_calli hS hM hA (va_runV (As := []) (rest := []) X (m_c_readName l D k f1 h ad sk (upd (upd (upd v 28 (nI n)) 29 (nI p)) 29 (nI (z_sk n x p + 1))) (va_up (va_up c 27 x) 30 cl) n (z_sk n x p) x hmo rfl rfl rfl hn9 hq2.2.2.1 hq2.2.2.2 H.size) (hm_cwV hts me_GrantServerModel_readName wl_GrantServerModel_197 rfl rfl ⟨Nat.le_of_ble_eq_true rfl, Nat.le_of_ble_eq_true rfl⟩) (hm_preV hM hK hmo.1 rfl) rfl rfl hl.1 rfl (lv_room (Nat.le_of_ble_eq_true rfl)) d_GrantServerModel_readMember_12 ⟨Nat.le_of_ble_eq_true rfl, Nat.le_of_ble_eq_true rfl⟩) (fun r8 f6 H locs p7 hM hS => ?_)
    obtain ⟨rfl, hmo, hfr9⟩ := p7
    have hfr := hfr.tr hfr9
    have hmo : mo k f6 h ad sk (upd (upd (upd (upd v 28 (nI n)) 29 (nI p)) 29 (nI (z_sk n x p + 1))) 29 (nI ((z_sk n x p) + m_nla (z_nm n x (z_sk n x p))))) (va_up (va_up c 27 x) 30 cl) := hmo
    refine lv_istore_n (lv' := [(1, .int (z_ni (z_nm n x (z_sk n x p)))), (0, .ref h)]) hx hb d_GrantServerModel_readMember_15 rfl hl (by decide) rfl (fun ls hl => ?_)
    refine lv_iload_n hx hb d_GrantServerModel_readMember_16 rfl (lv_at hl 0 rfl) ?_
    refine lv_if_lt (tgt := 38) hx hb d_GrantServerModel_readMember_17 (by decide) (fun h10 => ?_) (fun h10 => ?_)
    · refine lv_iconst (v := 0) hx hb d_GrantServerModel_readMember_38 (by decide) ?_
      exact hm_zret X hQ hr hlk hK hM hS rfl d_GrantServerModel_readMember_39 ⟨((z_sk n x p) + m_nla (z_nm n x (z_sk n x p))), cl, Or.inr ⟨rfl, (by unfold m_mem; rw [hq1]; show (match z_nm n x (z_sk n x p) with | none => none | some j => _) = none; rw [z_ni_neg h10 (fun j hj => (z_nm_some hj).1)])⟩, hmo.cv (by funext z9; by_cases q28 : z9 = 28 <;> by_cases q29 : z9 = 29 <;> simp [upd, q28, q29, hn, hp0]) (by funext z9; by_cases q27 : z9 = 27 <;> by_cases q30 : z9 = 30 <;> simp [va_up, q27, q30, hcx, hcl]), hfr⟩
    · obtain ⟨j, hnm⟩ := z_ni_pos h10
      have hj := z_nm_some hnm
      rw [show m_nla (z_nm n x (z_sk n x p)) = st_len.getD (7 + j) 0 from congrArg m_nla hnm] at hmo
      refine lv_aload_n hx hb d_GrantServerModel_readMember_20 rfl (lv_at hl 1 rfl) ?_
      refine hm_get X hK hM hmo.1 fl_GrantServerModel_66 (v := .ref (ad 30)) rfl d_GrantServerModel_readMember_21 ?_
      refine lv_iload_n hx hb d_GrantServerModel_readMember_24 rfl (lv_at hl 0 rfl) ?_
      have g11 : f6 (ad 30) = some (.inl (k 0, 5, .inl cl)) := hmo.arr 30 (by decide) (by decide)
      refine hm_iald X hK hM g11 0 rfl j (by rw [hnm]; rfl) hj.1 (by decide) d_GrantServerModel_readMember_25 ?_
      refine lv_if_ge (tgt := 38) hx hb d_GrantServerModel_readMember_26 (by decide) (fun h12 => ?_) (fun h12 => ?_)
      · refine lv_iconst (v := 0) hx hb d_GrantServerModel_readMember_38 (by decide) ?_
        exact hm_zret X hQ hr hlk hK hM hS rfl d_GrantServerModel_readMember_39 ⟨(z_sk n x p + st_len.getD (7 + j) 0), cl, Or.inr ⟨rfl, (m_mem_n2 hq1 hnm h12)⟩, hmo.cv (by funext z9; by_cases q28 : z9 = 28 <;> by_cases q29 : z9 = 29 <;> simp [upd, q28, q29, hn, hp0]) (by funext z9; by_cases q27 : z9 = 27 <;> by_cases q30 : z9 = 30 <;> simp [va_up, q27, q30, hcx, hcl]), hfr⟩
      · refine lv_aload_n hx hb d_GrantServerModel_readMember_29 rfl (lv_at hl 1 rfl) ?_
        refine lv_bipush (v := 58) hx hb d_GrantServerModel_readMember_30 (by decide) ?_
        refine hm_calli hS hM hA (va_runV (As := [.int 58]) (rest := []) X (m_c_reads l D k f6 h ad sk (upd (upd (upd (upd v 28 (nI n)) 29 (nI p)) 29 (nI (z_sk n x p + 1))) 29 (nI (z_sk n x p + st_len.getD (7 + j) 0))) (va_up (va_up c 27 x) 30 cl) n (z_sk n x p + st_len.getD (7 + j) 0) x 58 hmo rfl rfl rfl hn9 hj.2.2 (by decide) H.size) (hm_cwV hts me_GrantServerModel_reads wl_GrantServerModel_194 rfl rfl ⟨Nat.le_of_ble_eq_true rfl, Nat.le_of_ble_eq_true rfl⟩) (hm_preV hM hK hmo.1 rfl) rfl rfl hl.1 rfl (lv_room (Nat.le_of_ble_eq_true rfl)) d_GrantServerModel_readMember_32 ⟨Nat.le_of_ble_eq_true rfl, Nat.le_of_ble_eq_true rfl⟩) (fun r15 f13 H locs p14 hM hS => ?_)
        obtain ⟨rfl, hmo, hfr16⟩ := p14
        have hfr := hfr.tr hfr16
        have hmo : mo k f13 h ad sk (upd (upd (upd (upd (upd v 28 (nI n)) 29 (nI p)) 29 (nI (z_sk n x p + 1))) 29 (nI (z_sk n x p + st_len.getD (7 + j) 0))) 29 (nI (m_mkA n x (z_sk n x p + st_len.getD (7 + j) 0) 58))) (va_up (va_up c 27 x) 30 cl) := hmo
        refine lv_if_ne (tgt := 40) hx hb d_GrantServerModel_readMember_35 (by decide) (fun h17 => ?_) (fun h17 => ?_)
        · obtain ⟨p2, hp2⟩ := z_b_some h17
          have hp3 := m_mk_le hj.2.2 hp2
          rw [(m_mk_A hp2).1] at hmo
          refine lv_aload_n hx hb d_GrantServerModel_readMember_40 rfl (lv_at hl 1 rfl) ?_
          refine hm_calli hS hM hA (va_runV (As := []) (rest := []) X (m_c_readNumber l D k f13 h ad sk (upd (upd (upd (upd (upd v 28 (nI n)) 29 (nI p)) 29 (nI (z_sk n x p + 1))) 29 (nI (z_sk n x p + st_len.getD (7 + j) 0))) 29 (nI p2)) (va_up (va_up c 27 x) 30 cl) n p2 x hmo rfl rfl rfl hn9 hp3.1 H.size) (hm_cwV hts me_GrantServerModel_readNumber wl_GrantServerModel_200 rfl rfl ⟨Nat.le_of_ble_eq_true rfl, Nat.le_of_ble_eq_true rfl⟩) (hm_preV hM hK hmo.1 rfl) rfl rfl hl.1 rfl (lv_room (Nat.le_of_ble_eq_true rfl)) d_GrantServerModel_readMember_41 ⟨Nat.le_of_ble_eq_true rfl, Nat.le_of_ble_eq_true rfl⟩) (fun r20 f18 H locs p19 hM hS => ?_)
          obtain ⟨rfl, hmo, hfr21⟩ := p19
          have hfr := hfr.tr hfr21
          have hmo : mo k f18 h ad sk (upd (upd (upd (upd (upd (upd v 28 (nI n)) 29 (nI p)) 29 (nI (z_sk n x p + 1))) 29 (nI (z_sk n x p + st_len.getD (7 + j) 0))) 29 (nI p2)) 29 (nI (z_na n x (z_sk n x p2)))) (va_up (va_up c 27 x) 30 cl) := hmo
          refine lv_istore_n (lv' := [(2, .int (z_nr n x (z_sk n x p2))), (1, .int (z_ni (z_nm n x (z_sk n x p)))), (0, .ref h)]) hx hb d_GrantServerModel_readMember_44 rfl hl (by decide) rfl (fun ls hl => ?_)
          refine lv_aload_n hx hb d_GrantServerModel_readMember_45 rfl (lv_at hl 2 rfl) ?_
          refine hm_get X hK hM hmo.1 fl_GrantServerModel_66 (v := .ref (ad 30)) rfl d_GrantServerModel_readMember_46 ?_
          refine lv_iload_n hx hb d_GrantServerModel_readMember_49 rfl (lv_at hl 1 rfl) ?_
          refine lv_iload_n hx hb d_GrantServerModel_readMember_50 rfl (lv_at hl 0 rfl) ?_
          have g22 : f18 (ad 30) = some (.inl (k 0, 5, .inl cl)) := hmo.arr 30 (by decide) (by decide)
          refine hm_iast X hK hM hS g22 0 rfl j (by rw [hnm]; rfl) hj.1 (by decide) d_GrantServerModel_readMember_51 (fun f23 H locs e24 hM hS => ?_)
          have hfr := hfr.ast 30 (by decide) (by decide) e24; have hmo : mo k f23 h ad sk (upd (upd (upd (upd (upd (upd v 28 (nI n)) 29 (nI p)) 29 (nI (z_sk n x p + 1))) 29 (nI (z_sk n x p + st_len.getD (7 + j) 0))) 29 (nI p2)) 29 (nI (z_na n x (z_sk n x p2)))) (va_up (va_up (va_up c 27 x) 30 cl) 30 (upd cl j (z_nr n x (z_sk n x p2)))) := hmo.ast 30 (by decide) (by decide) e24
          refine lv_iload_n hx hb d_GrantServerModel_readMember_52 rfl (lv_at hl 0 rfl) ?_
          refine lv_if_lt (tgt := 60) hx hb d_GrantServerModel_readMember_53 (by decide) (fun h25 => ?_) (fun h25 => ?_)
          · refine lv_iconst (v := 0) hx hb d_GrantServerModel_readMember_60 (by decide) ?_
            exact hm_zret X hQ hr hlk hK hM hS rfl d_GrantServerModel_readMember_61 ⟨(z_na n x (z_sk n x p2)), (upd cl j (z_nr n x (z_sk n x p2))), Or.inr ⟨rfl, (m_mem_n4 hq1 hnm h12 hp2 h25)⟩, hmo.cv (by funext z9; by_cases q28 : z9 = 28 <;> by_cases q29 : z9 = 29 <;> simp [upd, q28, q29, hn, hp0]) (by funext z9; by_cases q27 : z9 = 27 <;> by_cases q30 : z9 = 30 <;> simp [va_up, q27, q30, hcx, hcl]), hfr⟩
          · refine lv_iconst (v := 1) hx hb d_GrantServerModel_readMember_56 (by decide) ?_
            refine lv_goto (tgt := 61) hx hb d_GrantServerModel_readMember_57 (by decide) ?_
            exact hm_zret X hQ hr hlk hK hM hS rfl d_GrantServerModel_readMember_61 ⟨(z_na n x (z_sk n x p2)), (upd cl j (z_nr n x (z_sk n x p2))), Or.inl ⟨rfl, m_mem_s hq1 hnm h12 hp2 h25⟩, hmo.cv (by funext z9; by_cases q28 : z9 = 28 <;> by_cases q29 : z9 = 29 <;> simp [upd, q28, q29, hn, hp0]) (by funext z9; by_cases q27 : z9 = 27 <;> by_cases q30 : z9 = 30 <;> simp [va_up, q27, q30, hcx, hcl]), hfr⟩
        · refine lv_iconst (v := 0) hx hb d_GrantServerModel_readMember_38 (by decide) ?_
          exact hm_zret X hQ hr hlk hK hM hS rfl d_GrantServerModel_readMember_39 ⟨(m_mkA n x (z_sk n x p + st_len.getD (7 + j) 0) 58), cl, Or.inr ⟨rfl, (m_mem_n3 hq1 hnm h12 (z_b_none h17))⟩, hmo.cv (by funext z9; by_cases q28 : z9 = 28 <;> by_cases q29 : z9 = 29 <;> simp [upd, q28, q29, hn, hp0]) (by funext z9; by_cases q27 : z9 = 27 <;> by_cases q30 : z9 = 30 <;> simp [va_up, q27, q30, hcx, hcl]), hfr⟩
  · refine lv_iconst (v := 0) hx hb d_GrantServerModel_readMember_9 (by decide) ?_
    exact hm_zret X hQ hr hlk hK hM hS rfl d_GrantServerModel_readMember_10 ⟨(m_mkA n x p 34), cl, Or.inr ⟨rfl, (by unfold m_mem; rw [z_b_none h5])⟩, hmo.cv (by funext z9; by_cases q28 : z9 = 28 <;> by_cases q29 : z9 = 29 <;> simp [upd, q28, q29, hn, hp0]) (by funext z9; by_cases q27 : z9 = 27 <;> by_cases q30 : z9 = 30 <;> simp [va_up, q27, q30, hcx, hcl]), hfr⟩
set_option maxHeartbeats 4000000 in
set_option maxRecDepth 100000 in
theorem m_c_readClaims (l : Launch) (D : va_G) (k : Nat → ClassId) (f : hm) (h : Nat) (ad : Nat → Nat) (sk : Int64) (v : Nat → Int32) (c : Nat → Nat → Int32) (n : Nat) (x : Nat → Int32) (cl : Nat → Int32) (hmo : mo k f h ad sk v c) (hn : v 28 = nI n) (hcx : c 27 = x) (hcl : c 30 = cl) (hn9 : n ≤ 120) : hm_Mi l D vwCl (tyL k) y_GrantServerModel_readClaims (Cond.code y_GrantServerModel_readClaims b_GrantServerModel_readClaims 5 (some .boolean) :: TB) ({ frames := 3, cells := 0, slots := 0, locals := 65 }) [.ref h] f (fun (r : Int32) (f1 : hm) => ∃ (p' : Nat) (cl' : Nat → Int32), ((r = 1 ∧ m_read n x (m_cm1 cl 5) = some cl') ∨ (r = 0 ∧ m_read n x (m_cm1 cl 5) = none)) ∧ mo k f1 h ad sk (upd v 29 (nI p')) (va_up c 30 cl') ∧ mo_fr h ad f f1) 0 0 := by
  refine hm_enter (Qc := fun sz => va_Qi _ (hm_R D vwCl (tyL k) f sz) (hm_A f sz)) (by decide) rfl (Nat.le_of_ble_eq_true rfl) ?_
  intro pg e s m below meth cd ls X0 hr hlk hin hK hM hS hA hl Q hQ
  have X : CallFix pg m cd b_GrantServerModel_readClaims 5 s ([.ref h] : List Value).toArray TB R_GrantServerModel := ⟨X0.1, X0.2.1, X0.2.2.1, X0.2.2.2.1, fun w h => X0.2.2.2.2 w (List.mem_cons_of_mem _ h)⟩
  have hx := X.1; have hb := X.2.1; have hml := X.2.2.1; have hown := X.2.2.2.1; have hts := X.2.2.2.2
  have hl : lv_has ls 5 [(0, .ref h)] := hl
  have hfr : mo_fr h ad f f := mo_fr.rf
  have hmo : mo k f h ad sk (upd v 28 (nI n)) (va_up (va_up c 27 x) 30 cl) := hmo.cv (by rw [upd_id hn]) (by rw [va_up_idE hcx, va_up_idE hcl])
  refine lv_aload_n hx hb d_GrantServerModel_readClaims_0 rfl (lv_at hl 0 rfl) ?_
  refine lv_iconst (v := 0) hx hb d_GrantServerModel_readClaims_1 (by decide) ?_
  refine hm_put X hK hM hS (fs' := moV sk (upd (upd v 28 (nI n)) 29 0) ad) hmo.1 fl_GrantServerModel_188 rfl rfl (Nat.le_of_ble_eq_true rfl) rfl d_GrantServerModel_readClaims_2 (fun f1 H locs e2 hM hS => ?_)
  have hfr := hfr.put e2; have hmo : mo k f1 h ad sk (upd (upd v 28 (nI n)) 29 0) (va_up (va_up c 27 x) 30 cl) := hmo.put e2
  refine lv_iconst (v := 0) hx hb d_GrantServerModel_readClaims_5 (by decide) ?_
  refine lv_istore_n (lv' := [(1, .int 0), (0, .ref h)]) hx hb d_GrantServerModel_readClaims_6 rfl hl (by decide) rfl (fun ls hl => ?_)
  have loop7 : ∀ (fu : Nat) (j : Nat) (fL : hm) (H : Heap) (locs : List Loc) (ls : Array Slot) (hmu : 5 - j < fu) (hj : j ≤ 5) (hmo : mo k fL h ad sk (upd (upd v 28 (nI n)) 29 (nI 0)) (va_up (va_up c 27 x) 30 (m_cm1 cl j))) (hfr : mo_fr h ad f fL) (hM : hm_W D vwCl (hm_A f s.heap.size) fL H) (hS : va_S (hm_A f s.heap.size) s.heap H locs) (hl : lv_has ls 5 [(0, .ref h), (1, .int (nI j))]), W pg l e ({ frames := 3, cells := 0, slots := 0, locals := 65 }) s m ([.ref h] : List Value).toArray below meth cd H locs 0 0 Q (F0 m 7 ls []) := by
    intro fu
    induction fu with
    | zero => intro j fL H locs ls hmu; exact absurd hmu (Nat.not_lt_zero _)
    | succ fu ih =>
      intro j fL H locs ls hmu hj  hmo hfr hM hS hl
      refine lv_iload_n hx hb d_GrantServerModel_readClaims_7 rfl (lv_at hl 1 rfl) ?_
      refine lv_iconst (v := 5) hx hb d_GrantServerModel_readClaims_8 (by decide) ?_
      refine lv_icmp_ge (tgt := 25) hx hb d_GrantServerModel_readClaims_9 (by decide) (fun h3 => ?_) (fun h3 => ?_)
      · have hje : j = 5 := by have z := (nI_leI (a := 5) (b := j) (by decide) (by omega)).mp h3; omega
        subst hje
        refine lv_aload_n hx hb d_GrantServerModel_readClaims_25 rfl (lv_at hl 0 rfl) ?_
        refine lv_bipush (v := 123) hx hb d_GrantServerModel_readClaims_26 (by decide) ?_
        refine hm_calli hS hM hA (va_runV (As := [.int 123]) (rest := []) X (m_c_reads l D k fL h ad sk (upd (upd v 28 (nI n)) 29 (nI 0)) (va_up (va_up c 27 x) 30 (m_cm1 cl 5)) n 0 x 123 hmo rfl rfl rfl hn9 (Nat.zero_le _) (by decide) H.size) (hm_cwV hts me_GrantServerModel_reads wl_GrantServerModel_194 rfl rfl ⟨Nat.le_of_ble_eq_true rfl, Nat.le_of_ble_eq_true rfl⟩) (hm_preV hM hK hmo.1 rfl) rfl rfl hl.1 rfl (lv_room (Nat.le_of_ble_eq_true rfl)) d_GrantServerModel_readClaims_28 ⟨Nat.le_of_ble_eq_true rfl, Nat.le_of_ble_eq_true rfl⟩) (fun r6 f4 H locs p5 hM hS => ?_)
        obtain ⟨rfl, hmo, hfr7⟩ := p5
        have hfr := hfr.tr hfr7
        have hmo : mo k f4 h ad sk (upd (upd (upd v 28 (nI n)) 29 (nI 0)) 29 (nI (m_mkA n x 0 123))) (va_up (va_up c 27 x) 30 (m_cm1 cl 5)) := hmo
        refine lv_if_ne (tgt := 36) hx hb d_GrantServerModel_readClaims_31 (by decide) (fun h8 => ?_) (fun h8 => ?_)
        · obtain ⟨q0, hq0k⟩ := z_b_some h8
          have hq0 := m_mk_le (Nat.zero_le n) hq0k
          rw [(m_mk_A hq0k).1] at hmo
          refine lv_iconst (v := 1) hx hb d_GrantServerModel_readClaims_36 (by decide) ?_
          refine lv_istore_n (lv' := [(1, .int 1), (0, .ref h)]) hx hb d_GrantServerModel_readClaims_37 rfl hl (by decide) rfl (fun ls hl => ?_)
          have loop38 : ∀ (fu38 : Nat) (b : Int32) (p1 : Nat) (cl1 : Nat → Int32) (T : Nat) (fL : hm) (H : Heap) (locs : List Loc) (ls : Array Slot) (hmu38 : n + 1 - p1 < fu38) (hp1 : p1 ≤ n) (hrun : (¬ b = 0 ∧ n - p1 < T ∧ m_run n x (n + 1) q0 (m_cm1 cl 5) = m_run n x T p1 cl1) ∨ (b = 0 ∧ m_run n x (n + 1) q0 (m_cm1 cl 5) = some (p1, cl1))) (hmo : mo k fL h ad sk (upd (upd v 28 (nI n)) 29 (nI p1)) (va_up (va_up c 27 x) 30 cl1)) (hfr : mo_fr h ad f fL) (hM : hm_W D vwCl (hm_A f s.heap.size) fL H) (hS : va_S (hm_A f s.heap.size) s.heap H locs) (hl : lv_has ls 5 [(0, .ref h), (1, .int b)]), W pg l e ({ frames := 3, cells := 0, slots := 0, locals := 65 }) s m ([.ref h] : List Value).toArray below meth cd H locs 0 0 Q (F0 m 38 ls []) := by
            intro fu38
            induction fu38 with
            | zero => intro b p1 cl1 T fL H locs ls hmu38; exact absurd hmu38 (Nat.not_lt_zero _)
            | succ fu38 ih38 =>
              intro b p1 cl1 T fL H locs ls hmu38 hp1 hrun  hmo hfr hM hS hl
              refine lv_iload_n hx hb d_GrantServerModel_readClaims_38 rfl (lv_at hl 1 rfl) ?_
              refine lv_if_eq (tgt := 61) hx hb d_GrantServerModel_readClaims_39 (by decide) (fun h9 => ?_) (fun h9 => ?_)
              · have hE := (hrun.resolve_left (fun z => z.1 h9)).2
                refine lv_aload_n hx hb d_GrantServerModel_readClaims_61 rfl (lv_at hl 0 rfl) ?_
                refine lv_bipush (v := 125) hx hb d_GrantServerModel_readClaims_62 (by decide) ?_
                refine hm_calli hS hM hA (va_runV (As := [.int 125]) (rest := []) X (m_c_reads l D k fL h ad sk (upd (upd v 28 (nI n)) 29 (nI p1)) (va_up (va_up c 27 x) 30 cl1) n p1 x 125 hmo rfl rfl rfl hn9 hp1 (by decide) H.size) (hm_cwV hts me_GrantServerModel_reads wl_GrantServerModel_194 rfl rfl ⟨Nat.le_of_ble_eq_true rfl, Nat.le_of_ble_eq_true rfl⟩) (hm_preV hM hK hmo.1 rfl) rfl rfl hl.1 rfl (lv_room (Nat.le_of_ble_eq_true rfl)) d_GrantServerModel_readClaims_64 ⟨Nat.le_of_ble_eq_true rfl, Nat.le_of_ble_eq_true rfl⟩) (fun r12 f10 H locs p11 hM hS => ?_)
                obtain ⟨rfl, hmo, hfr13⟩ := p11
                have hfr := hfr.tr hfr13
                have hmo : mo k f10 h ad sk (upd (upd (upd v 28 (nI n)) 29 (nI p1)) 29 (nI (m_mkA n x p1 125))) (va_up (va_up c 27 x) 30 cl1) := hmo
                refine lv_if_ne (tgt := 72) hx hb d_GrantServerModel_readClaims_67 (by decide) (fun h14 => ?_) (fun h14 => ?_)
                · obtain ⟨p9, hp9⟩ := z_b_some h14
                  have hp9n := m_mk_le hp1 hp9
                  rw [(m_mk_A hp9).1] at hmo
                  refine lv_aload_n hx hb d_GrantServerModel_readClaims_72 rfl (lv_at hl 0 rfl) ?_
                  refine hm_calli hS hM hA (va_runV (As := []) (rest := []) X (m_c_next l D k f10 h ad sk (upd (upd (upd v 28 (nI n)) 29 (nI p1)) 29 (nI p9)) (va_up (va_up c 27 x) 30 cl1) n p9 x hmo rfl rfl rfl hn9 hp9n.1 H.size) (hm_cwV hts me_GrantServerModel_next wl_GrantServerModel_191 rfl rfl ⟨Nat.le_of_ble_eq_true rfl, Nat.le_of_ble_eq_true rfl⟩) (hm_preV hM hK hmo.1 rfl) rfl rfl hl.1 rfl (lv_room (Nat.le_of_ble_eq_true rfl)) d_GrantServerModel_readClaims_73 ⟨Nat.le_of_ble_eq_true rfl, Nat.le_of_ble_eq_true rfl⟩) (fun r17 f15 H locs p16 hM hS => ?_)
                  obtain ⟨rfl, hmo, hfr18⟩ := p16
                  have hfr := hfr.tr hfr18
                  have hmo : mo k f15 h ad sk (upd (upd (upd (upd v 28 (nI n)) 29 (nI p1)) 29 (nI p9)) 29 (nI (z_sk n x p9))) (va_up (va_up c 27 x) 30 cl1) := hmo
                  refine lv_istore_n (lv' := [(2, .int (m_nx n x p9)), (0, .ref h), (1, .int b)]) hx hb d_GrantServerModel_readClaims_76 rfl hl (by decide) rfl (fun ls hl => ?_)
                  refine lv_aload_n hx hb d_GrantServerModel_readClaims_77 rfl (lv_at hl 1 rfl) ?_
                  refine hm_get X hK hM hmo.1 fl_GrantServerModel_188 (v := .int (nI (z_sk n x p9))) rfl d_GrantServerModel_readClaims_78 ?_
                  refine lv_aload_n hx hb d_GrantServerModel_readClaims_81 rfl (lv_at hl 1 rfl) ?_
                  refine hm_get X hK hM hmo.1 fl_GrantServerModel_121 (v := .int (nI n)) rfl d_GrantServerModel_readClaims_82 ?_
                  refine lv_icmp_ne (tgt := 96) hx hb d_GrantServerModel_readClaims_85 (by decide) (fun h19 => ?_) (fun h19 => ?_)
                  · have hgo : ¬ z_sk n x p9 = n := fun z => h19 ((nI_eq (by have := z_sk_le (x := x) hp9n.1; omega) (by omega)).mpr z)
                    refine lv_iconst (v := 0) hx hb d_GrantServerModel_readClaims_96 (by decide) ?_
                    refine lv_istore_n (lv' := [(3, .int 0), (2, .int (m_nx n x p9)), (0, .ref h), (1, .int b)]) hx hb d_GrantServerModel_readClaims_97 rfl hl (by decide) rfl (fun ls hl => ?_)
                    refine lv_iconst (v := 0) hx hb d_GrantServerModel_readClaims_98 (by decide) ?_
                    refine lv_istore (lv' := [(4, .int 0), (3, .int 0), (2, .int (m_nx n x p9)), (0, .ref h), (1, .int b)]) hx hb d_GrantServerModel_readClaims_99 hl (by decide) rfl (fun ls hl => ?_)
                    have loop101 : ∀ (fu101 : Nat) (k9 : Nat) (al : Int32) (H : Heap) (locs : List Loc) (ls : Array Slot) (hmu101 : 5 - k9 < fu101) (hk9 : k9 ≤ 5) (hal : (al = 1 ∧ (z_sk n x p9 = n ∧ ∀ i, i < k9 → ¬ cl1 i < 0)) ∨ (al = 0 ∧ ¬ (z_sk n x p9 = n ∧ ∀ i, i < k9 → ¬ cl1 i < 0))) (hM : hm_W D vwCl (hm_A f s.heap.size) f15 H) (hS : va_S (hm_A f s.heap.size) s.heap H locs) (hl : lv_has ls 5 [(0, .ref h), (3, .int al), (4, .int (nI k9))]), W pg l e ({ frames := 3, cells := 0, slots := 0, locals := 65 }) s m ([.ref h] : List Value).toArray below meth cd H locs 0 0 Q (F0 m 101 ls []) := by
                      intro fu101
                      induction fu101 with
                      | zero => intro k9 al H locs ls hmu101; exact absurd hmu101 (Nat.not_lt_zero _)
                      | succ fu101 ih101 =>
                        intro k9 al H locs ls hmu101 hk9 hal  hM hS hl
                        refine lv_iload hx hb d_GrantServerModel_readClaims_101 (lv_at hl 2 rfl) ?_
                        refine lv_iconst (v := 5) hx hb d_GrantServerModel_readClaims_103 (by decide) ?_
                        refine lv_icmp_ge (tgt := 133) hx hb d_GrantServerModel_readClaims_104 (by decide) (fun h20 => ?_) (fun h20 => ?_)
                        · refine lv_iload_n hx hb d_GrantServerModel_readClaims_133 rfl (lv_at hl 1 rfl) ?_
                          have hk5 : k9 = 5 := by have z := (nI_leI (a := 5) (b := k9) (by decide) (by omega)).mp h20; omega
                          subst hk5
                          exact hm_zret X hQ hr hlk hK hM hS (m_nz hal) d_GrantServerModel_readClaims_134 ⟨((z_sk n x p9)), cl1, hal.imp (fun z => ⟨z.1, m_read_s hq0k hE hp9 z.2⟩) (fun z => ⟨z.1, m_read_n3 hq0k hE hp9 z.2⟩), hmo.cv (by funext z9; by_cases q28 : z9 = 28 <;> by_cases q29 : z9 = 29 <;> simp [upd, q28, q29, hn]) (by funext z9; by_cases q27 : z9 = 27 <;> by_cases q30 : z9 = 30 <;> simp [va_up, q27, q30, hcx, hcl]), hfr⟩
                        · have hk5 : k9 < 5 := by have z := mt (nI_leI (a := 5) (b := k9) (by decide) (by omega)).mpr h20; omega
                          refine lv_iload_n hx hb d_GrantServerModel_readClaims_107 rfl (lv_at hl 1 rfl) ?_
                          refine lv_if_eq (tgt := 125) hx hb d_GrantServerModel_readClaims_108 (by decide) (fun h21 => ?_) (fun h21 => ?_)
                          · refine lv_iconst (v := 0) hx hb d_GrantServerModel_readClaims_125 (by decide) ?_
                            refine lv_istore_n (lv' := [(3, .int 0), (0, .ref h), (4, .int (nI k9))]) hx hb d_GrantServerModel_readClaims_126 rfl hl (by decide) rfl (fun ls hl => ?_)
                            refine lv_iinc (lv' := [(4, .int (nI (k9 + 1))), (3, .int 0), (0, .ref h)]) hx hb d_GrantServerModel_readClaims_127 hl (k := 2) rfl (hm_inc _) (by decide) rfl (fun ls hl => ?_)
                            refine lv_goto (tgt := 101) hx hb d_GrantServerModel_readClaims_130 (by decide) ?_
                            exact ih101 (k9 + 1) 0  H locs ls (by omega) (by omega) (Or.inr ⟨rfl, fun z => (hal.resolve_left (fun q => by rw [q.1] at h21; exact absurd h21 (by decide))).2 ⟨z.1, (m_all_ext.mp z.2).1⟩⟩)  hM hS (lv_sub hl [2, 1, 0] rfl)
                          · refine lv_aload_n hx hb d_GrantServerModel_readClaims_111 rfl (lv_at hl 0 rfl) ?_
                            refine hm_get X hK hM hmo.1 fl_GrantServerModel_66 (v := .ref (ad 30)) rfl d_GrantServerModel_readClaims_112 ?_
                            refine lv_iload hx hb d_GrantServerModel_readClaims_115 (lv_at hl 2 rfl) ?_
                            have g22 : f15 (ad 30) = some (.inl (k 0, 5, .inl cl1)) := hmo.arr 30 (by decide) (by decide)
                            refine hm_iald X hK hM g22 0 rfl k9 rfl hk5 (by decide) d_GrantServerModel_readClaims_117 ?_
                            refine lv_if_lt (tgt := 125) hx hb d_GrantServerModel_readClaims_118 (by decide) (fun h23 => ?_) (fun h23 => ?_)
                            · refine lv_iconst (v := 0) hx hb d_GrantServerModel_readClaims_125 (by decide) ?_
                              refine lv_istore_n (lv' := [(3, .int 0), (0, .ref h), (4, .int (nI k9))]) hx hb d_GrantServerModel_readClaims_126 rfl hl (by decide) rfl (fun ls hl => ?_)
                              refine lv_iinc (lv' := [(4, .int (nI (k9 + 1))), (3, .int 0), (0, .ref h)]) hx hb d_GrantServerModel_readClaims_127 hl (k := 2) rfl (hm_inc _) (by decide) rfl (fun ls hl => ?_)
                              refine lv_goto (tgt := 101) hx hb d_GrantServerModel_readClaims_130 (by decide) ?_
                              exact ih101 (k9 + 1) 0  H locs ls (by omega) (by omega) (Or.inr ⟨rfl, fun z => (m_all_ext.mp z.2).2 h23⟩)  hM hS (lv_sub hl [2, 1, 0] rfl)
                            · refine lv_iconst (v := 1) hx hb d_GrantServerModel_readClaims_121 (by decide) ?_
                              refine lv_goto (tgt := 126) hx hb d_GrantServerModel_readClaims_122 (by decide) ?_
                              refine lv_istore_n (lv' := [(3, .int 1), (0, .ref h), (4, .int (nI k9))]) hx hb d_GrantServerModel_readClaims_126 rfl hl (by decide) rfl (fun ls hl => ?_)
                              refine lv_iinc (lv' := [(4, .int (nI (k9 + 1))), (3, .int 1), (0, .ref h)]) hx hb d_GrantServerModel_readClaims_127 hl (k := 2) rfl (hm_inc _) (by decide) rfl (fun ls hl => ?_)
                              refine lv_goto (tgt := 101) hx hb d_GrantServerModel_readClaims_130 (by decide) ?_
                              exact ih101 (k9 + 1) 1  H locs ls (by omega) (by omega) (Or.inl ⟨rfl, (hal.resolve_right (fun z => h21 z.1)).2.1, m_all_ext.mpr ⟨(hal.resolve_right (fun z => h21 z.1)).2.2, h23⟩⟩)  hM hS (lv_sub hl [2, 1, 0] rfl)
                    exact loop101 _ 0 0  H locs ls (Nat.lt_succ_self _) (Nat.zero_le _) (Or.inr ⟨rfl, fun z => hgo z.1⟩)  hM hS (lv_sub hl [3, 1, 0] rfl)
                  · have hgo : z_sk n x p9 = n := (nI_eq (by have := z_sk_le (x := x) hp9n.1; omega) (by omega)).mp h19
                    refine lv_iload_n hx hb d_GrantServerModel_readClaims_88 rfl (lv_at hl 0 rfl) ?_
                    refine lv_if_ne (tgt := 96) hx hb d_GrantServerModel_readClaims_89 (by decide) (fun h20 => ?_) (fun h20 => ?_)
                    · exact absurd (show m_nx n x p9 = 0 by unfold m_nx; rw [hgo, if_neg (Nat.lt_irrefl _)]) h20
                    · refine lv_iconst (v := 1) hx hb d_GrantServerModel_readClaims_92 (by decide) ?_
                      refine lv_goto (tgt := 97) hx hb d_GrantServerModel_readClaims_93 (by decide) ?_
                      refine lv_istore_n (lv' := [(3, .int 1), (2, .int (m_nx n x p9)), (0, .ref h), (1, .int b)]) hx hb d_GrantServerModel_readClaims_97 rfl hl (by decide) rfl (fun ls hl => ?_)
                      refine lv_iconst (v := 0) hx hb d_GrantServerModel_readClaims_98 (by decide) ?_
                      refine lv_istore (lv' := [(4, .int 0), (3, .int 1), (2, .int (m_nx n x p9)), (0, .ref h), (1, .int b)]) hx hb d_GrantServerModel_readClaims_99 hl (by decide) rfl (fun ls hl => ?_)
                      have loop101 : ∀ (fu101 : Nat) (k9 : Nat) (al : Int32) (H : Heap) (locs : List Loc) (ls : Array Slot) (hmu101 : 5 - k9 < fu101) (hk9 : k9 ≤ 5) (hal : (al = 1 ∧ (z_sk n x p9 = n ∧ ∀ i, i < k9 → ¬ cl1 i < 0)) ∨ (al = 0 ∧ ¬ (z_sk n x p9 = n ∧ ∀ i, i < k9 → ¬ cl1 i < 0))) (hM : hm_W D vwCl (hm_A f s.heap.size) f15 H) (hS : va_S (hm_A f s.heap.size) s.heap H locs) (hl : lv_has ls 5 [(0, .ref h), (3, .int al), (4, .int (nI k9))]), W pg l e ({ frames := 3, cells := 0, slots := 0, locals := 65 }) s m ([.ref h] : List Value).toArray below meth cd H locs 0 0 Q (F0 m 101 ls []) := by
                        intro fu101
                        induction fu101 with
                        | zero => intro k9 al H locs ls hmu101; exact absurd hmu101 (Nat.not_lt_zero _)
                        | succ fu101 ih101 =>
                          intro k9 al H locs ls hmu101 hk9 hal  hM hS hl
                          refine lv_iload hx hb d_GrantServerModel_readClaims_101 (lv_at hl 2 rfl) ?_
                          refine lv_iconst (v := 5) hx hb d_GrantServerModel_readClaims_103 (by decide) ?_
                          refine lv_icmp_ge (tgt := 133) hx hb d_GrantServerModel_readClaims_104 (by decide) (fun h21 => ?_) (fun h21 => ?_)
                          · refine lv_iload_n hx hb d_GrantServerModel_readClaims_133 rfl (lv_at hl 1 rfl) ?_
                            have hk5 : k9 = 5 := by have z := (nI_leI (a := 5) (b := k9) (by decide) (by omega)).mp h21; omega
                            subst hk5
                            exact hm_zret X hQ hr hlk hK hM hS (m_nz hal) d_GrantServerModel_readClaims_134 ⟨((z_sk n x p9)), cl1, hal.imp (fun z => ⟨z.1, m_read_s hq0k hE hp9 z.2⟩) (fun z => ⟨z.1, m_read_n3 hq0k hE hp9 z.2⟩), hmo.cv (by funext z9; by_cases q28 : z9 = 28 <;> by_cases q29 : z9 = 29 <;> simp [upd, q28, q29, hn]) (by funext z9; by_cases q27 : z9 = 27 <;> by_cases q30 : z9 = 30 <;> simp [va_up, q27, q30, hcx, hcl]), hfr⟩
                          · have hk5 : k9 < 5 := by have z := mt (nI_leI (a := 5) (b := k9) (by decide) (by omega)).mpr h21; omega
                            refine lv_iload_n hx hb d_GrantServerModel_readClaims_107 rfl (lv_at hl 1 rfl) ?_
                            refine lv_if_eq (tgt := 125) hx hb d_GrantServerModel_readClaims_108 (by decide) (fun h22 => ?_) (fun h22 => ?_)
                            · refine lv_iconst (v := 0) hx hb d_GrantServerModel_readClaims_125 (by decide) ?_
                              refine lv_istore_n (lv' := [(3, .int 0), (0, .ref h), (4, .int (nI k9))]) hx hb d_GrantServerModel_readClaims_126 rfl hl (by decide) rfl (fun ls hl => ?_)
                              refine lv_iinc (lv' := [(4, .int (nI (k9 + 1))), (3, .int 0), (0, .ref h)]) hx hb d_GrantServerModel_readClaims_127 hl (k := 2) rfl (hm_inc _) (by decide) rfl (fun ls hl => ?_)
                              refine lv_goto (tgt := 101) hx hb d_GrantServerModel_readClaims_130 (by decide) ?_
                              exact ih101 (k9 + 1) 0  H locs ls (by omega) (by omega) (Or.inr ⟨rfl, fun z => (hal.resolve_left (fun q => by rw [q.1] at h22; exact absurd h22 (by decide))).2 ⟨z.1, (m_all_ext.mp z.2).1⟩⟩)  hM hS (lv_sub hl [2, 1, 0] rfl)
                            · refine lv_aload_n hx hb d_GrantServerModel_readClaims_111 rfl (lv_at hl 0 rfl) ?_
                              refine hm_get X hK hM hmo.1 fl_GrantServerModel_66 (v := .ref (ad 30)) rfl d_GrantServerModel_readClaims_112 ?_
                              refine lv_iload hx hb d_GrantServerModel_readClaims_115 (lv_at hl 2 rfl) ?_
                              have g23 : f15 (ad 30) = some (.inl (k 0, 5, .inl cl1)) := hmo.arr 30 (by decide) (by decide)
                              refine hm_iald X hK hM g23 0 rfl k9 rfl hk5 (by decide) d_GrantServerModel_readClaims_117 ?_
                              refine lv_if_lt (tgt := 125) hx hb d_GrantServerModel_readClaims_118 (by decide) (fun h24 => ?_) (fun h24 => ?_)
                              · refine lv_iconst (v := 0) hx hb d_GrantServerModel_readClaims_125 (by decide) ?_
                                refine lv_istore_n (lv' := [(3, .int 0), (0, .ref h), (4, .int (nI k9))]) hx hb d_GrantServerModel_readClaims_126 rfl hl (by decide) rfl (fun ls hl => ?_)
                                refine lv_iinc (lv' := [(4, .int (nI (k9 + 1))), (3, .int 0), (0, .ref h)]) hx hb d_GrantServerModel_readClaims_127 hl (k := 2) rfl (hm_inc _) (by decide) rfl (fun ls hl => ?_)
                                refine lv_goto (tgt := 101) hx hb d_GrantServerModel_readClaims_130 (by decide) ?_
                                exact ih101 (k9 + 1) 0  H locs ls (by omega) (by omega) (Or.inr ⟨rfl, fun z => (m_all_ext.mp z.2).2 h24⟩)  hM hS (lv_sub hl [2, 1, 0] rfl)
                              · refine lv_iconst (v := 1) hx hb d_GrantServerModel_readClaims_121 (by decide) ?_
                                refine lv_goto (tgt := 126) hx hb d_GrantServerModel_readClaims_122 (by decide) ?_
                                refine lv_istore_n (lv' := [(3, .int 1), (0, .ref h), (4, .int (nI k9))]) hx hb d_GrantServerModel_readClaims_126 rfl hl (by decide) rfl (fun ls hl => ?_)
                                refine lv_iinc (lv' := [(4, .int (nI (k9 + 1))), (3, .int 1), (0, .ref h)]) hx hb d_GrantServerModel_readClaims_127 hl (k := 2) rfl (hm_inc _) (by decide) rfl (fun ls hl => ?_)
                                refine lv_goto (tgt := 101) hx hb d_GrantServerModel_readClaims_130 (by decide) ?_
                                exact ih101 (k9 + 1) 1  H locs ls (by omega) (by omega) (Or.inl ⟨rfl, (hal.resolve_right (fun z => h22 z.1)).2.1, m_all_ext.mpr ⟨(hal.resolve_right (fun z => h22 z.1)).2.2, h24⟩⟩)  hM hS (lv_sub hl [2, 1, 0] rfl)
                      exact loop101 _ 0 1  H locs ls (Nat.lt_succ_self _) (Nat.zero_le _) (Or.inl ⟨rfl, hgo, fun i h9 => absurd h9 (Nat.not_lt_zero _)⟩)  hM hS (lv_sub hl [3, 1, 0] rfl)
                · refine lv_iconst (v := 0) hx hb d_GrantServerModel_readClaims_70 (by decide) ?_
                  exact hm_zret X hQ hr hlk hK hM hS rfl d_GrantServerModel_readClaims_71 ⟨((m_mkA n x p1 125)), cl1, Or.inr ⟨rfl, (m_read_n2 hq0k hE (z_b_none h14))⟩, hmo.cv (by funext z9; by_cases q28 : z9 = 28 <;> by_cases q29 : z9 = 29 <;> simp [upd, q28, q29, hn]) (by funext z9; by_cases q27 : z9 = 27 <;> by_cases q30 : z9 = 30 <;> simp [va_up, q27, q30, hcx, hcl]), hfr⟩
              · have hT := hrun.resolve_right (fun z => h9 z.1)
                refine lv_aload_n hx hb d_GrantServerModel_readClaims_42 rfl (lv_at hl 0 rfl) ?_
                refine hm_calli hS hM hA (va_runV (As := []) (rest := []) X (m_c_readMember l D k fL h ad sk (upd (upd v 28 (nI n)) 29 (nI p1)) (va_up (va_up c 27 x) 30 cl1) n p1 x cl1 hmo rfl rfl rfl rfl hn9 hp1 H.size) (hm_cwV hts me_GrantServerModel_readMember wl_GrantServerModel_203 rfl rfl ⟨Nat.le_of_ble_eq_true rfl, Nat.le_of_ble_eq_true rfl⟩) (hm_preV hM hK hmo.1 rfl) rfl rfl hl.1 rfl (lv_room (Nat.le_of_ble_eq_true rfl)) d_GrantServerModel_readClaims_43 ⟨Nat.le_of_ble_eq_true rfl, Nat.le_of_ble_eq_true rfl⟩) (fun r12 f10 H locs p11 hM hS => ?_)
                obtain ⟨x13, x14, h15, hmo, hfr16⟩ := p11
                have hfr := hfr.tr hfr16
                have hmo : mo k f10 h ad sk (upd (upd (upd v 28 (nI n)) 29 (nI p1)) 29 (nI x13)) (va_up (va_up (va_up c 27 x) 30 cl1) 30 x14) := hmo
                rcases h15 with ⟨hr1, hmem⟩ | ⟨hr1, hmem⟩
                · refine hm_top (z := 1) hr1 ?_
                  have hp8 : x13 ≤ n ∧ p1 < x13 := m_mem_le hmem hp1
                  refine lv_if_ne (tgt := 51) hx hb d_GrantServerModel_readClaims_46 (by decide) (fun h17 => ?_) (fun h17 => ?_)
                  · refine lv_aload_n hx hb d_GrantServerModel_readClaims_51 rfl (lv_at hl 0 rfl) ?_
                    refine lv_bipush (v := 44) hx hb d_GrantServerModel_readClaims_52 (by decide) ?_
                    refine hm_calli hS hM hA (va_runV (As := [.int 44]) (rest := []) X (m_c_reads l D k f10 h ad sk (upd (upd (upd v 28 (nI n)) 29 (nI p1)) 29 (nI x13)) (va_up (va_up (va_up c 27 x) 30 cl1) 30 x14) n x13 x 44 hmo rfl rfl rfl hn9 hp8.1 (by decide) H.size) (hm_cwV hts me_GrantServerModel_reads wl_GrantServerModel_194 rfl rfl ⟨Nat.le_of_ble_eq_true rfl, Nat.le_of_ble_eq_true rfl⟩) (hm_preV hM hK hmo.1 rfl) rfl rfl hl.1 rfl (lv_room (Nat.le_of_ble_eq_true rfl)) d_GrantServerModel_readClaims_54 ⟨Nat.le_of_ble_eq_true rfl, Nat.le_of_ble_eq_true rfl⟩) (fun r20 f18 H locs p19 hM hS => ?_)
                    obtain ⟨rfl, hmo, hfr21⟩ := p19
                    have hfr := hfr.tr hfr21
                    have hmo : mo k f18 h ad sk (upd (upd (upd (upd v 28 (nI n)) 29 (nI p1)) 29 (nI x13)) 29 (nI (m_mkA n x x13 44))) (va_up (va_up (va_up c 27 x) 30 cl1) 30 x14) := hmo
                    cases hp3 : m_mk n x x13 44 with
                    | none =>
                      rw [m_mkA_n hp3] at hmo
                      refine hm_top (z := 0) rfl ?_
                      refine lv_istore_n (lv' := [(1, .int 0), (0, .ref h)]) hx hb d_GrantServerModel_readClaims_57 rfl hl (by decide) rfl (fun ls hl => ?_)
                      refine lv_goto (tgt := 38) hx hb d_GrantServerModel_readClaims_58 (by decide) ?_
                      exact ih38 0 (z_sk n x x13) x14 T f18 H locs ls (by have := z_sk_le (x := x) hp8.1; omega) (z_sk_le hp8.1).2 (Or.inr ⟨rfl, by rw [hT.2.2, show T = (T - 1) + 1 by omega]; exact m_run_e hmem hp3⟩)  (hmo.cv (by funext z9; by_cases q28 : z9 = 28 <;> by_cases q29 : z9 = 29 <;> simp [upd, q28, q29]) (by funext z9; by_cases q27 : z9 = 27 <;> by_cases q30 : z9 = 30 <;> simp [va_up, q27, q30])) hfr hM hS (lv_sub hl [1, 0] rfl)
                    | some p3 =>
                      rw [(m_mk_A hp3).1] at hmo
                      refine hm_top (z := 1) rfl ?_
                      refine lv_istore_n (lv' := [(1, .int 1), (0, .ref h)]) hx hb d_GrantServerModel_readClaims_57 rfl hl (by decide) rfl (fun ls hl => ?_)
                      refine lv_goto (tgt := 38) hx hb d_GrantServerModel_readClaims_58 (by decide) ?_
                      exact ih38 1 p3 x14 (T - 1) f18 H locs ls (by have := m_mk_le hp8.1 hp3; omega) (m_mk_le hp8.1 hp3).1 (Or.inl ⟨by decide, by have := m_mk_le hp8.1 hp3; omega, by rw [hT.2.2, show T = (T - 1) + 1 by omega]; exact m_run_s hmem hp3⟩)  (hmo.cv (by funext z9; by_cases q28 : z9 = 28 <;> by_cases q29 : z9 = 29 <;> simp [upd, q28, q29]) (by funext z9; by_cases q27 : z9 = 27 <;> by_cases q30 : z9 = 30 <;> simp [va_up, q27, q30])) hfr hM hS (lv_sub hl [1, 0] rfl)
                  · exact absurd h17 (by decide)
                · refine hm_top (z := 0) hr1 ?_
                  refine lv_if_ne (tgt := 51) hx hb d_GrantServerModel_readClaims_46 (by decide) (fun h17 => ?_) (fun h17 => ?_)
                  · exact absurd h17 (by decide)
                  · refine lv_iconst (v := 0) hx hb d_GrantServerModel_readClaims_49 (by decide) ?_
                    exact hm_zret X hQ hr hlk hK hM hS rfl d_GrantServerModel_readClaims_50 ⟨(x13), x14, Or.inr ⟨rfl, (m_read_n1 hq0k (by rw [hT.2.2, show T = (T - 1) + 1 by omega]; exact m_run_n hmem))⟩, hmo.cv (by funext z9; by_cases q28 : z9 = 28 <;> by_cases q29 : z9 = 29 <;> simp [upd, q28, q29, hn]) (by funext z9; by_cases q27 : z9 = 27 <;> by_cases q30 : z9 = 30 <;> simp [va_up, q27, q30, hcx, hcl]), hfr⟩
          exact loop38 _ 1 q0 (m_cm1 cl 5) (n + 1) f4 H locs ls (Nat.lt_succ_self _) hq0.1 (Or.inl ⟨by decide, by omega, rfl⟩)  (hmo.cv (by funext z9; by_cases q28 : z9 = 28 <;> by_cases q29 : z9 = 29 <;> simp [upd, q28, q29]) rfl) hfr hM hS (lv_sub hl [1, 0] rfl)
        · refine lv_iconst (v := 0) hx hb d_GrantServerModel_readClaims_34 (by decide) ?_
          exact hm_zret X hQ hr hlk hK hM hS rfl d_GrantServerModel_readClaims_35 ⟨((m_mkA n x 0 123)), (m_cm1 cl 5), Or.inr ⟨rfl, (by unfold m_read; rw [z_b_none h8])⟩, hmo.cv (by funext z9; by_cases q28 : z9 = 28 <;> by_cases q29 : z9 = 29 <;> simp [upd, q28, q29, hn]) (by funext z9; by_cases q27 : z9 = 27 <;> by_cases q30 : z9 = 30 <;> simp [va_up, q27, q30, hcx, hcl]), hfr⟩
      · have hj5 : j < 5 := by have z := mt (nI_leI (a := 5) (b := j) (by decide) (by omega)).mpr h3; omega
        refine lv_aload_n hx hb d_GrantServerModel_readClaims_12 rfl (lv_at hl 0 rfl) ?_
        refine hm_get X hK hM hmo.1 fl_GrantServerModel_66 (v := .ref (ad 30)) rfl d_GrantServerModel_readClaims_13 ?_
        refine lv_iload_n hx hb d_GrantServerModel_readClaims_16 rfl (lv_at hl 1 rfl) ?_
        refine lv_iconst (v := (-1)) hx hb d_GrantServerModel_readClaims_17 (by decide) ?_
        have g4 : fL (ad 30) = some (.inl (k 0, 5, .inl (m_cm1 cl j))) := hmo.arr 30 (by decide) (by decide)
        refine hm_iast X hK hM hS g4 0 rfl j rfl hj5 (by decide) d_GrantServerModel_readClaims_18 (fun f5 H locs e6 hM hS => ?_)
        have hfr := hfr.ast 30 (by decide) (by decide) e6; have hmo : mo k f5 h ad sk (upd (upd v 28 (nI n)) 29 (nI 0)) (va_up (va_up (va_up c 27 x) 30 (m_cm1 cl j)) 30 (upd (m_cm1 cl j) j (-1))) := hmo.ast 30 (by decide) (by decide) e6
        refine lv_iinc (lv' := [(1, .int (nI (j + 1))), (0, .ref h)]) hx hb d_GrantServerModel_readClaims_19 hl (k := 1) rfl (hm_inc _) (by decide) rfl (fun ls hl => ?_)
        refine lv_goto (tgt := 7) hx hb d_GrantServerModel_readClaims_22 (by decide) ?_
        exact ih (j + 1) f5 H locs ls (by omega) (by omega)  (hmo.cv rfl (by rw [bx_uu, m_cm1_1])) hfr hM hS (lv_sub hl [1, 0] rfl)
  exact loop7 _ 0 f1 H locs ls (Nat.lt_succ_self _) (Nat.zero_le _)  (hmo.cv rfl (by rw [m_cm1_0])) hfr hM hS (lv_sub hl [1, 0] rfl)
