theorem d_GrantServer_authorize_0 : decode b_GrantServer_authorize 0 = .ok (.aload_n 0, 1) := by decide +kernel
theorem d_GrantServer_authorize_1 : decode b_GrantServer_authorize 1 = .ok (.iload_n 1, 1) := by decide +kernel
theorem d_GrantServer_authorize_2 : decode b_GrantServer_authorize 2 = .ok (.invokevirtual 90, 3) := by decide +kernel
theorem d_GrantServer_authorize_5 : decode b_GrantServer_authorize 5 = .ok (.astore 6, 2) := by decide +kernel
theorem d_GrantServer_authorize_7 : decode b_GrantServer_authorize 7 = .ok (.aload 6, 2) := by decide +kernel
theorem d_GrantServer_authorize_9 : decode b_GrantServer_authorize 9 = .ok (.ifnull 15, 3) := by decide +kernel
theorem d_GrantServer_authorize_12 : decode b_GrantServer_authorize 12 = .ok (.iload 4, 2) := by decide +kernel
theorem d_GrantServer_authorize_14 : decode b_GrantServer_authorize 14 = .ok (.ifCond .lt 10, 3) := by decide +kernel
theorem d_GrantServer_authorize_17 : decode b_GrantServer_authorize 17 = .ok (.iload 4, 2) := by decide +kernel
theorem d_GrantServer_authorize_19 : decode b_GrantServer_authorize 19 = .ok (.ldc 97, 2) := by decide +kernel
theorem d_GrantServer_authorize_21 : decode b_GrantServer_authorize 21 = .ok (.if_icmp .le 5, 3) := by decide +kernel
theorem d_GrantServer_authorize_24 : decode b_GrantServer_authorize 24 = .ok (.iconst (-1), 1) := by decide +kernel
theorem d_GrantServer_authorize_25 : decode b_GrantServer_authorize 25 = .ok (.ireturn, 1) := by decide +kernel
theorem d_GrantServer_authorize_26 : decode b_GrantServer_authorize 26 = .ok (.aload 6, 2) := by decide +kernel
theorem d_GrantServer_authorize_28 : decode b_GrantServer_authorize 28 = .ok (.getfield 98, 3) := by decide +kernel
theorem d_GrantServer_authorize_31 : decode b_GrantServer_authorize 31 = .ok (.iload_n 2, 1) := by decide +kernel
theorem d_GrantServer_authorize_32 : decode b_GrantServer_authorize 32 = .ok (.if_icmp .eq 6, 3) := by decide +kernel
theorem d_GrantServer_authorize_35 : decode b_GrantServer_authorize 35 = .ok (.bipush (-13), 2) := by decide +kernel
theorem d_GrantServer_authorize_37 : decode b_GrantServer_authorize 37 = .ok (.ireturn, 1) := by decide +kernel
theorem d_GrantServer_authorize_38 : decode b_GrantServer_authorize 38 = .ok (.iload_n 3, 1) := by decide +kernel
theorem d_GrantServer_authorize_39 : decode b_GrantServer_authorize 39 = .ok (.invokestatic 83, 3) := by decide +kernel
theorem d_GrantServer_authorize_42 : decode b_GrantServer_authorize 42 = .ok (.ifCond .eq 15, 3) := by decide +kernel
theorem d_GrantServer_authorize_45 : decode b_GrantServer_authorize 45 = .ok (.iload_n 3, 1) := by decide +kernel
theorem d_GrantServer_authorize_46 : decode b_GrantServer_authorize 46 = .ok (.aload 6, 2) := by decide +kernel
theorem d_GrantServer_authorize_48 : decode b_GrantServer_authorize 48 = .ok (.getfield 101, 3) := by decide +kernel
theorem d_GrantServer_authorize_51 : decode b_GrantServer_authorize 51 = .ok (.invokestatic 104, 3) := by decide +kernel
theorem d_GrantServer_authorize_54 : decode b_GrantServer_authorize 54 = .ok (.ifCond .ne 6, 3) := by decide +kernel
theorem d_GrantServer_authorize_57 : decode b_GrantServer_authorize 57 = .ok (.bipush (-4), 2) := by decide +kernel
theorem d_GrantServer_authorize_59 : decode b_GrantServer_authorize 59 = .ok (.ireturn, 1) := by decide +kernel
theorem d_GrantServer_authorize_60 : decode b_GrantServer_authorize 60 = .ok (.aload_n 0, 1) := by decide +kernel
theorem d_GrantServer_authorize_61 : decode b_GrantServer_authorize 61 = .ok (.iload 5, 2) := by decide +kernel
theorem d_GrantServer_authorize_63 : decode b_GrantServer_authorize 63 = .ok (.invokevirtual 108, 3) := by decide +kernel
theorem d_GrantServer_authorize_66 : decode b_GrantServer_authorize 66 = .ok (.ifCond .ne 6, 3) := by decide +kernel
theorem d_GrantServer_authorize_69 : decode b_GrantServer_authorize 69 = .ok (.bipush (-5), 2) := by decide +kernel
theorem d_GrantServer_authorize_71 : decode b_GrantServer_authorize 71 = .ok (.ireturn, 1) := by decide +kernel
theorem d_GrantServer_authorize_72 : decode b_GrantServer_authorize 72 = .ok (.aload_n 0, 1) := by decide +kernel
theorem d_GrantServer_authorize_73 : decode b_GrantServer_authorize 73 = .ok (.getfield 20, 3) := by decide +kernel
theorem d_GrantServer_authorize_76 : decode b_GrantServer_authorize 76 = .ok (.invokevirtual 111, 3) := by decide +kernel
theorem d_GrantServer_authorize_79 : decode b_GrantServer_authorize 79 = .ok (.ifCond .eq 6, 3) := by decide +kernel
theorem d_GrantServer_authorize_82 : decode b_GrantServer_authorize 82 = .ok (.bipush (-6), 2) := by decide +kernel
theorem d_GrantServer_authorize_84 : decode b_GrantServer_authorize 84 = .ok (.ireturn, 1) := by decide +kernel
theorem d_GrantServer_authorize_85 : decode b_GrantServer_authorize 85 = .ok (.aload_n 0, 1) := by decide +kernel
theorem d_GrantServer_authorize_86 : decode b_GrantServer_authorize 86 = .ok (.getfield 20, 3) := by decide +kernel
theorem d_GrantServer_authorize_89 : decode b_GrantServer_authorize 89 = .ok (.invokevirtual 115, 3) := by decide +kernel
theorem d_GrantServer_authorize_92 : decode b_GrantServer_authorize 92 = .ok (.astore 7, 2) := by decide +kernel
theorem d_GrantServer_authorize_94 : decode b_GrantServer_authorize 94 = .ok (.aload 7, 2) := by decide +kernel
theorem d_GrantServer_authorize_96 : decode b_GrantServer_authorize 96 = .ok (.iload 5, 2) := by decide +kernel
theorem d_GrantServer_authorize_98 : decode b_GrantServer_authorize 98 = .ok (.iload_n 1, 1) := by decide +kernel
theorem d_GrantServer_authorize_99 : decode b_GrantServer_authorize 99 = .ok (.iload_n 3, 1) := by decide +kernel
theorem d_GrantServer_authorize_100 : decode b_GrantServer_authorize 100 = .ok (.aload_n 0, 1) := by decide +kernel
theorem d_GrantServer_authorize_101 : decode b_GrantServer_authorize 101 = .ok (.getfield 60, 3) := by decide +kernel
theorem d_GrantServer_authorize_104 : decode b_GrantServer_authorize 104 = .ok (.aload_n 0, 1) := by decide +kernel
theorem d_GrantServer_authorize_105 : decode b_GrantServer_authorize 105 = .ok (.getfield 74, 3) := by decide +kernel
theorem d_GrantServer_authorize_108 : decode b_GrantServer_authorize 108 = .ok (.iadd, 1) := by decide +kernel
theorem d_GrantServer_authorize_109 : decode b_GrantServer_authorize 109 = .ok (.aconst_null, 1) := by decide +kernel
theorem d_GrantServer_authorize_110 : decode b_GrantServer_authorize 110 = .ok (.invokevirtual 119, 3) := by decide +kernel
theorem d_GrantServer_authorize_113 : decode b_GrantServer_authorize 113 = .ok (.aload 7, 2) := by decide +kernel
theorem d_GrantServer_authorize_115 : decode b_GrantServer_authorize 115 = .ok (.iload_n 2, 1) := by decide +kernel
theorem d_GrantServer_authorize_116 : decode b_GrantServer_authorize 116 = .ok (.putfield 125, 3) := by decide +kernel
theorem d_GrantServer_authorize_119 : decode b_GrantServer_authorize 119 = .ok (.aload 7, 2) := by decide +kernel
theorem d_GrantServer_authorize_121 : decode b_GrantServer_authorize 121 = .ok (.iload 4, 2) := by decide +kernel
theorem d_GrantServer_authorize_123 : decode b_GrantServer_authorize 123 = .ok (.putfield 126, 3) := by decide +kernel
theorem d_GrantServer_authorize_126 : decode b_GrantServer_authorize 126 = .ok (.iconst 0, 1) := by decide +kernel
theorem d_GrantServer_authorize_127 : decode b_GrantServer_authorize 127 = .ok (.ireturn, 1) := by decide +kernel
theorem d_GrantServer_exchange_0 : decode b_GrantServer_exchange 0 = .ok (.aload_n 0, 1) := by decide +kernel
theorem d_GrantServer_exchange_1 : decode b_GrantServer_exchange 1 = .ok (.getfield 54, 3) := by decide +kernel
theorem d_GrantServer_exchange_4 : decode b_GrantServer_exchange 4 = .ok (.iconst (-1), 1) := by decide +kernel
theorem d_GrantServer_exchange_5 : decode b_GrantServer_exchange 5 = .ok (.if_icmp .ne 6, 3) := by decide +kernel
theorem d_GrantServer_exchange_8 : decode b_GrantServer_exchange 8 = .ok (.bipush (-2), 2) := by decide +kernel
theorem d_GrantServer_exchange_10 : decode b_GrantServer_exchange 10 = .ok (.ireturn, 1) := by decide +kernel
theorem d_GrantServer_exchange_11 : decode b_GrantServer_exchange 11 = .ok (.iload_n 3, 1) := by decide +kernel
theorem d_GrantServer_exchange_12 : decode b_GrantServer_exchange 12 = .ok (.ifCond .lt 8, 3) := by decide +kernel
theorem d_GrantServer_exchange_15 : decode b_GrantServer_exchange 15 = .ok (.iload_n 3, 1) := by decide +kernel
theorem d_GrantServer_exchange_16 : decode b_GrantServer_exchange 16 = .ok (.iconst 3, 1) := by decide +kernel
theorem d_GrantServer_exchange_17 : decode b_GrantServer_exchange 17 = .ok (.if_icmp .le 5, 3) := by decide +kernel
theorem d_GrantServer_exchange_20 : decode b_GrantServer_exchange 20 = .ok (.iconst (-1), 1) := by decide +kernel
theorem d_GrantServer_exchange_21 : decode b_GrantServer_exchange 21 = .ok (.ireturn, 1) := by decide +kernel
theorem d_GrantServer_exchange_22 : decode b_GrantServer_exchange 22 = .ok (.aload_n 0, 1) := by decide +kernel
theorem d_GrantServer_exchange_23 : decode b_GrantServer_exchange 23 = .ok (.getfield 20, 3) := by decide +kernel
theorem d_GrantServer_exchange_26 : decode b_GrantServer_exchange 26 = .ok (.iload_n 1, 1) := by decide +kernel
theorem d_GrantServer_exchange_27 : decode b_GrantServer_exchange 27 = .ok (.aload_n 0, 1) := by decide +kernel
theorem d_GrantServer_exchange_28 : decode b_GrantServer_exchange 28 = .ok (.getfield 54, 3) := by decide +kernel
theorem d_GrantServer_exchange_31 : decode b_GrantServer_exchange 31 = .ok (.invokevirtual 129, 3) := by decide +kernel
theorem d_GrantServer_exchange_34 : decode b_GrantServer_exchange 34 = .ok (.astore 5, 2) := by decide +kernel
theorem d_GrantServer_exchange_36 : decode b_GrantServer_exchange 36 = .ok (.aload 5, 2) := by decide +kernel
theorem d_GrantServer_exchange_38 : decode b_GrantServer_exchange 38 = .ok (.ifnonnull 6, 3) := by decide +kernel
theorem d_GrantServer_exchange_41 : decode b_GrantServer_exchange 41 = .ok (.bipush (-3), 2) := by decide +kernel
theorem d_GrantServer_exchange_43 : decode b_GrantServer_exchange 43 = .ok (.ireturn, 1) := by decide +kernel
theorem d_GrantServer_exchange_44 : decode b_GrantServer_exchange 44 = .ok (.aload 5, 2) := by decide +kernel
theorem d_GrantServer_exchange_46 : decode b_GrantServer_exchange 46 = .ok (.getfield 133, 3) := by decide +kernel
theorem d_GrantServer_exchange_49 : decode b_GrantServer_exchange 49 = .ok (.ifCond .eq 11, 3) := by decide +kernel
theorem d_GrantServer_exchange_52 : decode b_GrantServer_exchange 52 = .ok (.aload 5, 2) := by decide +kernel
theorem d_GrantServer_exchange_54 : decode b_GrantServer_exchange 54 = .ok (.invokevirtual 137, 3) := by decide +kernel
theorem d_GrantServer_exchange_57 : decode b_GrantServer_exchange 57 = .ok (.bipush (-3), 2) := by decide +kernel
theorem d_GrantServer_exchange_59 : decode b_GrantServer_exchange 59 = .ok (.ireturn, 1) := by decide +kernel
theorem d_GrantServer_exchange_60 : decode b_GrantServer_exchange 60 = .ok (.aload 5, 2) := by decide +kernel
theorem d_GrantServer_exchange_62 : decode b_GrantServer_exchange 62 = .ok (.aload_n 0, 1) := by decide +kernel
theorem d_GrantServer_exchange_63 : decode b_GrantServer_exchange 63 = .ok (.getfield 60, 3) := by decide +kernel
theorem d_GrantServer_exchange_66 : decode b_GrantServer_exchange 66 = .ok (.invokevirtual 140, 3) := by decide +kernel
theorem d_GrantServer_exchange_69 : decode b_GrantServer_exchange 69 = .ok (.ifCond .eq 27, 3) := by decide +kernel
theorem d_GrantServer_exchange_72 : decode b_GrantServer_exchange 72 = .ok (.aload 5, 2) := by decide +kernel
theorem d_GrantServer_exchange_74 : decode b_GrantServer_exchange 74 = .ok (.getfield 125, 3) := by decide +kernel
theorem d_GrantServer_exchange_77 : decode b_GrantServer_exchange 77 = .ok (.iload_n 2, 1) := by decide +kernel
theorem d_GrantServer_exchange_78 : decode b_GrantServer_exchange 78 = .ok (.if_icmp .ne 18, 3) := by decide +kernel
theorem d_GrantServer_exchange_81 : decode b_GrantServer_exchange 81 = .ok (.aload 5, 2) := by decide +kernel
theorem d_GrantServer_exchange_83 : decode b_GrantServer_exchange 83 = .ok (.getfield 126, 3) := by decide +kernel
theorem d_GrantServer_exchange_86 : decode b_GrantServer_exchange 86 = .ok (.aload_n 0, 1) := by decide +kernel
theorem d_GrantServer_exchange_87 : decode b_GrantServer_exchange 87 = .ok (.getfield 33, 3) := by decide +kernel
theorem d_GrantServer_exchange_90 : decode b_GrantServer_exchange 90 = .ok (.invokevirtual 143, 3) := by decide +kernel
theorem d_GrantServer_exchange_93 : decode b_GrantServer_exchange 93 = .ok (.if_icmp .eq 6, 3) := by decide +kernel
theorem d_GrantServer_exchange_96 : decode b_GrantServer_exchange 96 = .ok (.bipush (-3), 2) := by decide +kernel
theorem d_GrantServer_exchange_98 : decode b_GrantServer_exchange 98 = .ok (.ireturn, 1) := by decide +kernel
theorem d_GrantServer_exchange_99 : decode b_GrantServer_exchange 99 = .ok (.aload_n 0, 1) := by decide +kernel
theorem d_GrantServer_exchange_100 : decode b_GrantServer_exchange 100 = .ok (.iload 4, 2) := by decide +kernel
theorem d_GrantServer_exchange_102 : decode b_GrantServer_exchange 102 = .ok (.invokevirtual 147, 3) := by decide +kernel
theorem d_GrantServer_exchange_105 : decode b_GrantServer_exchange 105 = .ok (.istore 6, 2) := by decide +kernel
theorem d_GrantServer_exchange_107 : decode b_GrantServer_exchange 107 = .ok (.iload 6, 2) := by decide +kernel
theorem d_GrantServer_exchange_109 : decode b_GrantServer_exchange 109 = .ok (.ifCond .eq 6, 3) := by decide +kernel
theorem d_GrantServer_exchange_112 : decode b_GrantServer_exchange 112 = .ok (.iload 6, 2) := by decide +kernel
theorem d_GrantServer_exchange_114 : decode b_GrantServer_exchange 114 = .ok (.ireturn, 1) := by decide +kernel
theorem d_GrantServer_exchange_115 : decode b_GrantServer_exchange 115 = .ok (.new 150, 3) := by decide +kernel
theorem d_GrantServer_exchange_118 : decode b_GrantServer_exchange 118 = .ok (.dup, 1) := by decide +kernel
theorem d_GrantServer_exchange_119 : decode b_GrantServer_exchange 119 = .ok (.aload 5, 2) := by decide +kernel
theorem d_GrantServer_exchange_121 : decode b_GrantServer_exchange 121 = .ok (.getfield 152, 3) := by decide +kernel
theorem d_GrantServer_exchange_124 : decode b_GrantServer_exchange 124 = .ok (.iload_n 3, 1) := by decide +kernel
theorem d_GrantServer_exchange_125 : decode b_GrantServer_exchange 125 = .ok (.invokespecial 153, 3) := by decide +kernel
theorem d_GrantServer_exchange_128 : decode b_GrantServer_exchange 128 = .ok (.astore 7, 2) := by decide +kernel
theorem d_GrantServer_exchange_130 : decode b_GrantServer_exchange 130 = .ok (.aload 5, 2) := by decide +kernel
theorem d_GrantServer_exchange_132 : decode b_GrantServer_exchange 132 = .ok (.iconst 1, 1) := by decide +kernel
theorem d_GrantServer_exchange_133 : decode b_GrantServer_exchange 133 = .ok (.putfield 133, 3) := by decide +kernel
theorem d_GrantServer_exchange_136 : decode b_GrantServer_exchange 136 = .ok (.aload 5, 2) := by decide +kernel
theorem d_GrantServer_exchange_138 : decode b_GrantServer_exchange 138 = .ok (.aload 7, 2) := by decide +kernel
theorem d_GrantServer_exchange_140 : decode b_GrantServer_exchange 140 = .ok (.putfield 156, 3) := by decide +kernel
theorem d_GrantServer_exchange_143 : decode b_GrantServer_exchange 143 = .ok (.aload_n 0, 1) := by decide +kernel
theorem d_GrantServer_exchange_144 : decode b_GrantServer_exchange 144 = .ok (.aload 7, 2) := by decide +kernel
theorem d_GrantServer_exchange_146 : decode b_GrantServer_exchange 146 = .ok (.aload 5, 2) := by decide +kernel
theorem d_GrantServer_exchange_148 : decode b_GrantServer_exchange 148 = .ok (.getfield 160, 3) := by decide +kernel
theorem d_GrantServer_exchange_151 : decode b_GrantServer_exchange 151 = .ok (.aload 5, 2) := by decide +kernel
theorem d_GrantServer_exchange_153 : decode b_GrantServer_exchange 153 = .ok (.getfield 152, 3) := by decide +kernel
theorem d_GrantServer_exchange_156 : decode b_GrantServer_exchange 156 = .ok (.iload 4, 2) := by decide +kernel
theorem d_GrantServer_exchange_158 : decode b_GrantServer_exchange 158 = .ok (.invokevirtual 163, 3) := by decide +kernel
theorem d_GrantServer_exchange_161 : decode b_GrantServer_exchange 161 = .ok (.ireturn, 1) := by decide +kernel
theorem d_GrantServer_refresh_0 : decode b_GrantServer_refresh 0 = .ok (.aload_n 0, 1) := by decide +kernel
theorem d_GrantServer_refresh_1 : decode b_GrantServer_refresh 1 = .ok (.getfield 54, 3) := by decide +kernel
theorem d_GrantServer_refresh_4 : decode b_GrantServer_refresh 4 = .ok (.iconst (-1), 1) := by decide +kernel
theorem d_GrantServer_refresh_5 : decode b_GrantServer_refresh 5 = .ok (.if_icmp .ne 6, 3) := by decide +kernel
theorem d_GrantServer_refresh_8 : decode b_GrantServer_refresh 8 = .ok (.bipush (-2), 2) := by decide +kernel
theorem d_GrantServer_refresh_10 : decode b_GrantServer_refresh 10 = .ok (.ireturn, 1) := by decide +kernel
theorem d_GrantServer_refresh_11 : decode b_GrantServer_refresh 11 = .ok (.aload_n 0, 1) := by decide +kernel
theorem d_GrantServer_refresh_12 : decode b_GrantServer_refresh 12 = .ok (.getfield 24, 3) := by decide +kernel
theorem d_GrantServer_refresh_15 : decode b_GrantServer_refresh 15 = .ok (.iload_n 1, 1) := by decide +kernel
theorem d_GrantServer_refresh_16 : decode b_GrantServer_refresh 16 = .ok (.aload_n 0, 1) := by decide +kernel
theorem d_GrantServer_refresh_17 : decode b_GrantServer_refresh 17 = .ok (.getfield 54, 3) := by decide +kernel
theorem d_GrantServer_refresh_20 : decode b_GrantServer_refresh 20 = .ok (.invokevirtual 129, 3) := by decide +kernel
theorem d_GrantServer_refresh_23 : decode b_GrantServer_refresh 23 = .ok (.astore 4, 2) := by decide +kernel
theorem d_GrantServer_refresh_25 : decode b_GrantServer_refresh 25 = .ok (.aload 4, 2) := by decide +kernel
theorem d_GrantServer_refresh_27 : decode b_GrantServer_refresh 27 = .ok (.ifnonnull 6, 3) := by decide +kernel
theorem d_GrantServer_refresh_30 : decode b_GrantServer_refresh 30 = .ok (.bipush (-3), 2) := by decide +kernel
theorem d_GrantServer_refresh_32 : decode b_GrantServer_refresh 32 = .ok (.ireturn, 1) := by decide +kernel
theorem d_GrantServer_refresh_33 : decode b_GrantServer_refresh 33 = .ok (.aload 4, 2) := by decide +kernel
theorem d_GrantServer_refresh_35 : decode b_GrantServer_refresh 35 = .ok (.getfield 133, 3) := by decide +kernel
theorem d_GrantServer_refresh_38 : decode b_GrantServer_refresh 38 = .ok (.ifCond .eq 11, 3) := by decide +kernel
theorem d_GrantServer_refresh_41 : decode b_GrantServer_refresh 41 = .ok (.aload 4, 2) := by decide +kernel
theorem d_GrantServer_refresh_43 : decode b_GrantServer_refresh 43 = .ok (.invokevirtual 137, 3) := by decide +kernel
theorem d_GrantServer_refresh_46 : decode b_GrantServer_refresh 46 = .ok (.bipush (-3), 2) := by decide +kernel
theorem d_GrantServer_refresh_48 : decode b_GrantServer_refresh 48 = .ok (.ireturn, 1) := by decide +kernel
theorem d_GrantServer_refresh_49 : decode b_GrantServer_refresh 49 = .ok (.aload 4, 2) := by decide +kernel
theorem d_GrantServer_refresh_51 : decode b_GrantServer_refresh 51 = .ok (.getfield 156, 3) := by decide +kernel
theorem d_GrantServer_refresh_54 : decode b_GrantServer_refresh 54 = .ok (.astore 5, 2) := by decide +kernel
theorem d_GrantServer_refresh_56 : decode b_GrantServer_refresh 56 = .ok (.aload 5, 2) := by decide +kernel
theorem d_GrantServer_refresh_58 : decode b_GrantServer_refresh 58 = .ok (.ifnull 15, 3) := by decide +kernel
theorem d_GrantServer_refresh_61 : decode b_GrantServer_refresh 61 = .ok (.aload 4, 2) := by decide +kernel
theorem d_GrantServer_refresh_63 : decode b_GrantServer_refresh 63 = .ok (.aload_n 0, 1) := by decide +kernel
theorem d_GrantServer_refresh_64 : decode b_GrantServer_refresh 64 = .ok (.getfield 60, 3) := by decide +kernel
theorem d_GrantServer_refresh_67 : decode b_GrantServer_refresh 67 = .ok (.invokevirtual 140, 3) := by decide +kernel
theorem d_GrantServer_refresh_70 : decode b_GrantServer_refresh 70 = .ok (.ifCond .ne 6, 3) := by decide +kernel
theorem d_GrantServer_refresh_73 : decode b_GrantServer_refresh 73 = .ok (.bipush (-3), 2) := by decide +kernel
theorem d_GrantServer_refresh_75 : decode b_GrantServer_refresh 75 = .ok (.ireturn, 1) := by decide +kernel
theorem d_GrantServer_refresh_76 : decode b_GrantServer_refresh 76 = .ok (.iload_n 2, 1) := by decide +kernel
theorem d_GrantServer_refresh_77 : decode b_GrantServer_refresh 77 = .ok (.ifCond .lt 21, 3) := by decide +kernel
theorem d_GrantServer_refresh_80 : decode b_GrantServer_refresh 80 = .ok (.iload_n 2, 1) := by decide +kernel
theorem d_GrantServer_refresh_81 : decode b_GrantServer_refresh 81 = .ok (.bipush 15, 2) := by decide +kernel
theorem d_GrantServer_refresh_83 : decode b_GrantServer_refresh 83 = .ok (.if_icmp .gt 15, 3) := by decide +kernel
theorem d_GrantServer_refresh_86 : decode b_GrantServer_refresh 86 = .ok (.iload_n 2, 1) := by decide +kernel
theorem d_GrantServer_refresh_87 : decode b_GrantServer_refresh 87 = .ok (.aload 5, 2) := by decide +kernel
theorem d_GrantServer_refresh_89 : decode b_GrantServer_refresh 89 = .ok (.getfield 167, 3) := by decide +kernel
theorem d_GrantServer_refresh_92 : decode b_GrantServer_refresh 92 = .ok (.invokestatic 104, 3) := by decide +kernel
theorem d_GrantServer_refresh_95 : decode b_GrantServer_refresh 95 = .ok (.ifCond .ne 6, 3) := by decide +kernel
theorem d_GrantServer_refresh_98 : decode b_GrantServer_refresh 98 = .ok (.bipush (-4), 2) := by decide +kernel
theorem d_GrantServer_refresh_100 : decode b_GrantServer_refresh 100 = .ok (.ireturn, 1) := by decide +kernel
theorem d_GrantServer_refresh_101 : decode b_GrantServer_refresh 101 = .ok (.aload_n 0, 1) := by decide +kernel
theorem d_GrantServer_refresh_102 : decode b_GrantServer_refresh 102 = .ok (.iload_n 3, 1) := by decide +kernel
theorem d_GrantServer_refresh_103 : decode b_GrantServer_refresh 103 = .ok (.invokevirtual 147, 3) := by decide +kernel
theorem d_GrantServer_refresh_106 : decode b_GrantServer_refresh 106 = .ok (.istore 6, 2) := by decide +kernel
theorem d_GrantServer_refresh_108 : decode b_GrantServer_refresh 108 = .ok (.iload 6, 2) := by decide +kernel
theorem d_GrantServer_refresh_110 : decode b_GrantServer_refresh 110 = .ok (.ifCond .eq 6, 3) := by decide +kernel
theorem d_GrantServer_refresh_113 : decode b_GrantServer_refresh 113 = .ok (.iload 6, 2) := by decide +kernel
theorem d_GrantServer_refresh_115 : decode b_GrantServer_refresh 115 = .ok (.ireturn, 1) := by decide +kernel
theorem d_GrantServer_refresh_116 : decode b_GrantServer_refresh 116 = .ok (.aload 4, 2) := by decide +kernel
theorem d_GrantServer_refresh_118 : decode b_GrantServer_refresh 118 = .ok (.iconst 1, 1) := by decide +kernel
theorem d_GrantServer_refresh_119 : decode b_GrantServer_refresh 119 = .ok (.putfield 133, 3) := by decide +kernel
theorem d_GrantServer_refresh_122 : decode b_GrantServer_refresh 122 = .ok (.aload_n 0, 1) := by decide +kernel
theorem d_GrantServer_refresh_123 : decode b_GrantServer_refresh 123 = .ok (.aload 5, 2) := by decide +kernel
theorem d_GrantServer_refresh_125 : decode b_GrantServer_refresh 125 = .ok (.aload 4, 2) := by decide +kernel
theorem d_GrantServer_refresh_127 : decode b_GrantServer_refresh 127 = .ok (.getfield 160, 3) := by decide +kernel
theorem d_GrantServer_refresh_130 : decode b_GrantServer_refresh 130 = .ok (.iload_n 2, 1) := by decide +kernel
theorem d_GrantServer_refresh_131 : decode b_GrantServer_refresh 131 = .ok (.ifCond .ne 11, 3) := by decide +kernel
theorem d_GrantServer_refresh_134 : decode b_GrantServer_refresh 134 = .ok (.aload 5, 2) := by decide +kernel
theorem d_GrantServer_refresh_136 : decode b_GrantServer_refresh 136 = .ok (.getfield 167, 3) := by decide +kernel
theorem d_GrantServer_refresh_139 : decode b_GrantServer_refresh 139 = .ok (.goto 4, 3) := by decide +kernel
theorem d_GrantServer_refresh_142 : decode b_GrantServer_refresh 142 = .ok (.iload_n 2, 1) := by decide +kernel
theorem d_GrantServer_refresh_143 : decode b_GrantServer_refresh 143 = .ok (.iload_n 3, 1) := by decide +kernel
theorem d_GrantServer_refresh_144 : decode b_GrantServer_refresh 144 = .ok (.invokevirtual 163, 3) := by decide +kernel
theorem d_GrantServer_refresh_147 : decode b_GrantServer_refresh 147 = .ok (.ireturn, 1) := by decide +kernel
theorem d_GrantServer_revoke_0 : decode b_GrantServer_revoke 0 = .ok (.aload_n 0, 1) := by decide +kernel
theorem d_GrantServer_revoke_1 : decode b_GrantServer_revoke 1 = .ok (.getfield 54, 3) := by decide +kernel
theorem d_GrantServer_revoke_4 : decode b_GrantServer_revoke 4 = .ok (.iconst (-1), 1) := by decide +kernel
theorem d_GrantServer_revoke_5 : decode b_GrantServer_revoke 5 = .ok (.if_icmp .ne 6, 3) := by decide +kernel
theorem d_GrantServer_revoke_8 : decode b_GrantServer_revoke 8 = .ok (.bipush (-2), 2) := by decide +kernel
theorem d_GrantServer_revoke_10 : decode b_GrantServer_revoke 10 = .ok (.ireturn, 1) := by decide +kernel
theorem d_GrantServer_revoke_11 : decode b_GrantServer_revoke 11 = .ok (.iload_n 1, 1) := by decide +kernel
theorem d_GrantServer_revoke_12 : decode b_GrantServer_revoke 12 = .ok (.iconst 1, 1) := by decide +kernel
theorem d_GrantServer_revoke_13 : decode b_GrantServer_revoke 13 = .ok (.if_icmp .eq 10, 3) := by decide +kernel
theorem d_GrantServer_revoke_16 : decode b_GrantServer_revoke 16 = .ok (.iload_n 1, 1) := by decide +kernel
theorem d_GrantServer_revoke_17 : decode b_GrantServer_revoke 17 = .ok (.iconst 2, 1) := by decide +kernel
theorem d_GrantServer_revoke_18 : decode b_GrantServer_revoke 18 = .ok (.if_icmp .eq 5, 3) := by decide +kernel
theorem d_GrantServer_revoke_21 : decode b_GrantServer_revoke 21 = .ok (.iconst (-1), 1) := by decide +kernel
theorem d_GrantServer_revoke_22 : decode b_GrantServer_revoke 22 = .ok (.ireturn, 1) := by decide +kernel
theorem d_GrantServer_revoke_23 : decode b_GrantServer_revoke 23 = .ok (.aload_n 0, 1) := by decide +kernel
theorem d_GrantServer_revoke_24 : decode b_GrantServer_revoke 24 = .ok (.invokevirtual 168, 3) := by decide +kernel
theorem d_GrantServer_revoke_27 : decode b_GrantServer_revoke 27 = .ok (.istore_n 3, 1) := by decide +kernel
theorem d_GrantServer_revoke_28 : decode b_GrantServer_revoke 28 = .ok (.iload_n 1, 1) := by decide +kernel
theorem d_GrantServer_revoke_29 : decode b_GrantServer_revoke 29 = .ok (.iconst 1, 1) := by decide +kernel
theorem d_GrantServer_revoke_30 : decode b_GrantServer_revoke 30 = .ok (.if_icmp .ne 21, 3) := by decide +kernel
theorem d_GrantServer_revoke_33 : decode b_GrantServer_revoke 33 = .ok (.aload_n 0, 1) := by decide +kernel
theorem d_GrantServer_revoke_34 : decode b_GrantServer_revoke 34 = .ok (.getfield 24, 3) := by decide +kernel
theorem d_GrantServer_revoke_37 : decode b_GrantServer_revoke 37 = .ok (.iload_n 2, 1) := by decide +kernel
theorem d_GrantServer_revoke_38 : decode b_GrantServer_revoke 38 = .ok (.aload_n 0, 1) := by decide +kernel
theorem d_GrantServer_revoke_39 : decode b_GrantServer_revoke 39 = .ok (.getfield 54, 3) := by decide +kernel
theorem d_GrantServer_revoke_42 : decode b_GrantServer_revoke 42 = .ok (.invokevirtual 129, 3) := by decide +kernel
theorem d_GrantServer_revoke_45 : decode b_GrantServer_revoke 45 = .ok (.invokestatic 171, 3) := by decide +kernel
theorem d_GrantServer_revoke_48 : decode b_GrantServer_revoke 48 = .ok (.goto 18, 3) := by decide +kernel
theorem d_GrantServer_revoke_51 : decode b_GrantServer_revoke 51 = .ok (.aload_n 0, 1) := by decide +kernel
theorem d_GrantServer_revoke_52 : decode b_GrantServer_revoke 52 = .ok (.getfield 27, 3) := by decide +kernel
theorem d_GrantServer_revoke_55 : decode b_GrantServer_revoke 55 = .ok (.iload_n 2, 1) := by decide +kernel
theorem d_GrantServer_revoke_56 : decode b_GrantServer_revoke 56 = .ok (.aload_n 0, 1) := by decide +kernel
theorem d_GrantServer_revoke_57 : decode b_GrantServer_revoke 57 = .ok (.getfield 54, 3) := by decide +kernel
theorem d_GrantServer_revoke_60 : decode b_GrantServer_revoke 60 = .ok (.invokevirtual 129, 3) := by decide +kernel
theorem d_GrantServer_revoke_63 : decode b_GrantServer_revoke 63 = .ok (.invokestatic 175, 3) := by decide +kernel
theorem d_GrantServer_revoke_66 : decode b_GrantServer_revoke 66 = .ok (.iload_n 3, 1) := by decide +kernel
theorem d_GrantServer_revoke_67 : decode b_GrantServer_revoke 67 = .ok (.aload_n 0, 1) := by decide +kernel
theorem d_GrantServer_revoke_68 : decode b_GrantServer_revoke 68 = .ok (.invokevirtual 168, 3) := by decide +kernel
theorem d_GrantServer_revoke_71 : decode b_GrantServer_revoke 71 = .ok (.isub, 1) := by decide +kernel
theorem d_GrantServer_revoke_72 : decode b_GrantServer_revoke 72 = .ok (.ireturn, 1) := by decide +kernel
theorem d_GrantServer_take_0 : decode b_GrantServer_take 0 = .ok (.iload_n 1, 1) := by decide +kernel
theorem d_GrantServer_take_1 : decode b_GrantServer_take 1 = .ok (.ifCond .eq 17, 3) := by decide +kernel
theorem d_GrantServer_take_4 : decode b_GrantServer_take 4 = .ok (.aload_n 0, 1) := by decide +kernel
theorem d_GrantServer_take_5 : decode b_GrantServer_take 5 = .ok (.getfield 33, 3) := by decide +kernel
theorem d_GrantServer_take_8 : decode b_GrantServer_take 8 = .ok (.aload_n 0, 1) := by decide +kernel
theorem d_GrantServer_take_9 : decode b_GrantServer_take 9 = .ok (.getfield 37, 3) := by decide +kernel
theorem d_GrantServer_take_12 : decode b_GrantServer_take 12 = .ok (.invokevirtual 214, 3) := by decide +kernel
theorem d_GrantServer_take_15 : decode b_GrantServer_take 15 = .ok (.goto 10, 3) := by decide +kernel
theorem d_GrantServer_take_18 : decode b_GrantServer_take 18 = .ok (.aload_n 0, 1) := by decide +kernel
theorem d_GrantServer_take_19 : decode b_GrantServer_take 19 = .ok (.getfield 33, 3) := by decide +kernel
theorem d_GrantServer_take_22 : decode b_GrantServer_take 22 = .ok (.invokevirtual 218, 3) := by decide +kernel
theorem d_GrantServer_take_25 : decode b_GrantServer_take 25 = .ok (.aload_n 0, 1) := by decide +kernel
theorem d_GrantServer_take_26 : decode b_GrantServer_take 26 = .ok (.getfield 33, 3) := by decide +kernel
theorem d_GrantServer_take_29 : decode b_GrantServer_take 29 = .ok (.invokevirtual 221, 3) := by decide +kernel
theorem d_GrantServer_take_32 : decode b_GrantServer_take 32 = .ok (.ireturn, 1) := by decide +kernel
theorem d_GrantServer_challenge_0 : decode b_GrantServer_challenge 0 = .ok (.aload_n 0, 1) := by decide +kernel
theorem d_GrantServer_challenge_1 : decode b_GrantServer_challenge 1 = .ok (.getfield 33, 3) := by decide +kernel
theorem d_GrantServer_challenge_4 : decode b_GrantServer_challenge 4 = .ok (.invokevirtual 143, 3) := by decide +kernel
theorem d_GrantServer_challenge_7 : decode b_GrantServer_challenge 7 = .ok (.ireturn, 1) := by decide +kernel
theorem d_GrantServer_shelfOf_0 : decode b_GrantServer_shelfOf 0 = .ok (.iload_n 1, 1) := by decide +kernel
theorem d_GrantServer_shelfOf_1 : decode b_GrantServer_shelfOf 1 = .ok (.tableswitch 42 0 2 #[27, 32, 37], 27) := by decide +kernel
theorem d_GrantServer_shelfOf_28 : decode b_GrantServer_shelfOf 28 = .ok (.aload_n 0, 1) := by decide +kernel
theorem d_GrantServer_shelfOf_29 : decode b_GrantServer_shelfOf 29 = .ok (.getfield 20, 3) := by decide +kernel
theorem d_GrantServer_shelfOf_32 : decode b_GrantServer_shelfOf 32 = .ok (.areturn, 1) := by decide +kernel
theorem d_GrantServer_shelfOf_33 : decode b_GrantServer_shelfOf 33 = .ok (.aload_n 0, 1) := by decide +kernel
theorem d_GrantServer_shelfOf_34 : decode b_GrantServer_shelfOf 34 = .ok (.getfield 24, 3) := by decide +kernel
theorem d_GrantServer_shelfOf_37 : decode b_GrantServer_shelfOf 37 = .ok (.areturn, 1) := by decide +kernel
theorem d_GrantServer_shelfOf_38 : decode b_GrantServer_shelfOf 38 = .ok (.aload_n 0, 1) := by decide +kernel
theorem d_GrantServer_shelfOf_39 : decode b_GrantServer_shelfOf 39 = .ok (.getfield 27, 3) := by decide +kernel
theorem d_GrantServer_shelfOf_42 : decode b_GrantServer_shelfOf 42 = .ok (.areturn, 1) := by decide +kernel
theorem d_GrantServer_shelfOf_43 : decode b_GrantServer_shelfOf 43 = .ok (.aconst_null, 1) := by decide +kernel
theorem d_GrantServer_shelfOf_44 : decode b_GrantServer_shelfOf 44 = .ok (.areturn, 1) := by decide +kernel
theorem d_Shelf_find_0 : decode b_Shelf_find 0 = .ok (.iconst 0, 1) := by decide +kernel
theorem d_Shelf_find_1 : decode b_Shelf_find 1 = .ok (.istore_n 2, 1) := by decide +kernel
theorem d_Shelf_find_2 : decode b_Shelf_find 2 = .ok (.iload_n 2, 1) := by decide +kernel
theorem d_Shelf_find_3 : decode b_Shelf_find 3 = .ok (.aload_n 0, 1) := by decide +kernel
theorem d_Shelf_find_4 : decode b_Shelf_find 4 = .ok (.getfield 7, 3) := by decide +kernel
theorem d_Shelf_find_7 : decode b_Shelf_find 7 = .ok (.if_icmp .ge 29, 3) := by decide +kernel
theorem d_Shelf_find_10 : decode b_Shelf_find 10 = .ok (.aload_n 0, 1) := by decide +kernel
theorem d_Shelf_find_11 : decode b_Shelf_find 11 = .ok (.getfield 15, 3) := by decide +kernel
theorem d_Shelf_find_14 : decode b_Shelf_find 14 = .ok (.iload_n 2, 1) := by decide +kernel
theorem d_Shelf_find_15 : decode b_Shelf_find 15 = .ok (.aaload, 1) := by decide +kernel
theorem d_Shelf_find_16 : decode b_Shelf_find 16 = .ok (.getfield 24, 3) := by decide +kernel
theorem d_Shelf_find_19 : decode b_Shelf_find 19 = .ok (.iload_n 1, 1) := by decide +kernel
theorem d_Shelf_find_20 : decode b_Shelf_find 20 = .ok (.if_icmp .ne 10, 3) := by decide +kernel
theorem d_Shelf_find_23 : decode b_Shelf_find 23 = .ok (.aload_n 0, 1) := by decide +kernel
theorem d_Shelf_find_24 : decode b_Shelf_find 24 = .ok (.getfield 15, 3) := by decide +kernel
theorem d_Shelf_find_27 : decode b_Shelf_find 27 = .ok (.iload_n 2, 1) := by decide +kernel
theorem d_Shelf_find_28 : decode b_Shelf_find 28 = .ok (.aaload, 1) := by decide +kernel
theorem d_Shelf_find_29 : decode b_Shelf_find 29 = .ok (.areturn, 1) := by decide +kernel
theorem d_Shelf_find_30 : decode b_Shelf_find 30 = .ok (.iinc 2 1, 3) := by decide +kernel
theorem d_Shelf_find_33 : decode b_Shelf_find 33 = .ok (.goto (-31), 3) := by decide +kernel
theorem d_Shelf_find_36 : decode b_Shelf_find 36 = .ok (.aconst_null, 1) := by decide +kernel
theorem d_Shelf_find_37 : decode b_Shelf_find 37 = .ok (.areturn, 1) := by decide +kernel
theorem d_Shelf_findOwned_0 : decode b_Shelf_findOwned 0 = .ok (.aload_n 0, 1) := by decide +kernel
theorem d_Shelf_findOwned_1 : decode b_Shelf_findOwned 1 = .ok (.iload_n 1, 1) := by decide +kernel
theorem d_Shelf_findOwned_2 : decode b_Shelf_findOwned 2 = .ok (.invokevirtual 27, 3) := by decide +kernel
theorem d_Shelf_findOwned_5 : decode b_Shelf_findOwned 5 = .ok (.astore_n 3, 1) := by decide +kernel
theorem d_Shelf_findOwned_6 : decode b_Shelf_findOwned 6 = .ok (.aload_n 3, 1) := by decide +kernel
theorem d_Shelf_findOwned_7 : decode b_Shelf_findOwned 7 = .ok (.ifnull 15, 3) := by decide +kernel
theorem d_Shelf_findOwned_10 : decode b_Shelf_findOwned 10 = .ok (.aload_n 3, 1) := by decide +kernel
theorem d_Shelf_findOwned_11 : decode b_Shelf_findOwned 11 = .ok (.getfield 31, 3) := by decide +kernel
theorem d_Shelf_findOwned_14 : decode b_Shelf_findOwned 14 = .ok (.iload_n 2, 1) := by decide +kernel
theorem d_Shelf_findOwned_15 : decode b_Shelf_findOwned 15 = .ok (.if_icmp .ne 7, 3) := by decide +kernel
theorem d_Shelf_findOwned_18 : decode b_Shelf_findOwned 18 = .ok (.aload_n 3, 1) := by decide +kernel
theorem d_Shelf_findOwned_19 : decode b_Shelf_findOwned 19 = .ok (.goto 4, 3) := by decide +kernel
theorem d_Shelf_findOwned_22 : decode b_Shelf_findOwned 22 = .ok (.aconst_null, 1) := by decide +kernel
theorem d_Shelf_findOwned_23 : decode b_Shelf_findOwned 23 = .ok (.areturn, 1) := by decide +kernel
theorem d_Shelf_hasActive_0 : decode b_Shelf_hasActive 0 = .ok (.aload_n 0, 1) := by decide +kernel
theorem d_Shelf_hasActive_1 : decode b_Shelf_hasActive 1 = .ok (.iload_n 1, 1) := by decide +kernel
theorem d_Shelf_hasActive_2 : decode b_Shelf_hasActive 2 = .ok (.invokevirtual 27, 3) := by decide +kernel
theorem d_Shelf_hasActive_5 : decode b_Shelf_hasActive 5 = .ok (.astore_n 3, 1) := by decide +kernel
theorem d_Shelf_hasActive_6 : decode b_Shelf_hasActive 6 = .ok (.aload_n 3, 1) := by decide +kernel
theorem d_Shelf_hasActive_7 : decode b_Shelf_hasActive 7 = .ok (.ifnull 15, 3) := by decide +kernel
theorem d_Shelf_hasActive_10 : decode b_Shelf_hasActive 10 = .ok (.aload_n 3, 1) := by decide +kernel
theorem d_Shelf_hasActive_11 : decode b_Shelf_hasActive 11 = .ok (.iload_n 2, 1) := by decide +kernel
theorem d_Shelf_hasActive_12 : decode b_Shelf_hasActive 12 = .ok (.invokevirtual 34, 3) := by decide +kernel
theorem d_Shelf_hasActive_15 : decode b_Shelf_hasActive 15 = .ok (.ifCond .eq 7, 3) := by decide +kernel
theorem d_Shelf_hasActive_18 : decode b_Shelf_hasActive 18 = .ok (.iconst 1, 1) := by decide +kernel
theorem d_Shelf_hasActive_19 : decode b_Shelf_hasActive 19 = .ok (.goto 4, 3) := by decide +kernel
theorem d_Shelf_hasActive_22 : decode b_Shelf_hasActive 22 = .ok (.iconst 0, 1) := by decide +kernel
theorem d_Shelf_hasActive_23 : decode b_Shelf_hasActive 23 = .ok (.ireturn, 1) := by decide +kernel
theorem d_Shelf_activeRows_0 : decode b_Shelf_activeRows 0 = .ok (.iconst 0, 1) := by decide +kernel
theorem d_Shelf_activeRows_1 : decode b_Shelf_activeRows 1 = .ok (.istore_n 2, 1) := by decide +kernel
theorem d_Shelf_activeRows_2 : decode b_Shelf_activeRows 2 = .ok (.iconst 0, 1) := by decide +kernel
theorem d_Shelf_activeRows_3 : decode b_Shelf_activeRows 3 = .ok (.istore_n 3, 1) := by decide +kernel
theorem d_Shelf_activeRows_4 : decode b_Shelf_activeRows 4 = .ok (.iload_n 3, 1) := by decide +kernel
theorem d_Shelf_activeRows_5 : decode b_Shelf_activeRows 5 = .ok (.aload_n 0, 1) := by decide +kernel
theorem d_Shelf_activeRows_6 : decode b_Shelf_activeRows 6 = .ok (.getfield 7, 3) := by decide +kernel
theorem d_Shelf_activeRows_9 : decode b_Shelf_activeRows 9 = .ok (.if_icmp .ge 25, 3) := by decide +kernel
theorem d_Shelf_activeRows_12 : decode b_Shelf_activeRows 12 = .ok (.aload_n 0, 1) := by decide +kernel
theorem d_Shelf_activeRows_13 : decode b_Shelf_activeRows 13 = .ok (.getfield 15, 3) := by decide +kernel
theorem d_Shelf_activeRows_16 : decode b_Shelf_activeRows 16 = .ok (.iload_n 3, 1) := by decide +kernel
theorem d_Shelf_activeRows_17 : decode b_Shelf_activeRows 17 = .ok (.aaload, 1) := by decide +kernel
theorem d_Shelf_activeRows_18 : decode b_Shelf_activeRows 18 = .ok (.iload_n 1, 1) := by decide +kernel
theorem d_Shelf_activeRows_19 : decode b_Shelf_activeRows 19 = .ok (.invokevirtual 34, 3) := by decide +kernel
theorem d_Shelf_activeRows_22 : decode b_Shelf_activeRows 22 = .ok (.ifCond .eq 6, 3) := by decide +kernel
theorem d_Shelf_activeRows_25 : decode b_Shelf_activeRows 25 = .ok (.iinc 2 1, 3) := by decide +kernel
theorem d_Shelf_activeRows_28 : decode b_Shelf_activeRows 28 = .ok (.iinc 3 1, 3) := by decide +kernel
theorem d_Shelf_activeRows_31 : decode b_Shelf_activeRows 31 = .ok (.goto (-27), 3) := by decide +kernel
theorem d_Shelf_activeRows_34 : decode b_Shelf_activeRows 34 = .ok (.iload_n 2, 1) := by decide +kernel
theorem d_Shelf_activeRows_35 : decode b_Shelf_activeRows 35 = .ok (.ireturn, 1) := by decide +kernel
theorem d_Text_copyFrom_0 : decode b_Text_copyFrom 0 = .ok (.aload_n 1, 1) := by decide +kernel
theorem d_Text_copyFrom_1 : decode b_Text_copyFrom 1 = .ok (.getfield 11, 3) := by decide +kernel
theorem d_Text_copyFrom_4 : decode b_Text_copyFrom 4 = .ok (.iconst 0, 1) := by decide +kernel
theorem d_Text_copyFrom_5 : decode b_Text_copyFrom 5 = .ok (.aload_n 0, 1) := by decide +kernel
theorem d_Text_copyFrom_6 : decode b_Text_copyFrom 6 = .ok (.getfield 11, 3) := by decide +kernel
theorem d_Text_copyFrom_9 : decode b_Text_copyFrom 9 = .ok (.iconst 0, 1) := by decide +kernel
theorem d_Text_copyFrom_10 : decode b_Text_copyFrom 10 = .ok (.aload_n 1, 1) := by decide +kernel
theorem d_Text_copyFrom_11 : decode b_Text_copyFrom 11 = .ok (.getfield 15, 3) := by decide +kernel
theorem d_Text_copyFrom_14 : decode b_Text_copyFrom 14 = .ok (.invokestatic 19, 3) := by decide +kernel
theorem d_Text_copyFrom_17 : decode b_Text_copyFrom 17 = .ok (.aload_n 0, 1) := by decide +kernel
theorem d_Text_copyFrom_18 : decode b_Text_copyFrom 18 = .ok (.aload_n 1, 1) := by decide +kernel
theorem d_Text_copyFrom_19 : decode b_Text_copyFrom 19 = .ok (.getfield 15, 3) := by decide +kernel
theorem d_Text_copyFrom_22 : decode b_Text_copyFrom 22 = .ok (.putfield 15, 3) := by decide +kernel
theorem d_Text_copyFrom_25 : decode b_Text_copyFrom 25 = .ok (.return_, 1) := by decide +kernel
theorem d_Text_hash_0 : decode b_Text_hash 0 = .ok (.aload_n 0, 1) := by decide +kernel
theorem d_Text_hash_1 : decode b_Text_hash 1 = .ok (.getfield 15, 3) := by decide +kernel
theorem d_Text_hash_4 : decode b_Text_hash 4 = .ok (.istore_n 1, 1) := by decide +kernel
theorem d_Text_hash_5 : decode b_Text_hash 5 = .ok (.iconst 0, 1) := by decide +kernel
theorem d_Text_hash_6 : decode b_Text_hash 6 = .ok (.istore_n 2, 1) := by decide +kernel
theorem d_Text_hash_7 : decode b_Text_hash 7 = .ok (.iload_n 2, 1) := by decide +kernel
theorem d_Text_hash_8 : decode b_Text_hash 8 = .ok (.aload_n 0, 1) := by decide +kernel
theorem d_Text_hash_9 : decode b_Text_hash 9 = .ok (.getfield 15, 3) := by decide +kernel
theorem d_Text_hash_12 : decode b_Text_hash 12 = .ok (.if_icmp .ge 24, 3) := by decide +kernel
theorem d_Text_hash_15 : decode b_Text_hash 15 = .ok (.iload_n 1, 1) := by decide +kernel
theorem d_Text_hash_16 : decode b_Text_hash 16 = .ok (.ldc 39, 2) := by decide +kernel
theorem d_Text_hash_18 : decode b_Text_hash 18 = .ok (.imul, 1) := by decide +kernel
theorem d_Text_hash_19 : decode b_Text_hash 19 = .ok (.aload_n 0, 1) := by decide +kernel
theorem d_Text_hash_20 : decode b_Text_hash 20 = .ok (.getfield 11, 3) := by decide +kernel
theorem d_Text_hash_23 : decode b_Text_hash 23 = .ok (.iload_n 2, 1) := by decide +kernel
theorem d_Text_hash_24 : decode b_Text_hash 24 = .ok (.caload, 1) := by decide +kernel
theorem d_Text_hash_25 : decode b_Text_hash 25 = .ok (.iadd, 1) := by decide +kernel
theorem d_Text_hash_26 : decode b_Text_hash 26 = .ok (.ldc 40, 2) := by decide +kernel
theorem d_Text_hash_28 : decode b_Text_hash 28 = .ok (.iand, 1) := by decide +kernel
theorem d_Text_hash_29 : decode b_Text_hash 29 = .ok (.istore_n 1, 1) := by decide +kernel
theorem d_Text_hash_30 : decode b_Text_hash 30 = .ok (.iinc 2 1, 3) := by decide +kernel
theorem d_Text_hash_33 : decode b_Text_hash 33 = .ok (.goto (-26), 3) := by decide +kernel
theorem d_Text_hash_36 : decode b_Text_hash 36 = .ok (.iload_n 1, 1) := by decide +kernel
theorem d_Text_hash_37 : decode b_Text_hash 37 = .ok (.ireturn, 1) := by decide +kernel
set_option maxRecDepth 20000 in
theorem fl_GrantServer_20 : hm_fl vwCl TB R_GrantServer 20 0 4 true (.object "GrantServer$Shelf") := ⟨_, _, _, _, cl_GrantServer, by decide, (TBm 179 (by decide +kernel) rfl), rfl, rfl⟩
set_option maxRecDepth 20000 in
theorem fl_GrantServer_24 : hm_fl vwCl TB R_GrantServer 24 0 5 true (.object "GrantServer$Shelf") := ⟨_, _, _, _, cl_GrantServer, by decide, (TBm 180 (by decide +kernel) rfl), rfl, rfl⟩
set_option maxRecDepth 20000 in
theorem fl_GrantServer_27 : hm_fl vwCl TB R_GrantServer 27 0 6 true (.object "GrantServer$Shelf") := ⟨_, _, _, _, cl_GrantServer, by decide, (TBm 181 (by decide +kernel) rfl), rfl, rfl⟩
set_option maxRecDepth 20000 in
theorem fl_Shelf_24 : hm_fl vwCl TB R_Shelf 24 3 0 false .int := ⟨_, _, _, _, cl_Grant, by decide, (TBm 80 (by decide +kernel) rfl), rfl, rfl⟩
set_option maxRecDepth 20000 in
theorem fl_Shelf_31 : hm_fl vwCl TB R_Shelf 31 3 1 false .int := ⟨_, _, _, _, cl_Grant, by decide, (TBm 84 (by decide +kernel) rfl), rfl, rfl⟩
set_option maxRecDepth 20000 in
theorem me_Grant_isActive : hm_meV y_Grant_isActive b_Grant_isActive 2 (some .boolean) 1 := ⟨⟨(TBm 303 rfl rfl), (TBm 42 (by decide +kernel) rfl), by decide +kernel⟩, (TBm 301 (by decide +kernel) rfl), (TBm 302 (by decide +kernel) rfl)⟩
set_option maxRecDepth 20000 in
theorem me_Shelf_find : hm_meV y_Shelf_find b_Shelf_find 3 (some (.object "GrantServer$Grant")) 1 := ⟨⟨(TBm 273 rfl rfl), (TBm 41 (by decide +kernel) rfl), by decide +kernel⟩, (TBm 271 (by decide +kernel) rfl), (TBm 272 (by decide +kernel) rfl)⟩
set_option maxRecDepth 20000 in
theorem me_Text_clear : hm_meV y_Text_clear b_Text_clear 1 none 0 := ⟨⟨(TBm 344 rfl rfl), (TBm 43 (by decide +kernel) rfl), by decide +kernel⟩, (TBm 342 (by decide +kernel) rfl), (TBm 343 (by decide +kernel) rfl)⟩
set_option maxRecDepth 20000 in
theorem me_Text_copyFrom : hm_meV y_Text_copyFrom b_Text_copyFrom 2 none 1 := ⟨⟨(TBm 634 rfl rfl), (TBm 43 (by decide +kernel) rfl), by decide +kernel⟩, (TBm 632 (by decide +kernel) rfl), (TBm 633 (by decide +kernel) rfl)⟩
set_option maxRecDepth 20000 in
theorem me_Text_hash : hm_meV y_Text_hash b_Text_hash 3 (some .int) 0 := ⟨⟨(TBm 307 rfl rfl), (TBm 43 (by decide +kernel) rfl), by decide +kernel⟩, (TBm 305 (by decide +kernel) rfl), (TBm 306 (by decide +kernel) rfl)⟩
set_option maxRecDepth 20000 in
theorem me_Text_size : hm_meV y_Text_size b_Text_size 1 (some .int) 0 := ⟨⟨(TBm 422 rfl rfl), (TBm 43 (by decide +kernel) rfl), by decide +kernel⟩, (TBm 420 (by decide +kernel) rfl), (TBm 421 (by decide +kernel) rfl)⟩
set_option maxRecDepth 20000 in
theorem wc_Text_39 : Cond.constant R_Text 39 1000003 ∈ TB := TBm 308 (by decide +kernel) rfl
set_option maxRecDepth 20000 in
theorem wc_Text_40 : Cond.constant R_Text 40 1073741823 ∈ TB := TBm 309 (by decide +kernel) rfl
set_option maxRecDepth 20000 in
theorem wl_GrantServer_143 : Cond.methodLink R_GrantServer 143 y_Text_hash ∈ TB := TBm 304 (by decide +kernel) rfl
set_option maxRecDepth 20000 in
theorem wl_GrantServer_214 : Cond.methodLink R_GrantServer 214 y_Text_copyFrom ∈ TB := TBm 631 (by decide +kernel) rfl
set_option maxRecDepth 20000 in
theorem wl_GrantServer_218 : Cond.methodLink R_GrantServer 218 y_Text_clear ∈ TB := TBm 341 (by decide +kernel) rfl
set_option maxRecDepth 20000 in
theorem wl_GrantServer_221 : Cond.methodLink R_GrantServer 221 y_Text_size ∈ TB := TBm 638 (by decide +kernel) rfl
set_option maxRecDepth 20000 in
theorem wl_Shelf_27 : Cond.methodLink R_Shelf 27 y_Shelf_find ∈ TB := TBm 295 (by decide +kernel) rfl
set_option maxRecDepth 20000 in
theorem wl_Shelf_34 : Cond.methodLink R_Shelf 34 y_Grant_isActive ∈ TB := TBm 460 (by decide +kernel) rfl
set_option maxRecDepth 20000 in
theorem wl_Text_19 : Cond.methodLink R_Text 19 arraycopyName ∈ TB := TBm 635 (by decide +kernel) rfl
set_option maxRecDepth 20000 in
theorem wn_System : Cond.initialized "java/lang/System" ∈ TB := TBm 55 (by decide +kernel) rfl
set_option maxRecDepth 20000 in
theorem ws_arraycopy : Cond.static arraycopyName ∈ TB := TBm 636 (by decide +kernel) rfl
set_option maxRecDepth 20000 in
theorem wv_arraycopy : Cond.native arraycopyName ∈ TB := TBm 637 (by decide +kernel) rfl
set_option maxHeartbeats 4000000 in
set_option maxRecDepth 100000 in
theorem c_Text_copyFrom (l : Launch) (D : va_G) (k : Nat → ClassId) (f : hm) (t : Nat) (a : Nat) (n1 : Int32) (y : Nat → Int32) (t2 : Nat) (a2 : Nat) (n : Nat) (x : Nat → Int32) (ht : f t = some (.inr (5, [.ref a, .int n1]))) (ha : f a = some (.inl (k 2, 120, .inl y))) (ht2 : f t2 = some (.inr (5, [.ref a2, .int (nI n)]))) (ha2 : f a2 = some (.inl (k 2, 120, .inl x))) (htt : t2 ≠ t) (haa : a2 ≠ a) (hn : n ≤ 120) (hft : ∀ i, i < n → fits .char (.int (x i)) = true) : hm_Mv l D vwCl (tyL k) y_Text_copyFrom (Cond.code y_Text_copyFrom b_Text_copyFrom 2 none :: TB) ({ frames := 1, cells := 0, slots := 0, locals := 40 }) [.ref t, .ref t2] f (fun (f1 : hm) => f1 t = some (.inr (5, [.ref a, .int (nI n)])) ∧ f1 a = some (.inl (k 2, 120, .inl (va_cpy x y 0 0 n))) ∧ ∀ (zq : Nat) (zx : va_E), zq ≠ t → zq ≠ a → f zq = some zx → f1 zq = some zx) 0 0 := by
  refine hm_enter (Qc := fun sz => va_Qv _ (hm_R D vwCl (tyL k) f sz) (hm_A f sz)) (by decide) rfl (Nat.le_of_ble_eq_true rfl) ?_
  intro p e s m below meth cd ls X0 hr hlk hin hK hM hS hA hl Q hQ
  have X : CallFix p m cd b_Text_copyFrom 2 s ([.ref t, .ref t2] : List Value).toArray TB R_Text := ⟨X0.1, X0.2.1, X0.2.2.1, X0.2.2.2.1, fun w h => X0.2.2.2.2 w (List.mem_cons_of_mem _ h)⟩
  have hx := X.1; have hb := X.2.1; have hml := X.2.2.1; have hown := X.2.2.2.1; have hts := X.2.2.2.2
  have hl : lv_has ls 2 [(0, .ref t), (1, .ref t2)] := hl
  refine lv_aload_n hx hb d_Text_copyFrom_0 rfl (lv_at hl 1 rfl) ?_
  refine hm_get X hK hM ht2 fl_Text_11 (v := .ref a2) rfl d_Text_copyFrom_1 ?_
  refine lv_iconst (v := 0) hx hb d_Text_copyFrom_4 (by decide) ?_
  refine lv_aload_n hx hb d_Text_copyFrom_5 rfl (lv_at hl 0 rfl) ?_
  refine hm_get X hK hM ht fl_Text_11 (v := .ref a) rfl d_Text_copyFrom_6 ?_
  refine lv_iconst (v := 0) hx hb d_Text_copyFrom_9 (by decide) ?_
  refine lv_aload_n hx hb d_Text_copyFrom_10 rfl (lv_at hl 1 rfl) ?_
  refine hm_get X hK hM ht2 fl_Text_15 (v := .int (nI n)) rfl d_Text_copyFrom_11 ?_
  refine hm_copyc X hK hM hS ha2 ha 2 rfl (n := n) (by omega) (by omega) (by omega) hft wl_Text_19 wv_arraycopy ws_arraycopy wn_System (Nat.le_of_ble_eq_true rfl) (by decide) hl.1 d_Text_copyFrom_14 (fun f1 H locs e2 hM hS => ?_)
  refine lv_aload_n hx hb d_Text_copyFrom_17 rfl (lv_at hl 0 rfl) ?_
  refine lv_aload_n hx hb d_Text_copyFrom_18 rfl (lv_at hl 1 rfl) ?_
  have g3 : f1 t2 = some (.inr (5, [.ref a2, .int (nI n)])) := by rw [e2, hm_up_n (hm_neA ht2 ha)]; exact ht2
  refine hm_get X hK hM g3 fl_Text_15 (v := .int (nI n)) rfl d_Text_copyFrom_19 ?_
  have g4 : f1 t = some (.inr (5, [.ref a, .int n1])) := by rw [e2, hm_up_n (hm_neA ht ha)]; exact ht
  refine hm_put X hK hM hS (fs' := [.ref a, .int (nI n)]) g4 fl_Text_15 rfl rfl (Nat.le_of_ble_eq_true rfl) rfl d_Text_copyFrom_22 (fun f5 H locs e6 hM hS => ?_)
  have g7 : f5 t = some (.inr (5, [.ref a, .int (nI n)])) := by rw [e6, hm_up_s]
  have g8 : f1 a = some (.inl (k 2, 120, .inl (va_cpy x y 0 0 n))) := by rw [e2, hm_up_s]
  have g9 : f5 a = some (.inl (k 2, 120, .inl (va_cpy x y 0 0 n))) := by rw [e6, hm_up_n ((hm_neA g4 g8).symm)]; exact g8
  exact hm_vret X hQ hr hlk hK hM hS d_Text_copyFrom_25 ⟨g7, g9, (fun zq zx n0 n1 hq => by have t0 := hq; have t1 := hm_keep e2 n1 t0; have t2 := hm_keep e6 n0 t1; exact t2)⟩
set_option maxHeartbeats 4000000 in
set_option maxRecDepth 100000 in
theorem c_Text_hash (l : Launch) (D : va_G) (k : Nat → ClassId) (f : hm) (t : Nat) (a : Nat) (n : Nat) (x : Nat → Int32) (ht : f t = some (.inr (5, [.ref a, .int (nI n)]))) (ha : f a = some (.inl (k 2, 120, .inl x))) (hn : n ≤ 120) : hm_Mi l D vwCl (tyL k) y_Text_hash (Cond.code y_Text_hash b_Text_hash 3 (some .int) :: TB) ({ frames := 0, cells := 0, slots := 0, locals := 0 }) [.ref t] f (fun (r : Int32) (f1 : hm) => z_hash x n n = r ∧ f = f1) 0 0 := by
  refine hm_enter (Qc := fun sz => va_Qi _ (hm_R D vwCl (tyL k) f sz) (hm_A f sz)) (by decide) rfl (Nat.le_of_ble_eq_true rfl) ?_
  intro p e s m below meth cd ls X0 hr hlk hin hK hM hS hA hl Q hQ
  have X : CallFix p m cd b_Text_hash 3 s ([.ref t] : List Value).toArray TB R_Text := ⟨X0.1, X0.2.1, X0.2.2.1, X0.2.2.2.1, fun w h => X0.2.2.2.2 w (List.mem_cons_of_mem _ h)⟩
  have hx := X.1; have hb := X.2.1; have hml := X.2.2.1; have hown := X.2.2.2.1; have hts := X.2.2.2.2
  have hl : lv_has ls 3 [(0, .ref t)] := hl
  refine lv_aload_n hx hb d_Text_hash_0 rfl (lv_at hl 0 rfl) ?_
  refine hm_get X hK hM ht fl_Text_15 (v := .int (nI n)) rfl d_Text_hash_1 ?_
  refine lv_istore_n (lv' := [(1, .int (nI n)), (0, .ref t)]) hx hb d_Text_hash_4 rfl hl (by decide) rfl (fun ls hl => ?_)
  refine lv_iconst (v := 0) hx hb d_Text_hash_5 (by decide) ?_
  refine lv_istore_n (lv' := [(2, .int 0), (1, .int (nI n)), (0, .ref t)]) hx hb d_Text_hash_6 rfl hl (by decide) rfl (fun ls hl => ?_)
  have loop7 : ∀ (fu : Nat) (j : Nat) (H : Heap) (locs : List Loc) (ls : Array Slot) (hmu : n - j < fu) (hj : j ≤ n) (hM : hm_W D vwCl (hm_A f s.heap.size) f H) (hS : va_S (hm_A f s.heap.size) s.heap H locs) (hl : lv_has ls 3 [(0, .ref t), (1, .int (z_hash x n j)), (2, .int (nI j))]), W p l e ({ frames := 0, cells := 0, slots := 0, locals := 0 }) s m ([.ref t] : List Value).toArray below meth cd H locs 0 0 Q (F0 m 7 ls []) := by
    intro fu
    induction fu with
    | zero => intro j H locs ls hmu; exact absurd hmu (Nat.not_lt_zero _)
    | succ fu ih =>
      intro j H locs ls hmu hj  hM hS hl
      refine lv_iload_n hx hb d_Text_hash_7 rfl (lv_at hl 2 rfl) ?_
      refine lv_aload_n hx hb d_Text_hash_8 rfl (lv_at hl 0 rfl) ?_
      refine hm_get X hK hM ht fl_Text_15 (v := .int (nI n)) rfl d_Text_hash_9 ?_
      refine lv_icmp_ge (tgt := 36) hx hb d_Text_hash_12 (by decide) (fun h1 => ?_) (fun h1 => ?_)
      · have hge : j = n := by have z := h1; rw [nI_leI (by omega) (by omega)] at z; omega
        subst hge
        refine lv_iload_n hx hb d_Text_hash_36 rfl (lv_at hl 1 rfl) ?_
        exact hm_iret X hQ hr hlk hK hM hS d_Text_hash_37 ⟨rfl, rfl⟩
      · have hlt : j < n := by have z := h1; rw [nI_leI (by omega) (by omega)] at z; omega
        refine lv_iload_n hx hb d_Text_hash_15 rfl (lv_at hl 1 rfl) ?_
        refine lv_ldc (v := 1000003) hx hb hown (hts _ wc_Text_39) d_Text_hash_16 ?_
        refine lv_imul hx hb d_Text_hash_18 ?_
        refine lv_aload_n hx hb d_Text_hash_19 rfl (lv_at hl 0 rfl) ?_
        refine hm_get X hK hM ht fl_Text_11 (v := .ref a) rfl d_Text_hash_20 ?_
        refine lv_iload_n hx hb d_Text_hash_23 rfl (lv_at hl 2 rfl) ?_
        refine hm_cald X hK hM ha 2 rfl j rfl (by omega) (by decide) d_Text_hash_24 ?_
        refine lv_iadd hx hb d_Text_hash_25 ?_
        refine lv_ldc (v := 1073741823) hx hb hown (hts _ wc_Text_40) d_Text_hash_26 ?_
        refine lv_iand hx hb d_Text_hash_28 ?_
        refine lv_istore_n (lv' := [(1, .int ((((z_hash x n j) * 1000003) + (x j)) &&& 1073741823)), (0, .ref t), (2, .int (nI j))]) hx hb d_Text_hash_29 rfl hl (by decide) rfl (fun ls hl => ?_)
        refine lv_iinc (lv' := [(2, .int (nI (j + 1))), (1, .int ((((z_hash x n j) * 1000003) + (x j)) &&& 1073741823)), (0, .ref t)]) hx hb d_Text_hash_30 hl (k := 2) rfl (hm_inc _) (by decide) rfl (fun ls hl => ?_)
        refine lv_goto (tgt := 7) hx hb d_Text_hash_33 (by decide) ?_
        exact ih (j + 1)  H locs ls (by omega) (by omega)  hM hS (lv_sub hl [2, 1, 0] rfl)
  exact loop7 _ 0  s.heap [] ls (Nat.lt_succ_self _) (Nat.zero_le _)  hM hS (lv_sub hl [2, 1, 0] rfl)
set_option maxHeartbeats 4000000 in
set_option maxRecDepth 100000 in
theorem c_challenge (l : Launch) (D : va_G) (k : Nat → ClassId) (f : hm) (h : Nat) (u : Nat → Int32) (ad : Nat → Nat) (n : Nat) (x : Nat → Int32) (hh : f h = some (.inr (0, gsV u ad))) (ht0 : f (ad 7) = some (.inr (5, [.ref (ad 17), .int (nI n)]))) (ha0 : f (ad 17) = some (.inl (k 2, 120, .inl x))) (hn : n ≤ 120) : hm_Mi l D vwCl (tyL k) y_GrantServer_challenge (Cond.code y_GrantServer_challenge b_GrantServer_challenge 1 (some .int) :: TB) ({ frames := 1, cells := 0, slots := 0, locals := 22 }) [.ref h] f (fun (r : Int32) (f1 : hm) => z_hash x n n = r ∧ f = f1) 0 0 := by
  refine hm_enter (Qc := fun sz => va_Qi _ (hm_R D vwCl (tyL k) f sz) (hm_A f sz)) (by decide) rfl (Nat.le_of_ble_eq_true rfl) ?_
  intro p e s m below meth cd ls X0 hr hlk hin hK hM hS hA hl Q hQ
  have X : CallFix p m cd b_GrantServer_challenge 1 s ([.ref h] : List Value).toArray TB R_GrantServer := ⟨X0.1, X0.2.1, X0.2.2.1, X0.2.2.2.1, fun w h => X0.2.2.2.2 w (List.mem_cons_of_mem _ h)⟩
  have hx := X.1; have hb := X.2.1; have hml := X.2.2.1; have hown := X.2.2.2.1; have hts := X.2.2.2.2
  have hl : lv_has ls 1 [(0, .ref h)] := hl
  refine lv_aload_n hx hb d_GrantServer_challenge_0 rfl (lv_at hl 0 rfl) ?_
  refine hm_get X hK hM hh fl_GrantServer_33 (v := .ref (ad 7)) rfl d_GrantServer_challenge_1 ?_
  refine hm_calli hS hM hA (va_runV (As := []) (rest := []) X (c_Text_hash l D k f (ad 7) (ad 17) n x ht0 ha0 hn s.heap.size) (hm_cwV hts me_Text_hash wl_GrantServer_143 rfl rfl ⟨Nat.le_of_ble_eq_true rfl, Nat.le_of_ble_eq_true rfl⟩) (hm_preV hM hK ht0 rfl) rfl rfl hl.1 rfl (lv_room (Nat.le_of_ble_eq_true rfl)) d_GrantServer_challenge_4 ⟨Nat.le_of_ble_eq_true rfl, Nat.le_of_ble_eq_true rfl⟩) (fun r3 f1 H locs p2 hM hS => ?_)
  obtain ⟨rfl, rfl⟩ := p2
  exact hm_iret X hQ hr hlk hK hM hS d_GrantServer_challenge_7 ⟨rfl, rfl⟩
set_option maxHeartbeats 4000000 in
set_option maxRecDepth 100000 in
theorem c_take_no (l : Launch) (D : va_G) (k : Nat → ClassId) (f : hm) (h : Nat) (u : Nat → Int32) (ad : Nat → Nat) (n : Nat) (x : Nat → Int32) (y : Int32) (hh : f h = some (.inr (0, gsV u ad))) (ht0 : f (ad 7) = some (.inr (5, [.ref (ad 17), .int (nI n)]))) (ha0 : f (ad 17) = some (.inl (k 2, 120, .inl x))) (hx9 : y = 0) : hm_Mi l D vwCl (tyL k) y_GrantServer_take (Cond.code y_GrantServer_take b_GrantServer_take 2 (some .int) :: TB) ({ frames := 1, cells := 0, slots := 0, locals := 20 }) [.ref h, .int y] f (fun (r : Int32) (f1 : hm) => 0 = r ∧ f1 (ad 7) = some (.inr (5, [.ref (ad 17), .int 0])) ∧ ∀ (zq : Nat) (zx : va_E), zq ≠ (ad 7) → f zq = some zx → f1 zq = some zx) 0 0 := by
  refine hm_enter (Qc := fun sz => va_Qi _ (hm_R D vwCl (tyL k) f sz) (hm_A f sz)) (by decide) rfl (Nat.le_of_ble_eq_true rfl) ?_
  intro p e s m below meth cd ls X0 hr hlk hin hK hM hS hA hl Q hQ
  have X : CallFix p m cd b_GrantServer_take 2 s ([.ref h, .int y] : List Value).toArray TB R_GrantServer := ⟨X0.1, X0.2.1, X0.2.2.1, X0.2.2.2.1, fun w h => X0.2.2.2.2 w (List.mem_cons_of_mem _ h)⟩
  have hx := X.1; have hb := X.2.1; have hml := X.2.2.1; have hown := X.2.2.2.1; have hts := X.2.2.2.2
  have hl : lv_has ls 2 [(0, .ref h), (1, .int y)] := hl
  refine lv_iload_n hx hb d_GrantServer_take_0 rfl (lv_at hl 1 rfl) ?_
  refine lv_if_eq (tgt := 18) hx hb d_GrantServer_take_1 (by decide) (fun h1 => ?_) (fun h1 => ?_)
  · refine lv_aload_n hx hb d_GrantServer_take_18 rfl (lv_at hl 0 rfl) ?_
    refine hm_get X hK hM hh fl_GrantServer_33 (v := .ref (ad 7)) rfl d_GrantServer_take_19 ?_
    refine hm_callv hS hM hA (va_runV (As := []) (rest := []) X (c_Text_clear l D k f (ad 7) (ad 17) (nI n) ht0  s.heap.size) (hm_cwV hts me_Text_clear wl_GrantServer_218 rfl rfl ⟨Nat.le_of_ble_eq_true rfl, Nat.le_of_ble_eq_true rfl⟩) (hm_preV hM hK ht0 rfl) rfl rfl hl.1 rfl (lv_room (Nat.le_of_ble_eq_true rfl)) d_GrantServer_take_22 ⟨Nat.le_of_ble_eq_true rfl, Nat.le_of_ble_eq_true rfl⟩) (fun f2 H locs p3 hM hS => ?_)
    obtain ⟨g4, hfr5⟩ := p3
    refine lv_aload_n hx hb d_GrantServer_take_25 rfl (lv_at hl 0 rfl) ?_
    have g6 : f2 h = some (.inr (0, gsV u ad)) := hfr5 _ _ (hm_neI hh ht0 (by decide)) hh
    refine hm_get X hK hM g6 fl_GrantServer_33 (v := .ref (ad 7)) rfl d_GrantServer_take_26 ?_
    have g7 : f2 (ad 17) = some (.inl (k 2, 120, .inl x)) := hfr5 _ _ ((hm_neA ht0 ha0).symm) ha0
    refine hm_calli hS hM hA (va_runV (As := []) (rest := []) X (c_Text_size l D k f2 (ad 7) (ad 17) 0 g4  H.size) (hm_cwV hts me_Text_size wl_GrantServer_221 rfl rfl ⟨Nat.le_of_ble_eq_true rfl, Nat.le_of_ble_eq_true rfl⟩) (hm_preV hM hK g4 rfl) rfl rfl hl.1 rfl (lv_room (Nat.le_of_ble_eq_true rfl)) d_GrantServer_take_29 ⟨Nat.le_of_ble_eq_true rfl, Nat.le_of_ble_eq_true rfl⟩) (fun r10 f8 H locs p9 hM hS => ?_)
    obtain ⟨rfl, rfl⟩ := p9
    exact hm_iret X hQ hr hlk hK hM hS d_GrantServer_take_32 ⟨rfl, g4, (fun zq zx n0 hq => by have t0 := hq; have t1 := hfr5 _ _ n0 t0; exact t1)⟩
  · exact absurd hx9 h1
set_option maxHeartbeats 4000000 in
set_option maxRecDepth 100000 in
theorem c_take (l : Launch) (D : va_G) (k : Nat → ClassId) (f : hm) (h : Nat) (u : Nat → Int32) (ad : Nat → Nat) (n : Nat) (x : Nat → Int32) (n2 : Nat) (x2 : Nat → Int32) (y : Int32) (hh : f h = some (.inr (0, gsV u ad))) (ht0 : f (ad 7) = some (.inr (5, [.ref (ad 17), .int (nI n)]))) (ha0 : f (ad 17) = some (.inl (k 2, 120, .inl x))) (ht1 : f (ad 8) = some (.inr (5, [.ref (ad 18), .int (nI n2)]))) (ha1 : f (ad 18) = some (.inl (k 2, 120, .inl x2))) (hap : gs_ap ad) (hx9 : ¬ y = 0) (hn : n2 ≤ 120) (hft : ∀ i, i < n2 → fits .char (.int (x2 i)) = true) : hm_Mi l D vwCl (tyL k) y_GrantServer_take (Cond.code y_GrantServer_take b_GrantServer_take 2 (some .int) :: TB) ({ frames := 2, cells := 0, slots := 0, locals := 61 }) [.ref h, .int y] f (fun (r : Int32) (f1 : hm) => nI n2 = r ∧ f1 (ad 7) = some (.inr (5, [.ref (ad 17), .int (nI n2)])) ∧ f1 (ad 17) = some (.inl (k 2, 120, .inl (va_cpy x2 x 0 0 n2))) ∧ ∀ (zq : Nat) (zx : va_E), zq ≠ (ad 7) → zq ≠ (ad 17) → f zq = some zx → f1 zq = some zx) 0 0 := by
  refine hm_enter (Qc := fun sz => va_Qi _ (hm_R D vwCl (tyL k) f sz) (hm_A f sz)) (by decide) rfl (Nat.le_of_ble_eq_true rfl) ?_
  intro p e s m below meth cd ls X0 hr hlk hin hK hM hS hA hl Q hQ
  have X : CallFix p m cd b_GrantServer_take 2 s ([.ref h, .int y] : List Value).toArray TB R_GrantServer := ⟨X0.1, X0.2.1, X0.2.2.1, X0.2.2.2.1, fun w h => X0.2.2.2.2 w (List.mem_cons_of_mem _ h)⟩
  have hx := X.1; have hb := X.2.1; have hml := X.2.2.1; have hown := X.2.2.2.1; have hts := X.2.2.2.2
  have hl : lv_has ls 2 [(0, .ref h), (1, .int y)] := hl
  refine lv_iload_n hx hb d_GrantServer_take_0 rfl (lv_at hl 1 rfl) ?_
  refine lv_if_eq (tgt := 18) hx hb d_GrantServer_take_1 (by decide) (fun h1 => ?_) (fun h1 => ?_)
  · exact absurd h1 hx9
  · refine lv_aload_n hx hb d_GrantServer_take_4 rfl (lv_at hl 0 rfl) ?_
    refine hm_get X hK hM hh fl_GrantServer_33 (v := .ref (ad 7)) rfl d_GrantServer_take_5 ?_
    refine lv_aload_n hx hb d_GrantServer_take_8 rfl (lv_at hl 0 rfl) ?_
    refine hm_get X hK hM hh fl_GrantServer_37 (v := .ref (ad 8)) rfl d_GrantServer_take_9 ?_
    refine hm_callv hS hM hA (va_runV (As := [.ref (ad 8)]) (rest := []) X (c_Text_copyFrom l D k f (ad 7) (ad 17) (nI n) x (ad 8) (ad 18) n2 x2 ht0 ha0 ht1 ha1 (fun z => absurd (hap 8 7 (by decide) (by decide) rfl rfl z) (by decide)) (fun z => absurd (hap 18 17 (by decide) (by decide) rfl rfl z) (by decide)) hn hft s.heap.size) (hm_cwV hts me_Text_copyFrom wl_GrantServer_214 rfl rfl ⟨Nat.le_of_ble_eq_true rfl, Nat.le_of_ble_eq_true rfl⟩) (hm_preV hM hK ht0 rfl) rfl rfl hl.1 rfl (lv_room (Nat.le_of_ble_eq_true rfl)) d_GrantServer_take_12 ⟨Nat.le_of_ble_eq_true rfl, Nat.le_of_ble_eq_true rfl⟩) (fun f2 H locs p3 hM hS => ?_)
    obtain ⟨g4, g5, hfr6⟩ := p3
    refine lv_goto (tgt := 25) hx hb d_GrantServer_take_15 (by decide) ?_
    refine lv_aload_n hx hb d_GrantServer_take_25 rfl (lv_at hl 0 rfl) ?_
    have g7 : f2 h = some (.inr (0, gsV u ad)) := hfr6 _ _ (hm_neI hh ht0 (by decide)) (hm_neA hh ha0) hh
    refine hm_get X hK hM g7 fl_GrantServer_33 (v := .ref (ad 7)) rfl d_GrantServer_take_26 ?_
    have g8 : f2 (ad 8) = some (.inr (5, [.ref (ad 18), .int (nI n2)])) := hfr6 _ _ (fun z => absurd (hap 8 7 (by decide) (by decide) rfl rfl z) (by decide)) (fun z => absurd (hap 8 17 (by decide) (by decide) rfl rfl z) (by decide)) ht1
    have g9 : f2 (ad 18) = some (.inl (k 2, 120, .inl x2)) := hfr6 _ _ (fun z => absurd (hap 18 7 (by decide) (by decide) rfl rfl z) (by decide)) (fun z => absurd (hap 18 17 (by decide) (by decide) rfl rfl z) (by decide)) ha1
    refine hm_calli hS hM hA (va_runV (As := []) (rest := []) X (c_Text_size l D k f2 (ad 7) (ad 17) (nI n2) g4  H.size) (hm_cwV hts me_Text_size wl_GrantServer_221 rfl rfl ⟨Nat.le_of_ble_eq_true rfl, Nat.le_of_ble_eq_true rfl⟩) (hm_preV hM hK g4 rfl) rfl rfl hl.1 rfl (lv_room (Nat.le_of_ble_eq_true rfl)) d_GrantServer_take_29 ⟨Nat.le_of_ble_eq_true rfl, Nat.le_of_ble_eq_true rfl⟩) (fun r12 f10 H locs p11 hM hS => ?_)
    obtain ⟨rfl, rfl⟩ := p11
    exact hm_iret X hQ hr hlk hK hM hS d_GrantServer_take_32 ⟨rfl, g4, g5, (fun zq zx n0 n1 hq => by have t0 := hq; have t1 := hfr6 _ _ n0 n1 t0; exact t1)⟩
set_option maxHeartbeats 4000000 in
set_option maxRecDepth 100000 in
theorem c_find (l : Launch) (D : va_G) (k : Nat → ClassId) (f : hm) (h : Nat) (a : Nat) (N : Nat) (u : Nat) (g : Nat → Option Nat) (w : Nat → Nat → Int32) (m1 : Nat → Option Nat) (x : Int32) (hh : f h = some (.inr (4, [.ref a, .int (nI u)]))) (ha : f a = some (.inl (k 3, N, .inr (.inr (.inr (.inr g)))))) (hu : u ≤ N) (hN : N ≤ 24) (hrows : ∀ i, i < u → ∃ q, g i = some q ∧ f q = some (.inr (3, gV (w i) (m1 i)))) : hm_Mq l D vwCl (tyL k) y_Shelf_find (Cond.code y_Shelf_find b_Shelf_find 3 (some (.object "GrantServer$Grant")) :: TB) ({ frames := 0, cells := 0, slots := 0, locals := 0 }) [.ref h, .int x] f (fun (r : Option Nat) (f1 : hm) => (z_fi w x u 0).bind g = r ∧ f = f1) 0 0 := by
  refine hm_enter (Qc := fun sz => va_Qq _ (hm_R D vwCl (tyL k) f sz) (hm_A f sz)) (by decide) rfl (Nat.le_of_ble_eq_true rfl) ?_
  intro p e s m below meth cd ls X0 hr hlk hin hK hM hS hA hl Q hQ
  have X : CallFix p m cd b_Shelf_find 3 s ([.ref h, .int x] : List Value).toArray TB R_Shelf := ⟨X0.1, X0.2.1, X0.2.2.1, X0.2.2.2.1, fun w h => X0.2.2.2.2 w (List.mem_cons_of_mem _ h)⟩
  have hx := X.1; have hb := X.2.1; have hml := X.2.2.1; have hown := X.2.2.2.1; have hts := X.2.2.2.2
  have hl : lv_has ls 3 [(0, .ref h), (1, .int x)] := hl
  refine lv_iconst (v := 0) hx hb d_Shelf_find_0 (by decide) ?_
  refine lv_istore_n (lv' := [(2, .int 0), (0, .ref h), (1, .int x)]) hx hb d_Shelf_find_1 rfl hl (by decide) rfl (fun ls hl => ?_)
  have loop2 : ∀ (fu : Nat) (j : Nat) (H : Heap) (locs : List Loc) (ls : Array Slot) (hmu : u - j < fu) (hj : j ≤ u) (hinv : z_fi w x u 0 = z_fi w x (u - j) j) (hM : hm_W D vwCl (hm_A f s.heap.size) f H) (hS : va_S (hm_A f s.heap.size) s.heap H locs) (hl : lv_has ls 3 [(0, .ref h), (1, .int x), (2, .int (nI j))]), W p l e ({ frames := 0, cells := 0, slots := 0, locals := 0 }) s m ([.ref h, .int x] : List Value).toArray below meth cd H locs 0 0 Q (F0 m 2 ls []) := by
    intro fu
    induction fu with
    | zero => intro j H locs ls hmu; exact absurd hmu (Nat.not_lt_zero _)
    | succ fu ih =>
      intro j H locs ls hmu hj hinv  hM hS hl
      refine lv_iload_n hx hb d_Shelf_find_2 rfl (lv_at hl 2 rfl) ?_
      refine lv_aload_n hx hb d_Shelf_find_3 rfl (lv_at hl 0 rfl) ?_
      refine hm_get X hK hM hh fl_Shelf_7 (v := .int (nI u)) rfl d_Shelf_find_4 ?_
      refine lv_icmp_ge (tgt := 36) hx hb d_Shelf_find_7 (by decide) (fun h1 => ?_) (fun h1 => ?_)
      · have hge : u ≤ j := by have z := h1; rw [nI_leI (by omega) (by omega)] at z; omega
        refine lv_null hx hb d_Shelf_find_36 ?_
        exact hm_aret X hQ hr (Or.inl ⟨_, rfl⟩) hlk hK hM hS none d_Shelf_find_37 ⟨(by rw [hinv, show u - j = 0 by omega]; rfl), rfl⟩
      · have hlt : j < u := by have z := h1; rw [nI_leI (by omega) (by omega)] at z; omega
        obtain ⟨q9, hq9, hf9⟩ := hrows j hlt
        refine lv_aload_n hx hb d_Shelf_find_10 rfl (lv_at hl 0 rfl) ?_
        refine hm_get X hK hM hh fl_Shelf_15 (v := .ref a) rfl d_Shelf_find_11 ?_
        refine lv_iload_n hx hb d_Shelf_find_14 rfl (lv_at hl 2 rfl) ?_
        refine hm_aald X hK hM ha 3 rfl j rfl (by omega) (by omega) d_Shelf_find_15 ?_
        refine hm_ref hq9 ?_
        refine hm_get X hK hM hf9 fl_Shelf_24 (v := .int ((w j) 0)) rfl d_Shelf_find_16 ?_
        refine lv_iload_n hx hb d_Shelf_find_19 rfl (lv_at hl 1 rfl) ?_
        refine lv_icmp_ne (tgt := 30) hx hb d_Shelf_find_20 (by decide) (fun h2 => ?_) (fun h2 => ?_)
        · refine lv_iinc (lv' := [(2, .int (nI (j + 1))), (0, .ref h), (1, .int x)]) hx hb d_Shelf_find_30 hl (k := 2) rfl (hm_inc _) (by decide) rfl (fun ls hl => ?_)
          refine lv_goto (tgt := 2) hx hb d_Shelf_find_33 (by decide) ?_
          exact ih (j + 1)  H locs ls (by omega) (by omega) (by rw [hinv, show u - j = (u - (j + 1)) + 1 by omega]; simp [z_fi, h1, Int32.not_le.mp h1, h2])  hM hS (lv_sub hl [1, 2, 0] rfl)
        · refine lv_aload_n hx hb d_Shelf_find_23 rfl (lv_at hl 0 rfl) ?_
          refine hm_get X hK hM hh fl_Shelf_15 (v := .ref a) rfl d_Shelf_find_24 ?_
          refine lv_iload_n hx hb d_Shelf_find_27 rfl (lv_at hl 2 rfl) ?_
          refine hm_aald X hK hM ha 3 rfl j rfl (by omega) (by omega) d_Shelf_find_28 ?_
          refine hm_ref hq9 ?_
          exact hm_aret X hQ hr (Or.inl ⟨_, rfl⟩) hlk hK hM hS (some q9) d_Shelf_find_29 ⟨(by rw [hinv, show u - j = (u - (j + 1)) + 1 by omega]; simp [z_fi, h1, Int32.not_le.mp h1, h2, hq9]), rfl⟩
  exact loop2 _ 0  s.heap [] ls (Nat.lt_succ_self _) (Nat.zero_le _) rfl  hM hS (lv_sub hl [1, 2, 0] rfl)
set_option maxHeartbeats 4000000 in
set_option maxRecDepth 100000 in
theorem c_findOwned_no (l : Launch) (D : va_G) (k : Nat → ClassId) (f : hm) (h : Nat) (a : Nat) (N : Nat) (u : Nat) (g : Nat → Option Nat) (w : Nat → Nat → Int32) (m1 : Nat → Option Nat) (x : Int32) (y : Int32) (hh : f h = some (.inr (4, [.ref a, .int (nI u)]))) (ha : f a = some (.inl (k 3, N, .inr (.inr (.inr (.inr g)))))) (hu : u ≤ N) (hN : N ≤ 24) (hrows : ∀ i, i < u → ∃ q, g i = some q ∧ f q = some (.inr (3, gV (w i) (m1 i)))) (hfi : z_fi w x u 0 = none) : hm_Mq l D vwCl (tyL k) y_Shelf_findOwned (Cond.code y_Shelf_findOwned b_Shelf_findOwned 4 (some (.object "GrantServer$Grant")) :: TB) ({ frames := 1, cells := 0, slots := 0, locals := 22 }) [.ref h, .int x, .int y] f (fun (r : Option Nat) (f1 : hm) => none = r ∧ f = f1) 0 0 := by
  refine hm_enter (Qc := fun sz => va_Qq _ (hm_R D vwCl (tyL k) f sz) (hm_A f sz)) (by decide) rfl (Nat.le_of_ble_eq_true rfl) ?_
  intro p e s m below meth cd ls X0 hr hlk hin hK hM hS hA hl Q hQ
  have X : CallFix p m cd b_Shelf_findOwned 4 s ([.ref h, .int x, .int y] : List Value).toArray TB R_Shelf := ⟨X0.1, X0.2.1, X0.2.2.1, X0.2.2.2.1, fun w h => X0.2.2.2.2 w (List.mem_cons_of_mem _ h)⟩
  have hx := X.1; have hb := X.2.1; have hml := X.2.2.1; have hown := X.2.2.2.1; have hts := X.2.2.2.2
  have hl : lv_has ls 4 [(0, .ref h), (1, .int x), (2, .int y)] := hl
  refine lv_aload_n hx hb d_Shelf_findOwned_0 rfl (lv_at hl 0 rfl) ?_
  refine lv_iload_n hx hb d_Shelf_findOwned_1 rfl (lv_at hl 1 rfl) ?_
  refine hm_callq hS hM hA (va_runV (As := [.int x]) (rest := []) X (c_find l D k f h a N u g w m1 x hh ha hu hN hrows s.heap.size) (hm_cwV hts me_Shelf_find wl_Shelf_27 rfl rfl ⟨Nat.le_of_ble_eq_true rfl, Nat.le_of_ble_eq_true rfl⟩) (hm_preV hM hK hh rfl) rfl rfl hl.1 rfl (lv_room (Nat.le_of_ble_eq_true rfl)) d_Shelf_findOwned_2 ⟨Nat.le_of_ble_eq_true rfl, Nat.le_of_ble_eq_true rfl⟩) (fun r3 f1 H locs p2 hM hS => ?_)
  obtain ⟨rfl, rfl⟩ := p2
  refine hm_topq (show (z_fi w x u 0).bind g = none by rw [hfi]; rfl) ?_
  refine lv_astore_nN (lv' := [(3, .null), (0, .ref h), (1, .int x), (2, .int y)]) hx hb d_Shelf_findOwned_5 rfl hl (by decide) rfl (fun ls hl => ?_)
  refine lv_aload_nN hx hb d_Shelf_findOwned_6 rfl (lv_at hl 0 rfl) ?_
  refine lv_ifnullN (tgt := 22) hx hb d_Shelf_findOwned_7 (by decide) ?_
  refine lv_null hx hb d_Shelf_findOwned_22 ?_
  exact hm_aret X hQ hr (Or.inl ⟨_, rfl⟩) hlk hK hM hS none d_Shelf_findOwned_23 ⟨rfl, rfl⟩
set_option maxHeartbeats 4000000 in
set_option maxRecDepth 100000 in
theorem c_findOwned (l : Launch) (D : va_G) (k : Nat → ClassId) (f : hm) (h : Nat) (a : Nat) (N : Nat) (u : Nat) (g : Nat → Option Nat) (w : Nat → Nat → Int32) (m1 : Nat → Option Nat) (i : Nat) (q : Nat) (x : Int32) (y : Int32) (hh : f h = some (.inr (4, [.ref a, .int (nI u)]))) (ha : f a = some (.inl (k 3, N, .inr (.inr (.inr (.inr g)))))) (hq : f q = some (.inr (3, gV (w i) (m1 i)))) (hu : u ≤ N) (hN : N ≤ 24) (hrows : ∀ i, i < u → ∃ q, g i = some q ∧ f q = some (.inr (3, gV (w i) (m1 i)))) (hfi : z_fi w x u 0 = some i) (hgq : g i = some q) (ho : w i 1 = y) : hm_Mq l D vwCl (tyL k) y_Shelf_findOwned (Cond.code y_Shelf_findOwned b_Shelf_findOwned 4 (some (.object "GrantServer$Grant")) :: TB) ({ frames := 1, cells := 0, slots := 0, locals := 22 }) [.ref h, .int x, .int y] f (fun (r : Option Nat) (f1 : hm) => some q = r ∧ f = f1) 0 0 := by
  refine hm_enter (Qc := fun sz => va_Qq _ (hm_R D vwCl (tyL k) f sz) (hm_A f sz)) (by decide) rfl (Nat.le_of_ble_eq_true rfl) ?_
  intro p e s m below meth cd ls X0 hr hlk hin hK hM hS hA hl Q hQ
  have X : CallFix p m cd b_Shelf_findOwned 4 s ([.ref h, .int x, .int y] : List Value).toArray TB R_Shelf := ⟨X0.1, X0.2.1, X0.2.2.1, X0.2.2.2.1, fun w h => X0.2.2.2.2 w (List.mem_cons_of_mem _ h)⟩
  have hx := X.1; have hb := X.2.1; have hml := X.2.2.1; have hown := X.2.2.2.1; have hts := X.2.2.2.2
  have hl : lv_has ls 4 [(0, .ref h), (1, .int x), (2, .int y)] := hl
  refine lv_aload_n hx hb d_Shelf_findOwned_0 rfl (lv_at hl 0 rfl) ?_
  refine lv_iload_n hx hb d_Shelf_findOwned_1 rfl (lv_at hl 1 rfl) ?_
  refine hm_callq hS hM hA (va_runV (As := [.int x]) (rest := []) X (c_find l D k f h a N u g w m1 x hh ha hu hN hrows s.heap.size) (hm_cwV hts me_Shelf_find wl_Shelf_27 rfl rfl ⟨Nat.le_of_ble_eq_true rfl, Nat.le_of_ble_eq_true rfl⟩) (hm_preV hM hK hh rfl) rfl rfl hl.1 rfl (lv_room (Nat.le_of_ble_eq_true rfl)) d_Shelf_findOwned_2 ⟨Nat.le_of_ble_eq_true rfl, Nat.le_of_ble_eq_true rfl⟩) (fun r3 f1 H locs p2 hM hS => ?_)
  obtain ⟨rfl, rfl⟩ := p2
  refine hm_topq (show (z_fi w x u 0).bind g = some q by rw [hfi]; exact hgq) ?_
  refine lv_astore_n (lv' := [(3, .ref q), (0, .ref h), (1, .int x), (2, .int y)]) hx hb d_Shelf_findOwned_5 rfl hl (by decide) rfl (fun ls hl => ?_)
  refine lv_aload_n hx hb d_Shelf_findOwned_6 rfl (lv_at hl 0 rfl) ?_
  refine lv_ifnull hx hb d_Shelf_findOwned_7 ?_
  refine lv_aload_n hx hb d_Shelf_findOwned_10 rfl (lv_at hl 0 rfl) ?_
  refine hm_get X hK hM hq fl_Shelf_31 (v := .int ((w i) 1)) rfl d_Shelf_findOwned_11 ?_
  refine lv_iload_n hx hb d_Shelf_findOwned_14 rfl (lv_at hl 3 rfl) ?_
  refine lv_icmp_ne (tgt := 22) hx hb d_Shelf_findOwned_15 (by decide) (fun h4 => ?_) (fun h4 => ?_)
  · exact absurd ho h4
  · refine lv_aload_n hx hb d_Shelf_findOwned_18 rfl (lv_at hl 0 rfl) ?_
    refine lv_goto (tgt := 23) hx hb d_Shelf_findOwned_19 (by decide) ?_
    exact hm_aret X hQ hr (Or.inl ⟨_, rfl⟩) hlk hK hM hS (some q) d_Shelf_findOwned_23 ⟨rfl, rfl⟩
set_option maxHeartbeats 4000000 in
set_option maxRecDepth 100000 in
theorem c_findOwned_bad (l : Launch) (D : va_G) (k : Nat → ClassId) (f : hm) (h : Nat) (a : Nat) (N : Nat) (u : Nat) (g : Nat → Option Nat) (w : Nat → Nat → Int32) (m1 : Nat → Option Nat) (i : Nat) (q : Nat) (x : Int32) (y : Int32) (hh : f h = some (.inr (4, [.ref a, .int (nI u)]))) (ha : f a = some (.inl (k 3, N, .inr (.inr (.inr (.inr g)))))) (hq : f q = some (.inr (3, gV (w i) (m1 i)))) (hu : u ≤ N) (hN : N ≤ 24) (hrows : ∀ i, i < u → ∃ q, g i = some q ∧ f q = some (.inr (3, gV (w i) (m1 i)))) (hfi : z_fi w x u 0 = some i) (hgq : g i = some q) (ho : ¬ w i 1 = y) : hm_Mq l D vwCl (tyL k) y_Shelf_findOwned (Cond.code y_Shelf_findOwned b_Shelf_findOwned 4 (some (.object "GrantServer$Grant")) :: TB) ({ frames := 1, cells := 0, slots := 0, locals := 22 }) [.ref h, .int x, .int y] f (fun (r : Option Nat) (f1 : hm) => none = r ∧ f = f1) 0 0 := by
  refine hm_enter (Qc := fun sz => va_Qq _ (hm_R D vwCl (tyL k) f sz) (hm_A f sz)) (by decide) rfl (Nat.le_of_ble_eq_true rfl) ?_
  intro p e s m below meth cd ls X0 hr hlk hin hK hM hS hA hl Q hQ
  have X : CallFix p m cd b_Shelf_findOwned 4 s ([.ref h, .int x, .int y] : List Value).toArray TB R_Shelf := ⟨X0.1, X0.2.1, X0.2.2.1, X0.2.2.2.1, fun w h => X0.2.2.2.2 w (List.mem_cons_of_mem _ h)⟩
  have hx := X.1; have hb := X.2.1; have hml := X.2.2.1; have hown := X.2.2.2.1; have hts := X.2.2.2.2
  have hl : lv_has ls 4 [(0, .ref h), (1, .int x), (2, .int y)] := hl
  refine lv_aload_n hx hb d_Shelf_findOwned_0 rfl (lv_at hl 0 rfl) ?_
  refine lv_iload_n hx hb d_Shelf_findOwned_1 rfl (lv_at hl 1 rfl) ?_
  refine hm_callq hS hM hA (va_runV (As := [.int x]) (rest := []) X (c_find l D k f h a N u g w m1 x hh ha hu hN hrows s.heap.size) (hm_cwV hts me_Shelf_find wl_Shelf_27 rfl rfl ⟨Nat.le_of_ble_eq_true rfl, Nat.le_of_ble_eq_true rfl⟩) (hm_preV hM hK hh rfl) rfl rfl hl.1 rfl (lv_room (Nat.le_of_ble_eq_true rfl)) d_Shelf_findOwned_2 ⟨Nat.le_of_ble_eq_true rfl, Nat.le_of_ble_eq_true rfl⟩) (fun r3 f1 H locs p2 hM hS => ?_)
  obtain ⟨rfl, rfl⟩ := p2
  refine hm_topq (show (z_fi w x u 0).bind g = some q by rw [hfi]; exact hgq) ?_
  refine lv_astore_n (lv' := [(3, .ref q), (0, .ref h), (1, .int x), (2, .int y)]) hx hb d_Shelf_findOwned_5 rfl hl (by decide) rfl (fun ls hl => ?_)
  refine lv_aload_n hx hb d_Shelf_findOwned_6 rfl (lv_at hl 0 rfl) ?_
  refine lv_ifnull hx hb d_Shelf_findOwned_7 ?_
  refine lv_aload_n hx hb d_Shelf_findOwned_10 rfl (lv_at hl 0 rfl) ?_
  refine hm_get X hK hM hq fl_Shelf_31 (v := .int ((w i) 1)) rfl d_Shelf_findOwned_11 ?_
  refine lv_iload_n hx hb d_Shelf_findOwned_14 rfl (lv_at hl 3 rfl) ?_
  refine lv_icmp_ne (tgt := 22) hx hb d_Shelf_findOwned_15 (by decide) (fun h4 => ?_) (fun h4 => ?_)
  · refine lv_null hx hb d_Shelf_findOwned_22 ?_
    exact hm_aret X hQ hr (Or.inl ⟨_, rfl⟩) hlk hK hM hS none d_Shelf_findOwned_23 ⟨rfl, rfl⟩
  · exact absurd h4 ho
set_option maxHeartbeats 4000000 in
set_option maxRecDepth 100000 in
theorem c_hasActive_no (l : Launch) (D : va_G) (k : Nat → ClassId) (f : hm) (h : Nat) (a : Nat) (N : Nat) (u : Nat) (g : Nat → Option Nat) (w : Nat → Nat → Int32) (m1 : Nat → Option Nat) (x : Int32) (y : Int32) (hh : f h = some (.inr (4, [.ref a, .int (nI u)]))) (ha : f a = some (.inl (k 3, N, .inr (.inr (.inr (.inr g)))))) (hu : u ≤ N) (hN : N ≤ 24) (hrows : ∀ i, i < u → ∃ q, g i = some q ∧ f q = some (.inr (3, gV (w i) (m1 i)))) (hfi : z_fi w x u 0 = none) : hm_Mi l D vwCl (tyL k) y_Shelf_hasActive (Cond.code y_Shelf_hasActive b_Shelf_hasActive 4 (some .boolean) :: TB) ({ frames := 1, cells := 0, slots := 0, locals := 22 }) [.ref h, .int x, .int y] f (fun (r : Int32) (f1 : hm) => 0 = r ∧ f = f1) 0 0 := by
  refine hm_enter (Qc := fun sz => va_Qi _ (hm_R D vwCl (tyL k) f sz) (hm_A f sz)) (by decide) rfl (Nat.le_of_ble_eq_true rfl) ?_
  intro p e s m below meth cd ls X0 hr hlk hin hK hM hS hA hl Q hQ
  have X : CallFix p m cd b_Shelf_hasActive 4 s ([.ref h, .int x, .int y] : List Value).toArray TB R_Shelf := ⟨X0.1, X0.2.1, X0.2.2.1, X0.2.2.2.1, fun w h => X0.2.2.2.2 w (List.mem_cons_of_mem _ h)⟩
  have hx := X.1; have hb := X.2.1; have hml := X.2.2.1; have hown := X.2.2.2.1; have hts := X.2.2.2.2
  have hl : lv_has ls 4 [(0, .ref h), (1, .int x), (2, .int y)] := hl
  refine lv_aload_n hx hb d_Shelf_hasActive_0 rfl (lv_at hl 0 rfl) ?_
  refine lv_iload_n hx hb d_Shelf_hasActive_1 rfl (lv_at hl 1 rfl) ?_
  refine hm_callq hS hM hA (va_runV (As := [.int x]) (rest := []) X (c_find l D k f h a N u g w m1 x hh ha hu hN hrows s.heap.size) (hm_cwV hts me_Shelf_find wl_Shelf_27 rfl rfl ⟨Nat.le_of_ble_eq_true rfl, Nat.le_of_ble_eq_true rfl⟩) (hm_preV hM hK hh rfl) rfl rfl hl.1 rfl (lv_room (Nat.le_of_ble_eq_true rfl)) d_Shelf_hasActive_2 ⟨Nat.le_of_ble_eq_true rfl, Nat.le_of_ble_eq_true rfl⟩) (fun r3 f1 H locs p2 hM hS => ?_)
  obtain ⟨rfl, rfl⟩ := p2
  refine hm_topq (show (z_fi w x u 0).bind g = none by rw [hfi]; rfl) ?_
  refine lv_astore_nN (lv' := [(3, .null), (0, .ref h), (1, .int x), (2, .int y)]) hx hb d_Shelf_hasActive_5 rfl hl (by decide) rfl (fun ls hl => ?_)
  refine lv_aload_nN hx hb d_Shelf_hasActive_6 rfl (lv_at hl 0 rfl) ?_
  refine lv_ifnullN (tgt := 22) hx hb d_Shelf_hasActive_7 (by decide) ?_
  refine lv_iconst (v := 0) hx hb d_Shelf_hasActive_22 (by decide) ?_
  exact hm_zret X hQ hr hlk hK hM hS rfl d_Shelf_hasActive_23 ⟨rfl, rfl⟩
set_option maxHeartbeats 4000000 in
set_option maxRecDepth 100000 in
theorem c_hasActive (l : Launch) (D : va_G) (k : Nat → ClassId) (f : hm) (h : Nat) (a : Nat) (N : Nat) (u : Nat) (g : Nat → Option Nat) (w : Nat → Nat → Int32) (m1 : Nat → Option Nat) (i : Nat) (q : Nat) (fs : Int32) (fa : Int32) (fv : Int32) (x : Int32) (y : Int32) (hh : f h = some (.inr (4, [.ref a, .int (nI u)]))) (ha : f a = some (.inl (k 3, N, .inr (.inr (.inr (.inr g)))))) (hq : f q = some (.inr (3, gV (w i) (m1 i)))) (hu : u ≤ N) (hN : N ≤ 24) (hrows : ∀ i, i < u → ∃ q, g i = some q ∧ f q = some (.inr (3, gV (w i) (m1 i)))) (hfi : z_fi w x u 0 = some i) (hgq : g i = some q) (hfam : ∀ z, m1 i = some z → f z = some (.inr (2, [.int fs, .int fa, .int fv]))) : hm_Mi l D vwCl (tyL k) y_Shelf_hasActive (Cond.code y_Shelf_hasActive b_Shelf_hasActive 4 (some .boolean) :: TB) ({ frames := 1, cells := 0, slots := 0, locals := 22 }) [.ref h, .int x, .int y] f (fun (r : Int32) (f1 : hm) => z_act (w i) (m1 i) fv y = r ∧ f = f1) 0 0 := by
  refine hm_enter (Qc := fun sz => va_Qi _ (hm_R D vwCl (tyL k) f sz) (hm_A f sz)) (by decide) rfl (Nat.le_of_ble_eq_true rfl) ?_
  intro p e s m below meth cd ls X0 hr hlk hin hK hM hS hA hl Q hQ
  have X : CallFix p m cd b_Shelf_hasActive 4 s ([.ref h, .int x, .int y] : List Value).toArray TB R_Shelf := ⟨X0.1, X0.2.1, X0.2.2.1, X0.2.2.2.1, fun w h => X0.2.2.2.2 w (List.mem_cons_of_mem _ h)⟩
  have hx := X.1; have hb := X.2.1; have hml := X.2.2.1; have hown := X.2.2.2.1; have hts := X.2.2.2.2
  have hl : lv_has ls 4 [(0, .ref h), (1, .int x), (2, .int y)] := hl
  refine lv_aload_n hx hb d_Shelf_hasActive_0 rfl (lv_at hl 0 rfl) ?_
  refine lv_iload_n hx hb d_Shelf_hasActive_1 rfl (lv_at hl 1 rfl) ?_
  refine hm_callq hS hM hA (va_runV (As := [.int x]) (rest := []) X (c_find l D k f h a N u g w m1 x hh ha hu hN hrows s.heap.size) (hm_cwV hts me_Shelf_find wl_Shelf_27 rfl rfl ⟨Nat.le_of_ble_eq_true rfl, Nat.le_of_ble_eq_true rfl⟩) (hm_preV hM hK hh rfl) rfl rfl hl.1 rfl (lv_room (Nat.le_of_ble_eq_true rfl)) d_Shelf_hasActive_2 ⟨Nat.le_of_ble_eq_true rfl, Nat.le_of_ble_eq_true rfl⟩) (fun r3 f1 H locs p2 hM hS => ?_)
  obtain ⟨rfl, rfl⟩ := p2
  refine hm_topq (show (z_fi w x u 0).bind g = some q by rw [hfi]; exact hgq) ?_
  refine lv_astore_n (lv' := [(3, .ref q), (0, .ref h), (1, .int x), (2, .int y)]) hx hb d_Shelf_hasActive_5 rfl hl (by decide) rfl (fun ls hl => ?_)
  refine lv_aload_n hx hb d_Shelf_hasActive_6 rfl (lv_at hl 0 rfl) ?_
  refine lv_ifnull hx hb d_Shelf_hasActive_7 ?_
  refine lv_aload_n hx hb d_Shelf_hasActive_10 rfl (lv_at hl 0 rfl) ?_
  refine lv_iload_n hx hb d_Shelf_hasActive_11 rfl (lv_at hl 3 rfl) ?_
  refine hm_calli hS hM hA (va_runV (As := [.int y]) (rest := []) X (c_Grant_isActive l D k f q (w i) (m1 i) fs fa fv y hq hfam H.size) (hm_cwV hts me_Grant_isActive wl_Shelf_34 rfl rfl ⟨Nat.le_of_ble_eq_true rfl, Nat.le_of_ble_eq_true rfl⟩) (hm_preV hM hK hq rfl) rfl rfl hl.1 rfl (lv_room (Nat.le_of_ble_eq_true rfl)) d_Shelf_hasActive_12 ⟨Nat.le_of_ble_eq_true rfl, Nat.le_of_ble_eq_true rfl⟩) (fun r6 f4 H locs p5 hM hS => ?_)
  obtain ⟨rfl, rfl⟩ := p5
  refine lv_if_eq (tgt := 22) hx hb d_Shelf_hasActive_15 (by decide) (fun h7 => ?_) (fun h7 => ?_)
  · refine lv_iconst (v := 0) hx hb d_Shelf_hasActive_22 (by decide) ?_
    exact hm_zret X hQ hr hlk hK hM hS rfl d_Shelf_hasActive_23 ⟨h7, rfl⟩
  · refine lv_iconst (v := 1) hx hb d_Shelf_hasActive_18 (by decide) ?_
    refine lv_goto (tgt := 23) hx hb d_Shelf_hasActive_19 (by decide) ?_
    exact hm_zret X hQ hr hlk hK hM hS rfl d_Shelf_hasActive_23 ⟨(z_act_b h7), rfl⟩
set_option maxHeartbeats 4000000 in
set_option maxRecDepth 100000 in
theorem c_activeRows (l : Launch) (D : va_G) (k : Nat → ClassId) (f : hm) (h : Nat) (a : Nat) (N : Nat) (u : Nat) (g : Nat → Option Nat) (w : Nat → Nat → Int32) (m1 : Nat → Option Nat) (fs : Nat → Int32) (fa : Nat → Int32) (fv : Nat → Int32) (x : Int32) (hh : f h = some (.inr (4, [.ref a, .int (nI u)]))) (ha : f a = some (.inl (k 3, N, .inr (.inr (.inr (.inr g)))))) (hu : u ≤ N) (hN : N ≤ 24) (hrows : ∀ i, i < u → ∃ q, g i = some q ∧ f q = some (.inr (3, gV (w i) (m1 i)))) (hfam : ∀ i, i < u → ∀ z, m1 i = some z → f z = some (.inr (2, [.int (fs i), .int (fa i), .int (fv i)]))) : hm_Mi l D vwCl (tyL k) y_Shelf_activeRows (Cond.code y_Shelf_activeRows b_Shelf_activeRows 4 (some .int) :: TB) ({ frames := 1, cells := 0, slots := 0, locals := 21 }) [.ref h, .int x] f (fun (r : Int32) (f1 : hm) => nI (z_cn w m1 fv x u) = r ∧ f = f1) 0 0 := by
  refine hm_enter (Qc := fun sz => va_Qi _ (hm_R D vwCl (tyL k) f sz) (hm_A f sz)) (by decide) rfl (Nat.le_of_ble_eq_true rfl) ?_
  intro p e s m below meth cd ls X0 hr hlk hin hK hM hS hA hl Q hQ
  have X : CallFix p m cd b_Shelf_activeRows 4 s ([.ref h, .int x] : List Value).toArray TB R_Shelf := ⟨X0.1, X0.2.1, X0.2.2.1, X0.2.2.2.1, fun w h => X0.2.2.2.2 w (List.mem_cons_of_mem _ h)⟩
  have hx := X.1; have hb := X.2.1; have hml := X.2.2.1; have hown := X.2.2.2.1; have hts := X.2.2.2.2
  have hl : lv_has ls 4 [(0, .ref h), (1, .int x)] := hl
  refine lv_iconst (v := 0) hx hb d_Shelf_activeRows_0 (by decide) ?_
  refine lv_istore_n (lv' := [(2, .int 0), (0, .ref h), (1, .int x)]) hx hb d_Shelf_activeRows_1 rfl hl (by decide) rfl (fun ls hl => ?_)
  refine lv_iconst (v := 0) hx hb d_Shelf_activeRows_2 (by decide) ?_
  refine lv_istore_n (lv' := [(3, .int 0), (2, .int 0), (0, .ref h), (1, .int x)]) hx hb d_Shelf_activeRows_3 rfl hl (by decide) rfl (fun ls hl => ?_)
  have loop4 : ∀ (fu : Nat) (j : Nat) (H : Heap) (locs : List Loc) (ls : Array Slot) (hmu : u - j < fu) (hj : j ≤ u) (hM : hm_W D vwCl (hm_A f s.heap.size) f H) (hS : va_S (hm_A f s.heap.size) s.heap H locs) (hl : lv_has ls 4 [(0, .ref h), (1, .int x), (2, .int (nI (z_cn w m1 fv x j))), (3, .int (nI j))]), W p l e ({ frames := 1, cells := 0, slots := 0, locals := 21 }) s m ([.ref h, .int x] : List Value).toArray below meth cd H locs 0 0 Q (F0 m 4 ls []) := by
    intro fu
    induction fu with
    | zero => intro j H locs ls hmu; exact absurd hmu (Nat.not_lt_zero _)
    | succ fu ih =>
      intro j H locs ls hmu hj  hM hS hl
      refine lv_iload_n hx hb d_Shelf_activeRows_4 rfl (lv_at hl 3 rfl) ?_
      refine lv_aload_n hx hb d_Shelf_activeRows_5 rfl (lv_at hl 0 rfl) ?_
      refine hm_get X hK hM hh fl_Shelf_7 (v := .int (nI u)) rfl d_Shelf_activeRows_6 ?_
      refine lv_icmp_ge (tgt := 34) hx hb d_Shelf_activeRows_9 (by decide) (fun h1 => ?_) (fun h1 => ?_)
      · have hge : j = u := by have z := h1; rw [nI_leI (by omega) (by omega)] at z; omega
        subst hge
        refine lv_iload_n hx hb d_Shelf_activeRows_34 rfl (lv_at hl 2 rfl) ?_
        exact hm_iret X hQ hr hlk hK hM hS d_Shelf_activeRows_35 ⟨rfl, rfl⟩
      · have hlt : j < u := by have z := h1; rw [nI_leI (by omega) (by omega)] at z; omega
        obtain ⟨q9, hq9, hf9⟩ := hrows j hlt
        refine lv_aload_n hx hb d_Shelf_activeRows_12 rfl (lv_at hl 0 rfl) ?_
        refine hm_get X hK hM hh fl_Shelf_15 (v := .ref a) rfl d_Shelf_activeRows_13 ?_
        refine lv_iload_n hx hb d_Shelf_activeRows_16 rfl (lv_at hl 3 rfl) ?_
        refine hm_aald X hK hM ha 3 rfl j rfl (by omega) (by omega) d_Shelf_activeRows_17 ?_
        refine hm_ref hq9 ?_
        refine lv_iload_n hx hb d_Shelf_activeRows_18 rfl (lv_at hl 1 rfl) ?_
        refine hm_calli hS hM hA (va_runV (As := [.int x]) (rest := []) X (c_Grant_isActive l D k f q9 (w j) (m1 j) (fs j) (fa j) (fv j) x hf9 (hfam j hlt) H.size) (hm_cwV hts me_Grant_isActive wl_Shelf_34 rfl rfl ⟨Nat.le_of_ble_eq_true rfl, Nat.le_of_ble_eq_true rfl⟩) (hm_preV hM hK hf9 rfl) rfl rfl hl.1 rfl (lv_room (Nat.le_of_ble_eq_true rfl)) d_Shelf_activeRows_19 ⟨Nat.le_of_ble_eq_true rfl, Nat.le_of_ble_eq_true rfl⟩) (fun r4 f2 H locs p3 hM hS => ?_)
        obtain ⟨rfl, rfl⟩ := p3
        refine lv_if_eq (tgt := 28) hx hb d_Shelf_activeRows_22 (by decide) (fun h5 => ?_) (fun h5 => ?_)
        · refine lv_iinc (lv' := [(3, .int (nI (j + 1))), (0, .ref h), (1, .int x), (2, .int (nI (z_cn w m1 fv x j)))]) hx hb d_Shelf_activeRows_28 hl (k := 3) rfl (hm_inc _) (by decide) rfl (fun ls hl => ?_)
          refine lv_goto (tgt := 4) hx hb d_Shelf_activeRows_31 (by decide) ?_
          have e9 : z_cn w m1 fv x (j + 1) = z_cn w m1 fv x j := by simp [z_cn, h5]
          rw [← e9] at hl
          exact ih (j + 1)  H locs ls (by omega) (by omega)  hM hS (lv_sub hl [1, 2, 3, 0] rfl)
        · refine lv_iinc (lv' := [(2, .int (nI (z_cn w m1 fv x (j + 1)))), (0, .ref h), (1, .int x), (3, .int (nI j))]) hx hb d_Shelf_activeRows_25 hl (k := 2) rfl (by rw [hm_inc]; simp [z_cn, h5]) (by decide) rfl (fun ls hl => ?_)
          refine lv_iinc (lv' := [(3, .int (nI (j + 1))), (2, .int (nI (z_cn w m1 fv x (j + 1)))), (0, .ref h), (1, .int x)]) hx hb d_Shelf_activeRows_28 hl (k := 3) rfl (hm_inc _) (by decide) rfl (fun ls hl => ?_)
          refine lv_goto (tgt := 4) hx hb d_Shelf_activeRows_31 (by decide) ?_
          exact ih (j + 1)  H locs ls (by omega) (by omega)  hM hS (lv_sub hl [2, 3, 1, 0] rfl)
  exact loop4 _ 0  s.heap [] ls (Nat.lt_succ_self _) (Nat.zero_le _)  hM hS (lv_sub hl [2, 3, 1, 0] rfl)
set_option maxHeartbeats 4000000 in
set_option maxRecDepth 100000 in
theorem c_shelfOf (l : Launch) (D : va_G) (k : Nat → ClassId) (f : hm) (h : Nat) (u : Nat → Int32) (ad : Nat → Nat) (x : Int32) (hh : f h = some (.inr (0, gsV u ad))) : hm_Mq l D vwCl (tyL k) y_GrantServer_shelfOf (Cond.code y_GrantServer_shelfOf b_GrantServer_shelfOf 2 (some (.object "GrantServer$Shelf")) :: TB) ({ frames := 0, cells := 0, slots := 0, locals := 0 }) [.ref h, .int x] f (fun (r : Option Nat) (f1 : hm) => z_shelf ad x = r ∧ f = f1) 0 0 := by
  refine hm_enter (Qc := fun sz => va_Qq _ (hm_R D vwCl (tyL k) f sz) (hm_A f sz)) (by decide) rfl (Nat.le_of_ble_eq_true rfl) ?_
  intro p e s m below meth cd ls X0 hr hlk hin hK hM hS hA hl Q hQ
  have X : CallFix p m cd b_GrantServer_shelfOf 2 s ([.ref h, .int x] : List Value).toArray TB R_GrantServer := ⟨X0.1, X0.2.1, X0.2.2.1, X0.2.2.2.1, fun w h => X0.2.2.2.2 w (List.mem_cons_of_mem _ h)⟩
  have hx := X.1; have hb := X.2.1; have hml := X.2.2.1; have hown := X.2.2.2.1; have hts := X.2.2.2.2
  have hl : lv_has ls 2 [(0, .ref h), (1, .int x)] := hl
  refine lv_iload_n hx hb d_GrantServer_shelfOf_0 rfl (lv_at hl 1 rfl) ?_
  by_cases h1 : x = 0
  · refine lv_tableIn (tgt := 28) hx hb d_GrantServer_shelfOf_1 (by rw [h1]; decide) (by rw [h1]; decide) (by rw [h1]; rfl) (by decide) ?_
    refine lv_aload_n hx hb d_GrantServer_shelfOf_28 rfl (lv_at hl 0 rfl) ?_
    refine hm_get X hK hM hh fl_GrantServer_20 (v := .ref (ad 4)) rfl d_GrantServer_shelfOf_29 ?_
    exact hm_aret X hQ hr (Or.inl ⟨_, rfl⟩) hlk hK hM hS (some (ad 4)) d_GrantServer_shelfOf_32 ⟨(by simp [z_shelf, h1]), rfl⟩
  by_cases h2 : x = 1
  · refine lv_tableIn (tgt := 33) hx hb d_GrantServer_shelfOf_1 (by rw [h2]; decide) (by rw [h2]; decide) (by rw [h2]; rfl) (by decide) ?_
    refine lv_aload_n hx hb d_GrantServer_shelfOf_33 rfl (lv_at hl 0 rfl) ?_
    refine hm_get X hK hM hh fl_GrantServer_24 (v := .ref (ad 5)) rfl d_GrantServer_shelfOf_34 ?_
    exact hm_aret X hQ hr (Or.inl ⟨_, rfl⟩) hlk hK hM hS (some (ad 5)) d_GrantServer_shelfOf_37 ⟨(by simp [z_shelf, h1, h2]), rfl⟩
  by_cases h3 : x = 2
  · refine lv_tableIn (tgt := 38) hx hb d_GrantServer_shelfOf_1 (by rw [h3]; decide) (by rw [h3]; decide) (by rw [h3]; rfl) (by decide) ?_
    refine lv_aload_n hx hb d_GrantServer_shelfOf_38 rfl (lv_at hl 0 rfl) ?_
    refine hm_get X hK hM hh fl_GrantServer_27 (v := .ref (ad 6)) rfl d_GrantServer_shelfOf_39 ?_
    exact hm_aret X hQ hr (Or.inl ⟨_, rfl⟩) hlk hK hM hS (some (ad 6)) d_GrantServer_shelfOf_42 ⟨(by simp [z_shelf, h1, h2, h3]), rfl⟩
  refine lv_tableOut (tgt := 43) hx hb d_GrantServer_shelfOf_1 (hm_sw3 h1 h2 h3) (by decide) ?_
  refine lv_null hx hb d_GrantServer_shelfOf_43 ?_
  exact hm_aret X hQ hr (Or.inl ⟨_, rfl⟩) hlk hK hM hS none d_GrantServer_shelfOf_44 ⟨(by simp [z_shelf, h1, h2, h3]), rfl⟩
set_option maxHeartbeats 4000000 in
set_option maxRecDepth 100000 in
theorem c_authorize_no (l : Launch) (D : va_G) (k : Nat → ClassId) (f : hm) (h : Nat) (u : Nat → Int32) (ad : Nat → Nat) (n : Nat) (x : Int32) (b : Int32) (d : Int32) (g : Int32) (y : Int32) (hh : f h = some (.inr (0, gsV u ad))) (hn : u 12 = nI n) (hx9 : x < 0 ∨ nI n ≤ x) : hm_Mi l D vwCl (tyL k) y_GrantServer_authorize (Cond.code y_GrantServer_authorize b_GrantServer_authorize 8 (some .int) :: TB) ({ frames := 1, cells := 0, slots := 0, locals := 21 }) [.ref h, .int x, .int b, .int d, .int g, .int y] f (fun (r : Int32) (f1 : hm) => (-1) = r ∧ f = f1) 0 0 := by
  refine hm_enter (Qc := fun sz => va_Qi _ (hm_R D vwCl (tyL k) f sz) (hm_A f sz)) (by decide) rfl (Nat.le_of_ble_eq_true rfl) ?_
  intro p e s m below meth cd ls X0 hr hlk hin hK hM hS hA hl Q hQ
  have X : CallFix p m cd b_GrantServer_authorize 8 s ([.ref h, .int x, .int b, .int d, .int g, .int y] : List Value).toArray TB R_GrantServer := ⟨X0.1, X0.2.1, X0.2.2.1, X0.2.2.2.1, fun w h => X0.2.2.2.2 w (List.mem_cons_of_mem _ h)⟩
  have hx := X.1; have hb := X.2.1; have hml := X.2.2.1; have hown := X.2.2.2.1; have hts := X.2.2.2.2
  have hl : lv_has ls 8 [(0, .ref h), (1, .int x), (2, .int b), (3, .int d), (4, .int g), (5, .int y)] := hl
  refine lv_aload_n hx hb d_GrantServer_authorize_0 rfl (lv_at hl 0 rfl) ?_
  refine lv_iload_n hx hb d_GrantServer_authorize_1 rfl (lv_at hl 1 rfl) ?_
  refine hm_callq hS hM hA (va_runV (As := [.int x]) (rest := []) X (c_clientWith_no l D k f h u ad n x hh hn hx9 s.heap.size) (hm_cwV hts me_GrantServer_clientWith wl_GrantServer_90 rfl rfl ⟨Nat.le_of_ble_eq_true rfl, Nat.le_of_ble_eq_true rfl⟩) (hm_preV hM hK hh rfl) rfl rfl hl.1 rfl (lv_room (Nat.le_of_ble_eq_true rfl)) d_GrantServer_authorize_2 ⟨Nat.le_of_ble_eq_true rfl, Nat.le_of_ble_eq_true rfl⟩) (fun r3 f1 H locs p2 hM hS => ?_)
  obtain ⟨rfl, rfl⟩ := p2
  refine lv_astoreN (lv' := [(6, .null), (0, .ref h), (1, .int x), (2, .int b), (3, .int d), (4, .int g), (5, .int y)]) hx hb d_GrantServer_authorize_5 hl (by decide) rfl (fun ls hl => ?_)
  refine lv_aloadN hx hb d_GrantServer_authorize_7 (lv_at hl 0 rfl) ?_
  refine lv_ifnullN (tgt := 24) hx hb d_GrantServer_authorize_9 (by decide) ?_
  refine lv_iconst (v := (-1)) hx hb d_GrantServer_authorize_24 (by decide) ?_
  exact hm_iret X hQ hr hlk hK hM hS d_GrantServer_authorize_25 ⟨rfl, rfl⟩
set_option maxHeartbeats 4000000 in
set_option maxRecDepth 100000 in
theorem c_exchange_no (l : Launch) (D : va_G) (k : Nat → ClassId) (f : hm) (h : Nat) (u : Nat → Int32) (ad : Nat → Nat) (a : Int32) (b : Int32) (d : Int32) (g : Int32) (hh : f h = some (.inr (0, gsV u ad))) (hx9 : u 13 = -1) : hm_Mi l D vwCl (tyL k) y_GrantServer_exchange (Cond.code y_GrantServer_exchange b_GrantServer_exchange 8 (some .int) :: TB) ({ frames := 0, cells := 0, slots := 0, locals := 0 }) [.ref h, .int a, .int b, .int d, .int g] f (fun (r : Int32) (f1 : hm) => (-2) = r ∧ f = f1) 0 0 := by
  refine hm_enter (Qc := fun sz => va_Qi _ (hm_R D vwCl (tyL k) f sz) (hm_A f sz)) (by decide) rfl (Nat.le_of_ble_eq_true rfl) ?_
  intro p e s m below meth cd ls X0 hr hlk hin hK hM hS hA hl Q hQ
  have X : CallFix p m cd b_GrantServer_exchange 8 s ([.ref h, .int a, .int b, .int d, .int g] : List Value).toArray TB R_GrantServer := ⟨X0.1, X0.2.1, X0.2.2.1, X0.2.2.2.1, fun w h => X0.2.2.2.2 w (List.mem_cons_of_mem _ h)⟩
  have hx := X.1; have hb := X.2.1; have hml := X.2.2.1; have hown := X.2.2.2.1; have hts := X.2.2.2.2
  have hl : lv_has ls 8 [(0, .ref h), (1, .int a), (2, .int b), (3, .int d), (4, .int g)] := hl
  refine lv_aload_n hx hb d_GrantServer_exchange_0 rfl (lv_at hl 0 rfl) ?_
  refine hm_get X hK hM hh fl_GrantServer_54 (v := .int (u 13)) rfl d_GrantServer_exchange_1 ?_
  refine lv_iconst (v := (-1)) hx hb d_GrantServer_exchange_4 (by decide) ?_
  refine lv_icmp_ne (tgt := 11) hx hb d_GrantServer_exchange_5 (by decide) (fun h1 => ?_) (fun h1 => ?_)
  · exact absurd hx9 h1
  · refine lv_bipush (v := (-2)) hx hb d_GrantServer_exchange_8 (by decide) ?_
    exact hm_iret X hQ hr hlk hK hM hS d_GrantServer_exchange_10 ⟨rfl, rfl⟩
set_option maxHeartbeats 4000000 in
set_option maxRecDepth 100000 in
theorem c_refresh_no (l : Launch) (D : va_G) (k : Nat → ClassId) (f : hm) (h : Nat) (u : Nat → Int32) (ad : Nat → Nat) (a : Int32) (b : Int32) (d : Int32) (hh : f h = some (.inr (0, gsV u ad))) (hx9 : u 13 = -1) : hm_Mi l D vwCl (tyL k) y_GrantServer_refresh (Cond.code y_GrantServer_refresh b_GrantServer_refresh 7 (some .int) :: TB) ({ frames := 0, cells := 0, slots := 0, locals := 0 }) [.ref h, .int a, .int b, .int d] f (fun (r : Int32) (f1 : hm) => (-2) = r ∧ f = f1) 0 0 := by
  refine hm_enter (Qc := fun sz => va_Qi _ (hm_R D vwCl (tyL k) f sz) (hm_A f sz)) (by decide) rfl (Nat.le_of_ble_eq_true rfl) ?_
  intro p e s m below meth cd ls X0 hr hlk hin hK hM hS hA hl Q hQ
  have X : CallFix p m cd b_GrantServer_refresh 7 s ([.ref h, .int a, .int b, .int d] : List Value).toArray TB R_GrantServer := ⟨X0.1, X0.2.1, X0.2.2.1, X0.2.2.2.1, fun w h => X0.2.2.2.2 w (List.mem_cons_of_mem _ h)⟩
  have hx := X.1; have hb := X.2.1; have hml := X.2.2.1; have hown := X.2.2.2.1; have hts := X.2.2.2.2
  have hl : lv_has ls 7 [(0, .ref h), (1, .int a), (2, .int b), (3, .int d)] := hl
  refine lv_aload_n hx hb d_GrantServer_refresh_0 rfl (lv_at hl 0 rfl) ?_
  refine hm_get X hK hM hh fl_GrantServer_54 (v := .int (u 13)) rfl d_GrantServer_refresh_1 ?_
  refine lv_iconst (v := (-1)) hx hb d_GrantServer_refresh_4 (by decide) ?_
  refine lv_icmp_ne (tgt := 11) hx hb d_GrantServer_refresh_5 (by decide) (fun h1 => ?_) (fun h1 => ?_)
  · exact absurd hx9 h1
  · refine lv_bipush (v := (-2)) hx hb d_GrantServer_refresh_8 (by decide) ?_
    exact hm_iret X hQ hr hlk hK hM hS d_GrantServer_refresh_10 ⟨rfl, rfl⟩
set_option maxHeartbeats 4000000 in
set_option maxRecDepth 100000 in
theorem c_revoke_no (l : Launch) (D : va_G) (k : Nat → ClassId) (f : hm) (h : Nat) (u : Nat → Int32) (ad : Nat → Nat) (a : Int32) (b : Int32) (hh : f h = some (.inr (0, gsV u ad))) (hx9 : u 13 = -1) : hm_Mi l D vwCl (tyL k) y_GrantServer_revoke (Cond.code y_GrantServer_revoke b_GrantServer_revoke 4 (some .int) :: TB) ({ frames := 0, cells := 0, slots := 0, locals := 0 }) [.ref h, .int a, .int b] f (fun (r : Int32) (f1 : hm) => (-2) = r ∧ f = f1) 0 0 := by
  refine hm_enter (Qc := fun sz => va_Qi _ (hm_R D vwCl (tyL k) f sz) (hm_A f sz)) (by decide) rfl (Nat.le_of_ble_eq_true rfl) ?_
  intro p e s m below meth cd ls X0 hr hlk hin hK hM hS hA hl Q hQ
  have X : CallFix p m cd b_GrantServer_revoke 4 s ([.ref h, .int a, .int b] : List Value).toArray TB R_GrantServer := ⟨X0.1, X0.2.1, X0.2.2.1, X0.2.2.2.1, fun w h => X0.2.2.2.2 w (List.mem_cons_of_mem _ h)⟩
  have hx := X.1; have hb := X.2.1; have hml := X.2.2.1; have hown := X.2.2.2.1; have hts := X.2.2.2.2
  have hl : lv_has ls 4 [(0, .ref h), (1, .int a), (2, .int b)] := hl
  refine lv_aload_n hx hb d_GrantServer_revoke_0 rfl (lv_at hl 0 rfl) ?_
  refine hm_get X hK hM hh fl_GrantServer_54 (v := .int (u 13)) rfl d_GrantServer_revoke_1 ?_
  refine lv_iconst (v := (-1)) hx hb d_GrantServer_revoke_4 (by decide) ?_
  refine lv_icmp_ne (tgt := 11) hx hb d_GrantServer_revoke_5 (by decide) (fun h1 => ?_) (fun h1 => ?_)
  · exact absurd hx9 h1
  · refine lv_bipush (v := (-2)) hx hb d_GrantServer_revoke_8 (by decide) ?_
    exact hm_iret X hQ hr hlk hK hM hS d_GrantServer_revoke_10 ⟨rfl, rfl⟩
