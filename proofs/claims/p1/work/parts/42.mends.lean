theorem d_GrantServerModel_authorize_0 : decode b_GrantServerModel_authorize 0 = .ok (.aload_n 0, 1) := by decide +kernel
theorem d_GrantServerModel_authorize_1 : decode b_GrantServerModel_authorize 1 = .ok (.iload_n 1, 1) := by decide +kernel
theorem d_GrantServerModel_authorize_2 : decode b_GrantServerModel_authorize 2 = .ok (.invokevirtual 89, 3) := by decide +kernel
theorem d_GrantServerModel_authorize_5 : decode b_GrantServerModel_authorize 5 = .ok (.ifCond .eq 15, 3) := by decide +kernel
theorem d_GrantServerModel_authorize_8 : decode b_GrantServerModel_authorize 8 = .ok (.iload 4, 2) := by decide +kernel
theorem d_GrantServerModel_authorize_10 : decode b_GrantServerModel_authorize 10 = .ok (.ifCond .lt 10, 3) := by decide +kernel
theorem d_GrantServerModel_authorize_13 : decode b_GrantServerModel_authorize 13 = .ok (.iload 4, 2) := by decide +kernel
theorem d_GrantServerModel_authorize_15 : decode b_GrantServerModel_authorize 15 = .ok (.ldc 107, 2) := by decide +kernel
theorem d_GrantServerModel_authorize_17 : decode b_GrantServerModel_authorize 17 = .ok (.if_icmp .le 5, 3) := by decide +kernel
theorem d_GrantServerModel_authorize_20 : decode b_GrantServerModel_authorize 20 = .ok (.iconst (-1), 1) := by decide +kernel
theorem d_GrantServerModel_authorize_21 : decode b_GrantServerModel_authorize 21 = .ok (.ireturn, 1) := by decide +kernel
theorem d_GrantServerModel_authorize_22 : decode b_GrantServerModel_authorize 22 = .ok (.aload_n 0, 1) := by decide +kernel
theorem d_GrantServerModel_authorize_23 : decode b_GrantServerModel_authorize 23 = .ok (.getfield 13, 3) := by decide +kernel
theorem d_GrantServerModel_authorize_26 : decode b_GrantServerModel_authorize 26 = .ok (.iload_n 1, 1) := by decide +kernel
theorem d_GrantServerModel_authorize_27 : decode b_GrantServerModel_authorize 27 = .ok (.iaload, 1) := by decide +kernel
theorem d_GrantServerModel_authorize_28 : decode b_GrantServerModel_authorize 28 = .ok (.iload_n 2, 1) := by decide +kernel
theorem d_GrantServerModel_authorize_29 : decode b_GrantServerModel_authorize 29 = .ok (.if_icmp .eq 6, 3) := by decide +kernel
theorem d_GrantServerModel_authorize_32 : decode b_GrantServerModel_authorize 32 = .ok (.bipush (-13), 2) := by decide +kernel
theorem d_GrantServerModel_authorize_34 : decode b_GrantServerModel_authorize 34 = .ok (.ireturn, 1) := by decide +kernel
theorem d_GrantServerModel_authorize_35 : decode b_GrantServerModel_authorize 35 = .ok (.iload_n 3, 1) := by decide +kernel
theorem d_GrantServerModel_authorize_36 : decode b_GrantServerModel_authorize 36 = .ok (.iconst 1, 1) := by decide +kernel
theorem d_GrantServerModel_authorize_37 : decode b_GrantServerModel_authorize 37 = .ok (.if_icmp .lt 22, 3) := by decide +kernel
theorem d_GrantServerModel_authorize_40 : decode b_GrantServerModel_authorize 40 = .ok (.iload_n 3, 1) := by decide +kernel
theorem d_GrantServerModel_authorize_41 : decode b_GrantServerModel_authorize 41 = .ok (.bipush 15, 2) := by decide +kernel
theorem d_GrantServerModel_authorize_43 : decode b_GrantServerModel_authorize 43 = .ok (.if_icmp .gt 16, 3) := by decide +kernel
theorem d_GrantServerModel_authorize_46 : decode b_GrantServerModel_authorize 46 = .ok (.iload_n 3, 1) := by decide +kernel
theorem d_GrantServerModel_authorize_47 : decode b_GrantServerModel_authorize 47 = .ok (.aload_n 0, 1) := by decide +kernel
theorem d_GrantServerModel_authorize_48 : decode b_GrantServerModel_authorize 48 = .ok (.getfield 16, 3) := by decide +kernel
theorem d_GrantServerModel_authorize_51 : decode b_GrantServerModel_authorize 51 = .ok (.iload_n 1, 1) := by decide +kernel
theorem d_GrantServerModel_authorize_52 : decode b_GrantServerModel_authorize 52 = .ok (.iaload, 1) := by decide +kernel
theorem d_GrantServerModel_authorize_53 : decode b_GrantServerModel_authorize 53 = .ok (.iconst (-1), 1) := by decide +kernel
theorem d_GrantServerModel_authorize_54 : decode b_GrantServerModel_authorize 54 = .ok (.ixor, 1) := by decide +kernel
theorem d_GrantServerModel_authorize_55 : decode b_GrantServerModel_authorize 55 = .ok (.iand, 1) := by decide +kernel
theorem d_GrantServerModel_authorize_56 : decode b_GrantServerModel_authorize 56 = .ok (.ifCond .eq 6, 3) := by decide +kernel
theorem d_GrantServerModel_authorize_59 : decode b_GrantServerModel_authorize 59 = .ok (.bipush (-4), 2) := by decide +kernel
theorem d_GrantServerModel_authorize_61 : decode b_GrantServerModel_authorize 61 = .ok (.ireturn, 1) := by decide +kernel
theorem d_GrantServerModel_authorize_62 : decode b_GrantServerModel_authorize 62 = .ok (.aload_n 0, 1) := by decide +kernel
theorem d_GrantServerModel_authorize_63 : decode b_GrantServerModel_authorize 63 = .ok (.iload 5, 2) := by decide +kernel
theorem d_GrantServerModel_authorize_65 : decode b_GrantServerModel_authorize 65 = .ok (.invokevirtual 108, 3) := by decide +kernel
theorem d_GrantServerModel_authorize_68 : decode b_GrantServerModel_authorize 68 = .ok (.ifCond .ne 6, 3) := by decide +kernel
theorem d_GrantServerModel_authorize_71 : decode b_GrantServerModel_authorize 71 = .ok (.bipush (-5), 2) := by decide +kernel
theorem d_GrantServerModel_authorize_73 : decode b_GrantServerModel_authorize 73 = .ok (.ireturn, 1) := by decide +kernel
theorem d_GrantServerModel_authorize_74 : decode b_GrantServerModel_authorize 74 = .ok (.aload_n 0, 1) := by decide +kernel
theorem d_GrantServerModel_authorize_75 : decode b_GrantServerModel_authorize 75 = .ok (.iconst 0, 1) := by decide +kernel
theorem d_GrantServerModel_authorize_76 : decode b_GrantServerModel_authorize 76 = .ok (.invokevirtual 111, 3) := by decide +kernel
theorem d_GrantServerModel_authorize_79 : decode b_GrantServerModel_authorize 79 = .ok (.istore 6, 2) := by decide +kernel
theorem d_GrantServerModel_authorize_81 : decode b_GrantServerModel_authorize 81 = .ok (.iload 6, 2) := by decide +kernel
theorem d_GrantServerModel_authorize_83 : decode b_GrantServerModel_authorize 83 = .ok (.ifCond .ge 6, 3) := by decide +kernel
theorem d_GrantServerModel_authorize_86 : decode b_GrantServerModel_authorize 86 = .ok (.bipush (-6), 2) := by decide +kernel
theorem d_GrantServerModel_authorize_88 : decode b_GrantServerModel_authorize 88 = .ok (.ireturn, 1) := by decide +kernel
theorem d_GrantServerModel_authorize_89 : decode b_GrantServerModel_authorize 89 = .ok (.aload_n 0, 1) := by decide +kernel
theorem d_GrantServerModel_authorize_90 : decode b_GrantServerModel_authorize 90 = .ok (.iload 6, 2) := by decide +kernel
theorem d_GrantServerModel_authorize_92 : decode b_GrantServerModel_authorize 92 = .ok (.iload 5, 2) := by decide +kernel
theorem d_GrantServerModel_authorize_94 : decode b_GrantServerModel_authorize 94 = .ok (.iload_n 1, 1) := by decide +kernel
theorem d_GrantServerModel_authorize_95 : decode b_GrantServerModel_authorize 95 = .ok (.iload_n 3, 1) := by decide +kernel
theorem d_GrantServerModel_authorize_96 : decode b_GrantServerModel_authorize 96 = .ok (.aload_n 0, 1) := by decide +kernel
theorem d_GrantServerModel_authorize_97 : decode b_GrantServerModel_authorize 97 = .ok (.getfield 104, 3) := by decide +kernel
theorem d_GrantServerModel_authorize_100 : decode b_GrantServerModel_authorize 100 = .ok (.aload_n 0, 1) := by decide +kernel
theorem d_GrantServerModel_authorize_101 : decode b_GrantServerModel_authorize 101 = .ok (.getfield 77, 3) := by decide +kernel
theorem d_GrantServerModel_authorize_104 : decode b_GrantServerModel_authorize 104 = .ok (.iadd, 1) := by decide +kernel
theorem d_GrantServerModel_authorize_105 : decode b_GrantServerModel_authorize 105 = .ok (.iconst (-1), 1) := by decide +kernel
theorem d_GrantServerModel_authorize_106 : decode b_GrantServerModel_authorize 106 = .ok (.invokevirtual 114, 3) := by decide +kernel
theorem d_GrantServerModel_authorize_109 : decode b_GrantServerModel_authorize 109 = .ok (.aload_n 0, 1) := by decide +kernel
theorem d_GrantServerModel_authorize_110 : decode b_GrantServerModel_authorize 110 = .ok (.getfield 42, 3) := by decide +kernel
theorem d_GrantServerModel_authorize_113 : decode b_GrantServerModel_authorize 113 = .ok (.iload 6, 2) := by decide +kernel
theorem d_GrantServerModel_authorize_115 : decode b_GrantServerModel_authorize 115 = .ok (.iload_n 2, 1) := by decide +kernel
theorem d_GrantServerModel_authorize_116 : decode b_GrantServerModel_authorize 116 = .ok (.iastore, 1) := by decide +kernel
theorem d_GrantServerModel_authorize_117 : decode b_GrantServerModel_authorize 117 = .ok (.aload_n 0, 1) := by decide +kernel
theorem d_GrantServerModel_authorize_118 : decode b_GrantServerModel_authorize 118 = .ok (.getfield 45, 3) := by decide +kernel
theorem d_GrantServerModel_authorize_121 : decode b_GrantServerModel_authorize 121 = .ok (.iload 6, 2) := by decide +kernel
theorem d_GrantServerModel_authorize_123 : decode b_GrantServerModel_authorize 123 = .ok (.iload 4, 2) := by decide +kernel
theorem d_GrantServerModel_authorize_125 : decode b_GrantServerModel_authorize 125 = .ok (.iastore, 1) := by decide +kernel
theorem d_GrantServerModel_authorize_126 : decode b_GrantServerModel_authorize 126 = .ok (.iconst 0, 1) := by decide +kernel
theorem d_GrantServerModel_authorize_127 : decode b_GrantServerModel_authorize 127 = .ok (.ireturn, 1) := by decide +kernel
theorem d_GrantServerModel_exchange_0 : decode b_GrantServerModel_exchange 0 = .ok (.aload_n 0, 1) := by decide +kernel
theorem d_GrantServerModel_exchange_1 : decode b_GrantServerModel_exchange 1 = .ok (.getfield 19, 3) := by decide +kernel
theorem d_GrantServerModel_exchange_4 : decode b_GrantServerModel_exchange 4 = .ok (.ifCond .ge 6, 3) := by decide +kernel
theorem d_GrantServerModel_exchange_7 : decode b_GrantServerModel_exchange 7 = .ok (.bipush (-2), 2) := by decide +kernel
theorem d_GrantServerModel_exchange_9 : decode b_GrantServerModel_exchange 9 = .ok (.ireturn, 1) := by decide +kernel
theorem d_GrantServerModel_exchange_10 : decode b_GrantServerModel_exchange 10 = .ok (.iload_n 3, 1) := by decide +kernel
theorem d_GrantServerModel_exchange_11 : decode b_GrantServerModel_exchange 11 = .ok (.ifCond .lt 8, 3) := by decide +kernel
theorem d_GrantServerModel_exchange_14 : decode b_GrantServerModel_exchange 14 = .ok (.iload_n 3, 1) := by decide +kernel
theorem d_GrantServerModel_exchange_15 : decode b_GrantServerModel_exchange 15 = .ok (.iconst 3, 1) := by decide +kernel
theorem d_GrantServerModel_exchange_16 : decode b_GrantServerModel_exchange 16 = .ok (.if_icmp .le 5, 3) := by decide +kernel
theorem d_GrantServerModel_exchange_19 : decode b_GrantServerModel_exchange 19 = .ok (.iconst (-1), 1) := by decide +kernel
theorem d_GrantServerModel_exchange_20 : decode b_GrantServerModel_exchange 20 = .ok (.ireturn, 1) := by decide +kernel
theorem d_GrantServerModel_exchange_21 : decode b_GrantServerModel_exchange 21 = .ok (.aload_n 0, 1) := by decide +kernel
theorem d_GrantServerModel_exchange_22 : decode b_GrantServerModel_exchange 22 = .ok (.iconst 0, 1) := by decide +kernel
theorem d_GrantServerModel_exchange_23 : decode b_GrantServerModel_exchange 23 = .ok (.iload_n 1, 1) := by decide +kernel
theorem d_GrantServerModel_exchange_24 : decode b_GrantServerModel_exchange 24 = .ok (.invokevirtual 100, 3) := by decide +kernel
theorem d_GrantServerModel_exchange_27 : decode b_GrantServerModel_exchange 27 = .ok (.istore 5, 2) := by decide +kernel
theorem d_GrantServerModel_exchange_29 : decode b_GrantServerModel_exchange 29 = .ok (.iload 5, 2) := by decide +kernel
theorem d_GrantServerModel_exchange_31 : decode b_GrantServerModel_exchange 31 = .ok (.ifCond .lt 17, 3) := by decide +kernel
theorem d_GrantServerModel_exchange_34 : decode b_GrantServerModel_exchange 34 = .ok (.aload_n 0, 1) := by decide +kernel
theorem d_GrantServerModel_exchange_35 : decode b_GrantServerModel_exchange 35 = .ok (.getfield 26, 3) := by decide +kernel
theorem d_GrantServerModel_exchange_38 : decode b_GrantServerModel_exchange 38 = .ok (.iload 5, 2) := by decide +kernel
theorem d_GrantServerModel_exchange_40 : decode b_GrantServerModel_exchange 40 = .ok (.iaload, 1) := by decide +kernel
theorem d_GrantServerModel_exchange_41 : decode b_GrantServerModel_exchange 41 = .ok (.aload_n 0, 1) := by decide +kernel
theorem d_GrantServerModel_exchange_42 : decode b_GrantServerModel_exchange 42 = .ok (.getfield 19, 3) := by decide +kernel
theorem d_GrantServerModel_exchange_45 : decode b_GrantServerModel_exchange 45 = .ok (.if_icmp .eq 6, 3) := by decide +kernel
theorem d_GrantServerModel_exchange_48 : decode b_GrantServerModel_exchange 48 = .ok (.bipush (-3), 2) := by decide +kernel
theorem d_GrantServerModel_exchange_50 : decode b_GrantServerModel_exchange 50 = .ok (.ireturn, 1) := by decide +kernel
theorem d_GrantServerModel_exchange_51 : decode b_GrantServerModel_exchange 51 = .ok (.aload_n 0, 1) := by decide +kernel
theorem d_GrantServerModel_exchange_52 : decode b_GrantServerModel_exchange 52 = .ok (.getfield 35, 3) := by decide +kernel
theorem d_GrantServerModel_exchange_55 : decode b_GrantServerModel_exchange 55 = .ok (.iload 5, 2) := by decide +kernel
theorem d_GrantServerModel_exchange_57 : decode b_GrantServerModel_exchange 57 = .ok (.baload, 1) := by decide +kernel
theorem d_GrantServerModel_exchange_58 : decode b_GrantServerModel_exchange 58 = .ok (.ifCond .eq 19, 3) := by decide +kernel
theorem d_GrantServerModel_exchange_61 : decode b_GrantServerModel_exchange 61 = .ok (.aload_n 0, 1) := by decide +kernel
theorem d_GrantServerModel_exchange_62 : decode b_GrantServerModel_exchange 62 = .ok (.getfield 54, 3) := by decide +kernel
theorem d_GrantServerModel_exchange_65 : decode b_GrantServerModel_exchange 65 = .ok (.aload_n 0, 1) := by decide +kernel
theorem d_GrantServerModel_exchange_66 : decode b_GrantServerModel_exchange 66 = .ok (.getfield 39, 3) := by decide +kernel
theorem d_GrantServerModel_exchange_69 : decode b_GrantServerModel_exchange 69 = .ok (.iload 5, 2) := by decide +kernel
theorem d_GrantServerModel_exchange_71 : decode b_GrantServerModel_exchange 71 = .ok (.iaload, 1) := by decide +kernel
theorem d_GrantServerModel_exchange_72 : decode b_GrantServerModel_exchange 72 = .ok (.iconst 1, 1) := by decide +kernel
theorem d_GrantServerModel_exchange_73 : decode b_GrantServerModel_exchange 73 = .ok (.bastore, 1) := by decide +kernel
theorem d_GrantServerModel_exchange_74 : decode b_GrantServerModel_exchange 74 = .ok (.bipush (-3), 2) := by decide +kernel
theorem d_GrantServerModel_exchange_76 : decode b_GrantServerModel_exchange 76 = .ok (.ireturn, 1) := by decide +kernel
theorem d_GrantServerModel_exchange_77 : decode b_GrantServerModel_exchange 77 = .ok (.aload_n 0, 1) := by decide +kernel
theorem d_GrantServerModel_exchange_78 : decode b_GrantServerModel_exchange 78 = .ok (.getfield 32, 3) := by decide +kernel
theorem d_GrantServerModel_exchange_81 : decode b_GrantServerModel_exchange 81 = .ok (.iload 5, 2) := by decide +kernel
theorem d_GrantServerModel_exchange_83 : decode b_GrantServerModel_exchange 83 = .ok (.iaload, 1) := by decide +kernel
theorem d_GrantServerModel_exchange_84 : decode b_GrantServerModel_exchange 84 = .ok (.aload_n 0, 1) := by decide +kernel
theorem d_GrantServerModel_exchange_85 : decode b_GrantServerModel_exchange 85 = .ok (.getfield 104, 3) := by decide +kernel
theorem d_GrantServerModel_exchange_88 : decode b_GrantServerModel_exchange 88 = .ok (.if_icmp .le 28, 3) := by decide +kernel
theorem d_GrantServerModel_exchange_91 : decode b_GrantServerModel_exchange 91 = .ok (.aload_n 0, 1) := by decide +kernel
theorem d_GrantServerModel_exchange_92 : decode b_GrantServerModel_exchange 92 = .ok (.getfield 42, 3) := by decide +kernel
theorem d_GrantServerModel_exchange_95 : decode b_GrantServerModel_exchange 95 = .ok (.iload 5, 2) := by decide +kernel
theorem d_GrantServerModel_exchange_97 : decode b_GrantServerModel_exchange 97 = .ok (.iaload, 1) := by decide +kernel
theorem d_GrantServerModel_exchange_98 : decode b_GrantServerModel_exchange 98 = .ok (.iload_n 2, 1) := by decide +kernel
theorem d_GrantServerModel_exchange_99 : decode b_GrantServerModel_exchange 99 = .ok (.if_icmp .ne 17, 3) := by decide +kernel
theorem d_GrantServerModel_exchange_102 : decode b_GrantServerModel_exchange 102 = .ok (.aload_n 0, 1) := by decide +kernel
theorem d_GrantServerModel_exchange_103 : decode b_GrantServerModel_exchange 103 = .ok (.getfield 45, 3) := by decide +kernel
theorem d_GrantServerModel_exchange_106 : decode b_GrantServerModel_exchange 106 = .ok (.iload 5, 2) := by decide +kernel
theorem d_GrantServerModel_exchange_108 : decode b_GrantServerModel_exchange 108 = .ok (.iaload, 1) := by decide +kernel
theorem d_GrantServerModel_exchange_109 : decode b_GrantServerModel_exchange 109 = .ok (.aload_n 0, 1) := by decide +kernel
theorem d_GrantServerModel_exchange_110 : decode b_GrantServerModel_exchange 110 = .ok (.invokevirtual 134, 3) := by decide +kernel
theorem d_GrantServerModel_exchange_113 : decode b_GrantServerModel_exchange 113 = .ok (.if_icmp .eq 6, 3) := by decide +kernel
theorem d_GrantServerModel_exchange_116 : decode b_GrantServerModel_exchange 116 = .ok (.bipush (-3), 2) := by decide +kernel
theorem d_GrantServerModel_exchange_118 : decode b_GrantServerModel_exchange 118 = .ok (.ireturn, 1) := by decide +kernel
theorem d_GrantServerModel_exchange_119 : decode b_GrantServerModel_exchange 119 = .ok (.aload_n 0, 1) := by decide +kernel
theorem d_GrantServerModel_exchange_120 : decode b_GrantServerModel_exchange 120 = .ok (.iload 4, 2) := by decide +kernel
theorem d_GrantServerModel_exchange_122 : decode b_GrantServerModel_exchange 122 = .ok (.invokevirtual 108, 3) := by decide +kernel
theorem d_GrantServerModel_exchange_125 : decode b_GrantServerModel_exchange 125 = .ok (.ifCond .ne 6, 3) := by decide +kernel
theorem d_GrantServerModel_exchange_128 : decode b_GrantServerModel_exchange 128 = .ok (.bipush (-5), 2) := by decide +kernel
theorem d_GrantServerModel_exchange_130 : decode b_GrantServerModel_exchange 130 = .ok (.ireturn, 1) := by decide +kernel
theorem d_GrantServerModel_exchange_131 : decode b_GrantServerModel_exchange 131 = .ok (.aload_n 0, 1) := by decide +kernel
theorem d_GrantServerModel_exchange_132 : decode b_GrantServerModel_exchange 132 = .ok (.iconst 1, 1) := by decide +kernel
theorem d_GrantServerModel_exchange_133 : decode b_GrantServerModel_exchange 133 = .ok (.invokevirtual 111, 3) := by decide +kernel
theorem d_GrantServerModel_exchange_136 : decode b_GrantServerModel_exchange 136 = .ok (.ifCond .lt 11, 3) := by decide +kernel
theorem d_GrantServerModel_exchange_139 : decode b_GrantServerModel_exchange 139 = .ok (.aload_n 0, 1) := by decide +kernel
theorem d_GrantServerModel_exchange_140 : decode b_GrantServerModel_exchange 140 = .ok (.iconst 2, 1) := by decide +kernel
theorem d_GrantServerModel_exchange_141 : decode b_GrantServerModel_exchange 141 = .ok (.invokevirtual 111, 3) := by decide +kernel
theorem d_GrantServerModel_exchange_144 : decode b_GrantServerModel_exchange 144 = .ok (.ifCond .ge 6, 3) := by decide +kernel
theorem d_GrantServerModel_exchange_147 : decode b_GrantServerModel_exchange 147 = .ok (.bipush (-6), 2) := by decide +kernel
theorem d_GrantServerModel_exchange_149 : decode b_GrantServerModel_exchange 149 = .ok (.ireturn, 1) := by decide +kernel
theorem d_GrantServerModel_exchange_150 : decode b_GrantServerModel_exchange 150 = .ok (.aload_n 0, 1) := by decide +kernel
theorem d_GrantServerModel_exchange_151 : decode b_GrantServerModel_exchange 151 = .ok (.getfield 138, 3) := by decide +kernel
theorem d_GrantServerModel_exchange_154 : decode b_GrantServerModel_exchange 154 = .ok (.istore 6, 2) := by decide +kernel
theorem d_GrantServerModel_exchange_156 : decode b_GrantServerModel_exchange 156 = .ok (.aload_n 0, 1) := by decide +kernel
theorem d_GrantServerModel_exchange_157 : decode b_GrantServerModel_exchange 157 = .ok (.dup, 1) := by decide +kernel
theorem d_GrantServerModel_exchange_158 : decode b_GrantServerModel_exchange 158 = .ok (.getfield 138, 3) := by decide +kernel
theorem d_GrantServerModel_exchange_161 : decode b_GrantServerModel_exchange 161 = .ok (.iconst 1, 1) := by decide +kernel
theorem d_GrantServerModel_exchange_162 : decode b_GrantServerModel_exchange 162 = .ok (.iadd, 1) := by decide +kernel
theorem d_GrantServerModel_exchange_163 : decode b_GrantServerModel_exchange 163 = .ok (.putfield 138, 3) := by decide +kernel
theorem d_GrantServerModel_exchange_166 : decode b_GrantServerModel_exchange 166 = .ok (.aload_n 0, 1) := by decide +kernel
theorem d_GrantServerModel_exchange_167 : decode b_GrantServerModel_exchange 167 = .ok (.getfield 48, 3) := by decide +kernel
theorem d_GrantServerModel_exchange_170 : decode b_GrantServerModel_exchange 170 = .ok (.iload 6, 2) := by decide +kernel
theorem d_GrantServerModel_exchange_172 : decode b_GrantServerModel_exchange 172 = .ok (.aload_n 0, 1) := by decide +kernel
theorem d_GrantServerModel_exchange_173 : decode b_GrantServerModel_exchange 173 = .ok (.getfield 29, 3) := by decide +kernel
theorem d_GrantServerModel_exchange_176 : decode b_GrantServerModel_exchange 176 = .ok (.iload 5, 2) := by decide +kernel
theorem d_GrantServerModel_exchange_178 : decode b_GrantServerModel_exchange 178 = .ok (.iaload, 1) := by decide +kernel
theorem d_GrantServerModel_exchange_179 : decode b_GrantServerModel_exchange 179 = .ok (.iastore, 1) := by decide +kernel
theorem d_GrantServerModel_exchange_180 : decode b_GrantServerModel_exchange 180 = .ok (.aload_n 0, 1) := by decide +kernel
theorem d_GrantServerModel_exchange_181 : decode b_GrantServerModel_exchange 181 = .ok (.getfield 51, 3) := by decide +kernel
theorem d_GrantServerModel_exchange_184 : decode b_GrantServerModel_exchange 184 = .ok (.iload 6, 2) := by decide +kernel
theorem d_GrantServerModel_exchange_186 : decode b_GrantServerModel_exchange 186 = .ok (.iload_n 3, 1) := by decide +kernel
theorem d_GrantServerModel_exchange_187 : decode b_GrantServerModel_exchange 187 = .ok (.iastore, 1) := by decide +kernel
theorem d_GrantServerModel_exchange_188 : decode b_GrantServerModel_exchange 188 = .ok (.aload_n 0, 1) := by decide +kernel
theorem d_GrantServerModel_exchange_189 : decode b_GrantServerModel_exchange 189 = .ok (.getfield 54, 3) := by decide +kernel
theorem d_GrantServerModel_exchange_192 : decode b_GrantServerModel_exchange 192 = .ok (.iload 6, 2) := by decide +kernel
theorem d_GrantServerModel_exchange_194 : decode b_GrantServerModel_exchange 194 = .ok (.iconst 0, 1) := by decide +kernel
theorem d_GrantServerModel_exchange_195 : decode b_GrantServerModel_exchange 195 = .ok (.bastore, 1) := by decide +kernel
theorem d_GrantServerModel_exchange_196 : decode b_GrantServerModel_exchange 196 = .ok (.aload_n 0, 1) := by decide +kernel
theorem d_GrantServerModel_exchange_197 : decode b_GrantServerModel_exchange 197 = .ok (.getfield 35, 3) := by decide +kernel
theorem d_GrantServerModel_exchange_200 : decode b_GrantServerModel_exchange 200 = .ok (.iload 5, 2) := by decide +kernel
theorem d_GrantServerModel_exchange_202 : decode b_GrantServerModel_exchange 202 = .ok (.iconst 1, 1) := by decide +kernel
theorem d_GrantServerModel_exchange_203 : decode b_GrantServerModel_exchange 203 = .ok (.bastore, 1) := by decide +kernel
theorem d_GrantServerModel_exchange_204 : decode b_GrantServerModel_exchange 204 = .ok (.aload_n 0, 1) := by decide +kernel
theorem d_GrantServerModel_exchange_205 : decode b_GrantServerModel_exchange 205 = .ok (.getfield 39, 3) := by decide +kernel
theorem d_GrantServerModel_exchange_208 : decode b_GrantServerModel_exchange 208 = .ok (.iload 5, 2) := by decide +kernel
theorem d_GrantServerModel_exchange_210 : decode b_GrantServerModel_exchange 210 = .ok (.iload 6, 2) := by decide +kernel
theorem d_GrantServerModel_exchange_212 : decode b_GrantServerModel_exchange 212 = .ok (.iastore, 1) := by decide +kernel
theorem d_GrantServerModel_exchange_213 : decode b_GrantServerModel_exchange 213 = .ok (.aload_n 0, 1) := by decide +kernel
theorem d_GrantServerModel_exchange_214 : decode b_GrantServerModel_exchange 214 = .ok (.aload_n 0, 1) := by decide +kernel
theorem d_GrantServerModel_exchange_215 : decode b_GrantServerModel_exchange 215 = .ok (.getfield 19, 3) := by decide +kernel
theorem d_GrantServerModel_exchange_218 : decode b_GrantServerModel_exchange 218 = .ok (.iload 6, 2) := by decide +kernel
theorem d_GrantServerModel_exchange_220 : decode b_GrantServerModel_exchange 220 = .ok (.iload 4, 2) := by decide +kernel
theorem d_GrantServerModel_exchange_222 : decode b_GrantServerModel_exchange 222 = .ok (.aload_n 0, 1) := by decide +kernel
theorem d_GrantServerModel_exchange_223 : decode b_GrantServerModel_exchange 223 = .ok (.getfield 29, 3) := by decide +kernel
theorem d_GrantServerModel_exchange_226 : decode b_GrantServerModel_exchange 226 = .ok (.iload 5, 2) := by decide +kernel
theorem d_GrantServerModel_exchange_228 : decode b_GrantServerModel_exchange 228 = .ok (.iaload, 1) := by decide +kernel
theorem d_GrantServerModel_exchange_229 : decode b_GrantServerModel_exchange 229 = .ok (.invokevirtual 141, 3) := by decide +kernel
theorem d_GrantServerModel_exchange_232 : decode b_GrantServerModel_exchange 232 = .ok (.ireturn, 1) := by decide +kernel
theorem d_GrantServerModel_refresh_0 : decode b_GrantServerModel_refresh 0 = .ok (.aload_n 0, 1) := by decide +kernel
theorem d_GrantServerModel_refresh_1 : decode b_GrantServerModel_refresh 1 = .ok (.getfield 19, 3) := by decide +kernel
theorem d_GrantServerModel_refresh_4 : decode b_GrantServerModel_refresh 4 = .ok (.ifCond .ge 6, 3) := by decide +kernel
theorem d_GrantServerModel_refresh_7 : decode b_GrantServerModel_refresh 7 = .ok (.bipush (-2), 2) := by decide +kernel
theorem d_GrantServerModel_refresh_9 : decode b_GrantServerModel_refresh 9 = .ok (.ireturn, 1) := by decide +kernel
theorem d_GrantServerModel_refresh_10 : decode b_GrantServerModel_refresh 10 = .ok (.aload_n 0, 1) := by decide +kernel
theorem d_GrantServerModel_refresh_11 : decode b_GrantServerModel_refresh 11 = .ok (.iconst 1, 1) := by decide +kernel
theorem d_GrantServerModel_refresh_12 : decode b_GrantServerModel_refresh 12 = .ok (.iload_n 1, 1) := by decide +kernel
theorem d_GrantServerModel_refresh_13 : decode b_GrantServerModel_refresh 13 = .ok (.invokevirtual 100, 3) := by decide +kernel
theorem d_GrantServerModel_refresh_16 : decode b_GrantServerModel_refresh 16 = .ok (.istore 4, 2) := by decide +kernel
theorem d_GrantServerModel_refresh_18 : decode b_GrantServerModel_refresh 18 = .ok (.iload 4, 2) := by decide +kernel
theorem d_GrantServerModel_refresh_20 : decode b_GrantServerModel_refresh 20 = .ok (.ifCond .lt 17, 3) := by decide +kernel
theorem d_GrantServerModel_refresh_23 : decode b_GrantServerModel_refresh 23 = .ok (.aload_n 0, 1) := by decide +kernel
theorem d_GrantServerModel_refresh_24 : decode b_GrantServerModel_refresh 24 = .ok (.getfield 26, 3) := by decide +kernel
theorem d_GrantServerModel_refresh_27 : decode b_GrantServerModel_refresh 27 = .ok (.iload 4, 2) := by decide +kernel
theorem d_GrantServerModel_refresh_29 : decode b_GrantServerModel_refresh 29 = .ok (.iaload, 1) := by decide +kernel
theorem d_GrantServerModel_refresh_30 : decode b_GrantServerModel_refresh 30 = .ok (.aload_n 0, 1) := by decide +kernel
theorem d_GrantServerModel_refresh_31 : decode b_GrantServerModel_refresh 31 = .ok (.getfield 19, 3) := by decide +kernel
theorem d_GrantServerModel_refresh_34 : decode b_GrantServerModel_refresh 34 = .ok (.if_icmp .eq 6, 3) := by decide +kernel
theorem d_GrantServerModel_refresh_37 : decode b_GrantServerModel_refresh 37 = .ok (.bipush (-3), 2) := by decide +kernel
theorem d_GrantServerModel_refresh_39 : decode b_GrantServerModel_refresh 39 = .ok (.ireturn, 1) := by decide +kernel
theorem d_GrantServerModel_refresh_40 : decode b_GrantServerModel_refresh 40 = .ok (.aload_n 0, 1) := by decide +kernel
theorem d_GrantServerModel_refresh_41 : decode b_GrantServerModel_refresh 41 = .ok (.getfield 35, 3) := by decide +kernel
theorem d_GrantServerModel_refresh_44 : decode b_GrantServerModel_refresh 44 = .ok (.iload 4, 2) := by decide +kernel
theorem d_GrantServerModel_refresh_46 : decode b_GrantServerModel_refresh 46 = .ok (.baload, 1) := by decide +kernel
theorem d_GrantServerModel_refresh_47 : decode b_GrantServerModel_refresh 47 = .ok (.ifCond .eq 19, 3) := by decide +kernel
theorem d_GrantServerModel_refresh_50 : decode b_GrantServerModel_refresh 50 = .ok (.aload_n 0, 1) := by decide +kernel
theorem d_GrantServerModel_refresh_51 : decode b_GrantServerModel_refresh 51 = .ok (.getfield 54, 3) := by decide +kernel
theorem d_GrantServerModel_refresh_54 : decode b_GrantServerModel_refresh 54 = .ok (.aload_n 0, 1) := by decide +kernel
theorem d_GrantServerModel_refresh_55 : decode b_GrantServerModel_refresh 55 = .ok (.getfield 39, 3) := by decide +kernel
theorem d_GrantServerModel_refresh_58 : decode b_GrantServerModel_refresh 58 = .ok (.iload 4, 2) := by decide +kernel
theorem d_GrantServerModel_refresh_60 : decode b_GrantServerModel_refresh 60 = .ok (.iaload, 1) := by decide +kernel
theorem d_GrantServerModel_refresh_61 : decode b_GrantServerModel_refresh 61 = .ok (.iconst 1, 1) := by decide +kernel
theorem d_GrantServerModel_refresh_62 : decode b_GrantServerModel_refresh 62 = .ok (.bastore, 1) := by decide +kernel
theorem d_GrantServerModel_refresh_63 : decode b_GrantServerModel_refresh 63 = .ok (.bipush (-3), 2) := by decide +kernel
theorem d_GrantServerModel_refresh_65 : decode b_GrantServerModel_refresh 65 = .ok (.ireturn, 1) := by decide +kernel
theorem d_GrantServerModel_refresh_66 : decode b_GrantServerModel_refresh 66 = .ok (.aload_n 0, 1) := by decide +kernel
theorem d_GrantServerModel_refresh_67 : decode b_GrantServerModel_refresh 67 = .ok (.iload 4, 2) := by decide +kernel
theorem d_GrantServerModel_refresh_69 : decode b_GrantServerModel_refresh 69 = .ok (.invokevirtual 145, 3) := by decide +kernel
theorem d_GrantServerModel_refresh_72 : decode b_GrantServerModel_refresh 72 = .ok (.ifCond .ne 6, 3) := by decide +kernel
theorem d_GrantServerModel_refresh_75 : decode b_GrantServerModel_refresh 75 = .ok (.bipush (-3), 2) := by decide +kernel
theorem d_GrantServerModel_refresh_77 : decode b_GrantServerModel_refresh 77 = .ok (.ireturn, 1) := by decide +kernel
theorem d_GrantServerModel_refresh_78 : decode b_GrantServerModel_refresh 78 = .ok (.aload_n 0, 1) := by decide +kernel
theorem d_GrantServerModel_refresh_79 : decode b_GrantServerModel_refresh 79 = .ok (.getfield 39, 3) := by decide +kernel
theorem d_GrantServerModel_refresh_82 : decode b_GrantServerModel_refresh 82 = .ok (.iload 4, 2) := by decide +kernel
theorem d_GrantServerModel_refresh_84 : decode b_GrantServerModel_refresh 84 = .ok (.iaload, 1) := by decide +kernel
theorem d_GrantServerModel_refresh_85 : decode b_GrantServerModel_refresh 85 = .ok (.istore 5, 2) := by decide +kernel
theorem d_GrantServerModel_refresh_87 : decode b_GrantServerModel_refresh 87 = .ok (.iload_n 2, 1) := by decide +kernel
theorem d_GrantServerModel_refresh_88 : decode b_GrantServerModel_refresh 88 = .ok (.ifCond .lt 23, 3) := by decide +kernel
theorem d_GrantServerModel_refresh_91 : decode b_GrantServerModel_refresh 91 = .ok (.iload_n 2, 1) := by decide +kernel
theorem d_GrantServerModel_refresh_92 : decode b_GrantServerModel_refresh 92 = .ok (.bipush 15, 2) := by decide +kernel
theorem d_GrantServerModel_refresh_94 : decode b_GrantServerModel_refresh 94 = .ok (.if_icmp .gt 17, 3) := by decide +kernel
theorem d_GrantServerModel_refresh_97 : decode b_GrantServerModel_refresh 97 = .ok (.iload_n 2, 1) := by decide +kernel
theorem d_GrantServerModel_refresh_98 : decode b_GrantServerModel_refresh 98 = .ok (.aload_n 0, 1) := by decide +kernel
theorem d_GrantServerModel_refresh_99 : decode b_GrantServerModel_refresh 99 = .ok (.getfield 48, 3) := by decide +kernel
theorem d_GrantServerModel_refresh_102 : decode b_GrantServerModel_refresh 102 = .ok (.iload 5, 2) := by decide +kernel
theorem d_GrantServerModel_refresh_104 : decode b_GrantServerModel_refresh 104 = .ok (.iaload, 1) := by decide +kernel
theorem d_GrantServerModel_refresh_105 : decode b_GrantServerModel_refresh 105 = .ok (.iconst (-1), 1) := by decide +kernel
theorem d_GrantServerModel_refresh_106 : decode b_GrantServerModel_refresh 106 = .ok (.ixor, 1) := by decide +kernel
theorem d_GrantServerModel_refresh_107 : decode b_GrantServerModel_refresh 107 = .ok (.iand, 1) := by decide +kernel
theorem d_GrantServerModel_refresh_108 : decode b_GrantServerModel_refresh 108 = .ok (.ifCond .eq 6, 3) := by decide +kernel
theorem d_GrantServerModel_refresh_111 : decode b_GrantServerModel_refresh 111 = .ok (.bipush (-4), 2) := by decide +kernel
theorem d_GrantServerModel_refresh_113 : decode b_GrantServerModel_refresh 113 = .ok (.ireturn, 1) := by decide +kernel
theorem d_GrantServerModel_refresh_114 : decode b_GrantServerModel_refresh 114 = .ok (.aload_n 0, 1) := by decide +kernel
theorem d_GrantServerModel_refresh_115 : decode b_GrantServerModel_refresh 115 = .ok (.iload_n 3, 1) := by decide +kernel
theorem d_GrantServerModel_refresh_116 : decode b_GrantServerModel_refresh 116 = .ok (.invokevirtual 108, 3) := by decide +kernel
theorem d_GrantServerModel_refresh_119 : decode b_GrantServerModel_refresh 119 = .ok (.ifCond .ne 6, 3) := by decide +kernel
theorem d_GrantServerModel_refresh_122 : decode b_GrantServerModel_refresh 122 = .ok (.bipush (-5), 2) := by decide +kernel
theorem d_GrantServerModel_refresh_124 : decode b_GrantServerModel_refresh 124 = .ok (.ireturn, 1) := by decide +kernel
theorem d_GrantServerModel_refresh_125 : decode b_GrantServerModel_refresh 125 = .ok (.aload_n 0, 1) := by decide +kernel
theorem d_GrantServerModel_refresh_126 : decode b_GrantServerModel_refresh 126 = .ok (.iconst 1, 1) := by decide +kernel
theorem d_GrantServerModel_refresh_127 : decode b_GrantServerModel_refresh 127 = .ok (.invokevirtual 111, 3) := by decide +kernel
theorem d_GrantServerModel_refresh_130 : decode b_GrantServerModel_refresh 130 = .ok (.ifCond .lt 11, 3) := by decide +kernel
theorem d_GrantServerModel_refresh_133 : decode b_GrantServerModel_refresh 133 = .ok (.aload_n 0, 1) := by decide +kernel
theorem d_GrantServerModel_refresh_134 : decode b_GrantServerModel_refresh 134 = .ok (.iconst 2, 1) := by decide +kernel
theorem d_GrantServerModel_refresh_135 : decode b_GrantServerModel_refresh 135 = .ok (.invokevirtual 111, 3) := by decide +kernel
theorem d_GrantServerModel_refresh_138 : decode b_GrantServerModel_refresh 138 = .ok (.ifCond .ge 6, 3) := by decide +kernel
theorem d_GrantServerModel_refresh_141 : decode b_GrantServerModel_refresh 141 = .ok (.bipush (-6), 2) := by decide +kernel
theorem d_GrantServerModel_refresh_143 : decode b_GrantServerModel_refresh 143 = .ok (.ireturn, 1) := by decide +kernel
theorem d_GrantServerModel_refresh_144 : decode b_GrantServerModel_refresh 144 = .ok (.aload_n 0, 1) := by decide +kernel
theorem d_GrantServerModel_refresh_145 : decode b_GrantServerModel_refresh 145 = .ok (.getfield 35, 3) := by decide +kernel
theorem d_GrantServerModel_refresh_148 : decode b_GrantServerModel_refresh 148 = .ok (.iload 4, 2) := by decide +kernel
theorem d_GrantServerModel_refresh_150 : decode b_GrantServerModel_refresh 150 = .ok (.iconst 1, 1) := by decide +kernel
theorem d_GrantServerModel_refresh_151 : decode b_GrantServerModel_refresh 151 = .ok (.bastore, 1) := by decide +kernel
theorem d_GrantServerModel_refresh_152 : decode b_GrantServerModel_refresh 152 = .ok (.aload_n 0, 1) := by decide +kernel
theorem d_GrantServerModel_refresh_153 : decode b_GrantServerModel_refresh 153 = .ok (.aload_n 0, 1) := by decide +kernel
theorem d_GrantServerModel_refresh_154 : decode b_GrantServerModel_refresh 154 = .ok (.getfield 19, 3) := by decide +kernel
theorem d_GrantServerModel_refresh_157 : decode b_GrantServerModel_refresh 157 = .ok (.iload 5, 2) := by decide +kernel
theorem d_GrantServerModel_refresh_159 : decode b_GrantServerModel_refresh 159 = .ok (.iload_n 3, 1) := by decide +kernel
theorem d_GrantServerModel_refresh_160 : decode b_GrantServerModel_refresh 160 = .ok (.iload_n 2, 1) := by decide +kernel
theorem d_GrantServerModel_refresh_161 : decode b_GrantServerModel_refresh 161 = .ok (.ifCond .ne 13, 3) := by decide +kernel
theorem d_GrantServerModel_refresh_164 : decode b_GrantServerModel_refresh 164 = .ok (.aload_n 0, 1) := by decide +kernel
theorem d_GrantServerModel_refresh_165 : decode b_GrantServerModel_refresh 165 = .ok (.getfield 48, 3) := by decide +kernel
theorem d_GrantServerModel_refresh_168 : decode b_GrantServerModel_refresh 168 = .ok (.iload 5, 2) := by decide +kernel
theorem d_GrantServerModel_refresh_170 : decode b_GrantServerModel_refresh 170 = .ok (.iaload, 1) := by decide +kernel
theorem d_GrantServerModel_refresh_171 : decode b_GrantServerModel_refresh 171 = .ok (.goto 4, 3) := by decide +kernel
theorem d_GrantServerModel_refresh_174 : decode b_GrantServerModel_refresh 174 = .ok (.iload_n 2, 1) := by decide +kernel
theorem d_GrantServerModel_refresh_175 : decode b_GrantServerModel_refresh 175 = .ok (.invokevirtual 141, 3) := by decide +kernel
theorem d_GrantServerModel_refresh_178 : decode b_GrantServerModel_refresh 178 = .ok (.ireturn, 1) := by decide +kernel
theorem d_GrantServerModel_revoke_0 : decode b_GrantServerModel_revoke 0 = .ok (.aload_n 0, 1) := by decide +kernel
theorem d_GrantServerModel_revoke_1 : decode b_GrantServerModel_revoke 1 = .ok (.getfield 19, 3) := by decide +kernel
theorem d_GrantServerModel_revoke_4 : decode b_GrantServerModel_revoke 4 = .ok (.ifCond .ge 6, 3) := by decide +kernel
theorem d_GrantServerModel_revoke_7 : decode b_GrantServerModel_revoke 7 = .ok (.bipush (-2), 2) := by decide +kernel
theorem d_GrantServerModel_revoke_9 : decode b_GrantServerModel_revoke 9 = .ok (.ireturn, 1) := by decide +kernel
theorem d_GrantServerModel_revoke_10 : decode b_GrantServerModel_revoke 10 = .ok (.iload_n 1, 1) := by decide +kernel
theorem d_GrantServerModel_revoke_11 : decode b_GrantServerModel_revoke 11 = .ok (.iconst 1, 1) := by decide +kernel
theorem d_GrantServerModel_revoke_12 : decode b_GrantServerModel_revoke 12 = .ok (.if_icmp .eq 10, 3) := by decide +kernel
theorem d_GrantServerModel_revoke_15 : decode b_GrantServerModel_revoke 15 = .ok (.iload_n 1, 1) := by decide +kernel
theorem d_GrantServerModel_revoke_16 : decode b_GrantServerModel_revoke 16 = .ok (.iconst 2, 1) := by decide +kernel
theorem d_GrantServerModel_revoke_17 : decode b_GrantServerModel_revoke 17 = .ok (.if_icmp .eq 5, 3) := by decide +kernel
theorem d_GrantServerModel_revoke_20 : decode b_GrantServerModel_revoke 20 = .ok (.iconst (-1), 1) := by decide +kernel
theorem d_GrantServerModel_revoke_21 : decode b_GrantServerModel_revoke 21 = .ok (.ireturn, 1) := by decide +kernel
theorem d_GrantServerModel_revoke_22 : decode b_GrantServerModel_revoke 22 = .ok (.aload_n 0, 1) := by decide +kernel
theorem d_GrantServerModel_revoke_23 : decode b_GrantServerModel_revoke 23 = .ok (.invokevirtual 148, 3) := by decide +kernel
theorem d_GrantServerModel_revoke_26 : decode b_GrantServerModel_revoke 26 = .ok (.istore_n 3, 1) := by decide +kernel
theorem d_GrantServerModel_revoke_27 : decode b_GrantServerModel_revoke 27 = .ok (.aload_n 0, 1) := by decide +kernel
theorem d_GrantServerModel_revoke_28 : decode b_GrantServerModel_revoke 28 = .ok (.iload_n 1, 1) := by decide +kernel
theorem d_GrantServerModel_revoke_29 : decode b_GrantServerModel_revoke 29 = .ok (.iload_n 2, 1) := by decide +kernel
theorem d_GrantServerModel_revoke_30 : decode b_GrantServerModel_revoke 30 = .ok (.invokevirtual 100, 3) := by decide +kernel
theorem d_GrantServerModel_revoke_33 : decode b_GrantServerModel_revoke 33 = .ok (.istore 4, 2) := by decide +kernel
theorem d_GrantServerModel_revoke_35 : decode b_GrantServerModel_revoke 35 = .ok (.iload 4, 2) := by decide +kernel
theorem d_GrantServerModel_revoke_37 : decode b_GrantServerModel_revoke 37 = .ok (.ifCond .lt 46, 3) := by decide +kernel
theorem d_GrantServerModel_revoke_40 : decode b_GrantServerModel_revoke 40 = .ok (.aload_n 0, 1) := by decide +kernel
theorem d_GrantServerModel_revoke_41 : decode b_GrantServerModel_revoke 41 = .ok (.getfield 26, 3) := by decide +kernel
theorem d_GrantServerModel_revoke_44 : decode b_GrantServerModel_revoke 44 = .ok (.iload 4, 2) := by decide +kernel
theorem d_GrantServerModel_revoke_46 : decode b_GrantServerModel_revoke 46 = .ok (.iaload, 1) := by decide +kernel
theorem d_GrantServerModel_revoke_47 : decode b_GrantServerModel_revoke 47 = .ok (.aload_n 0, 1) := by decide +kernel
theorem d_GrantServerModel_revoke_48 : decode b_GrantServerModel_revoke 48 = .ok (.getfield 19, 3) := by decide +kernel
theorem d_GrantServerModel_revoke_51 : decode b_GrantServerModel_revoke 51 = .ok (.if_icmp .ne 32, 3) := by decide +kernel
theorem d_GrantServerModel_revoke_54 : decode b_GrantServerModel_revoke 54 = .ok (.iload_n 1, 1) := by decide +kernel
theorem d_GrantServerModel_revoke_55 : decode b_GrantServerModel_revoke 55 = .ok (.iconst 1, 1) := by decide +kernel
theorem d_GrantServerModel_revoke_56 : decode b_GrantServerModel_revoke 56 = .ok (.if_icmp .ne 19, 3) := by decide +kernel
theorem d_GrantServerModel_revoke_59 : decode b_GrantServerModel_revoke 59 = .ok (.aload_n 0, 1) := by decide +kernel
theorem d_GrantServerModel_revoke_60 : decode b_GrantServerModel_revoke 60 = .ok (.getfield 54, 3) := by decide +kernel
theorem d_GrantServerModel_revoke_63 : decode b_GrantServerModel_revoke 63 = .ok (.aload_n 0, 1) := by decide +kernel
theorem d_GrantServerModel_revoke_64 : decode b_GrantServerModel_revoke 64 = .ok (.getfield 39, 3) := by decide +kernel
theorem d_GrantServerModel_revoke_67 : decode b_GrantServerModel_revoke 67 = .ok (.iload 4, 2) := by decide +kernel
theorem d_GrantServerModel_revoke_69 : decode b_GrantServerModel_revoke 69 = .ok (.iaload, 1) := by decide +kernel
theorem d_GrantServerModel_revoke_70 : decode b_GrantServerModel_revoke 70 = .ok (.iconst 1, 1) := by decide +kernel
theorem d_GrantServerModel_revoke_71 : decode b_GrantServerModel_revoke 71 = .ok (.bastore, 1) := by decide +kernel
theorem d_GrantServerModel_revoke_72 : decode b_GrantServerModel_revoke 72 = .ok (.goto 11, 3) := by decide +kernel
theorem d_GrantServerModel_revoke_75 : decode b_GrantServerModel_revoke 75 = .ok (.aload_n 0, 1) := by decide +kernel
theorem d_GrantServerModel_revoke_76 : decode b_GrantServerModel_revoke 76 = .ok (.getfield 35, 3) := by decide +kernel
theorem d_GrantServerModel_revoke_79 : decode b_GrantServerModel_revoke 79 = .ok (.iload 4, 2) := by decide +kernel
theorem d_GrantServerModel_revoke_81 : decode b_GrantServerModel_revoke 81 = .ok (.iconst 1, 1) := by decide +kernel
theorem d_GrantServerModel_revoke_82 : decode b_GrantServerModel_revoke 82 = .ok (.bastore, 1) := by decide +kernel
theorem d_GrantServerModel_revoke_83 : decode b_GrantServerModel_revoke 83 = .ok (.iload_n 3, 1) := by decide +kernel
theorem d_GrantServerModel_revoke_84 : decode b_GrantServerModel_revoke 84 = .ok (.aload_n 0, 1) := by decide +kernel
theorem d_GrantServerModel_revoke_85 : decode b_GrantServerModel_revoke 85 = .ok (.invokevirtual 148, 3) := by decide +kernel
theorem d_GrantServerModel_revoke_88 : decode b_GrantServerModel_revoke 88 = .ok (.isub, 1) := by decide +kernel
theorem d_GrantServerModel_revoke_89 : decode b_GrantServerModel_revoke 89 = .ok (.ireturn, 1) := by decide +kernel
theorem d_GrantServerModel_active_0 : decode b_GrantServerModel_active 0 = .ok (.iload_n 1, 1) := by decide +kernel
theorem d_GrantServerModel_active_1 : decode b_GrantServerModel_active 1 = .ok (.ifCond .lt 8, 3) := by decide +kernel
theorem d_GrantServerModel_active_4 : decode b_GrantServerModel_active 4 = .ok (.iload_n 1, 1) := by decide +kernel
theorem d_GrantServerModel_active_5 : decode b_GrantServerModel_active 5 = .ok (.iconst 2, 1) := by decide +kernel
theorem d_GrantServerModel_active_6 : decode b_GrantServerModel_active 6 = .ok (.if_icmp .le 7, 3) := by decide +kernel
theorem d_GrantServerModel_active_9 : decode b_GrantServerModel_active 9 = .ok (.iconst (-1), 1) := by decide +kernel
theorem d_GrantServerModel_active_10 : decode b_GrantServerModel_active 10 = .ok (.goto 9, 3) := by decide +kernel
theorem d_GrantServerModel_active_13 : decode b_GrantServerModel_active 13 = .ok (.aload_n 0, 1) := by decide +kernel
theorem d_GrantServerModel_active_14 : decode b_GrantServerModel_active 14 = .ok (.iload_n 1, 1) := by decide +kernel
theorem d_GrantServerModel_active_15 : decode b_GrantServerModel_active 15 = .ok (.iload_n 2, 1) := by decide +kernel
theorem d_GrantServerModel_active_16 : decode b_GrantServerModel_active 16 = .ok (.invokevirtual 100, 3) := by decide +kernel
theorem d_GrantServerModel_active_19 : decode b_GrantServerModel_active 19 = .ok (.istore_n 3, 1) := by decide +kernel
theorem d_GrantServerModel_active_20 : decode b_GrantServerModel_active 20 = .ok (.iload_n 3, 1) := by decide +kernel
theorem d_GrantServerModel_active_21 : decode b_GrantServerModel_active 21 = .ok (.ifCond .lt 15, 3) := by decide +kernel
theorem d_GrantServerModel_active_24 : decode b_GrantServerModel_active 24 = .ok (.aload_n 0, 1) := by decide +kernel
theorem d_GrantServerModel_active_25 : decode b_GrantServerModel_active 25 = .ok (.iload_n 3, 1) := by decide +kernel
theorem d_GrantServerModel_active_26 : decode b_GrantServerModel_active 26 = .ok (.invokevirtual 145, 3) := by decide +kernel
theorem d_GrantServerModel_active_29 : decode b_GrantServerModel_active 29 = .ok (.ifCond .eq 7, 3) := by decide +kernel
theorem d_GrantServerModel_active_32 : decode b_GrantServerModel_active 32 = .ok (.iconst 1, 1) := by decide +kernel
theorem d_GrantServerModel_active_33 : decode b_GrantServerModel_active 33 = .ok (.goto 4, 3) := by decide +kernel
theorem d_GrantServerModel_active_36 : decode b_GrantServerModel_active 36 = .ok (.iconst 0, 1) := by decide +kernel
theorem d_GrantServerModel_active_37 : decode b_GrantServerModel_active 37 = .ok (.ireturn, 1) := by decide +kernel
theorem d_GrantServerModel_wrap_0 : decode b_GrantServerModel_wrap 0 = .ok (.bipush 8, 2) := by decide +kernel
theorem d_GrantServerModel_wrap_2 : decode b_GrantServerModel_wrap 2 = .ok (.aload_n 0, 1) := by decide +kernel
theorem d_GrantServerModel_wrap_3 : decode b_GrantServerModel_wrap 3 = .ok (.getfield 175, 3) := by decide +kernel
theorem d_GrantServerModel_wrap_6 : decode b_GrantServerModel_wrap 6 = .ok (.imul, 1) := by decide +kernel
theorem d_GrantServerModel_wrap_7 : decode b_GrantServerModel_wrap 7 = .ok (.iconst 5, 1) := by decide +kernel
theorem d_GrantServerModel_wrap_8 : decode b_GrantServerModel_wrap 8 = .ok (.iadd, 1) := by decide +kernel
theorem d_GrantServerModel_wrap_9 : decode b_GrantServerModel_wrap 9 = .ok (.bipush 6, 2) := by decide +kernel
theorem d_GrantServerModel_wrap_11 : decode b_GrantServerModel_wrap 11 = .ok (.idiv, 1) := by decide +kernel
theorem d_GrantServerModel_wrap_12 : decode b_GrantServerModel_wrap 12 = .ok (.bipush 11, 2) := by decide +kernel
theorem d_GrantServerModel_wrap_14 : decode b_GrantServerModel_wrap 14 = .ok (.iadd, 1) := by decide +kernel
theorem d_GrantServerModel_wrap_15 : decode b_GrantServerModel_wrap 15 = .ok (.bipush 120, 2) := by decide +kernel
theorem d_GrantServerModel_wrap_17 : decode b_GrantServerModel_wrap 17 = .ok (.if_icmp .le 5, 3) := by decide +kernel
theorem d_GrantServerModel_wrap_20 : decode b_GrantServerModel_wrap 20 = .ok (.iconst (-1), 1) := by decide +kernel
theorem d_GrantServerModel_wrap_21 : decode b_GrantServerModel_wrap 21 = .ok (.ireturn, 1) := by decide +kernel
theorem d_GrantServerModel_wrap_22 : decode b_GrantServerModel_wrap 22 = .ok (.aload_n 0, 1) := by decide +kernel
theorem d_GrantServerModel_wrap_23 : decode b_GrantServerModel_wrap 23 = .ok (.aload_n 0, 1) := by decide +kernel
theorem d_GrantServerModel_wrap_24 : decode b_GrantServerModel_wrap 24 = .ok (.getfield 175, 3) := by decide +kernel
theorem d_GrantServerModel_wrap_27 : decode b_GrantServerModel_wrap 27 = .ok (.putfield 121, 3) := by decide +kernel
theorem d_GrantServerModel_wrap_30 : decode b_GrantServerModel_wrap 30 = .ok (.iconst 0, 1) := by decide +kernel
theorem d_GrantServerModel_wrap_31 : decode b_GrantServerModel_wrap 31 = .ok (.istore_n 1, 1) := by decide +kernel
theorem d_GrantServerModel_wrap_32 : decode b_GrantServerModel_wrap 32 = .ok (.iload_n 1, 1) := by decide +kernel
theorem d_GrantServerModel_wrap_33 : decode b_GrantServerModel_wrap 33 = .ok (.aload_n 0, 1) := by decide +kernel
theorem d_GrantServerModel_wrap_34 : decode b_GrantServerModel_wrap 34 = .ok (.getfield 175, 3) := by decide +kernel
theorem d_GrantServerModel_wrap_37 : decode b_GrantServerModel_wrap 37 = .ok (.if_icmp .ge 21, 3) := by decide +kernel
theorem d_GrantServerModel_wrap_40 : decode b_GrantServerModel_wrap 40 = .ok (.aload_n 0, 1) := by decide +kernel
theorem d_GrantServerModel_wrap_41 : decode b_GrantServerModel_wrap 41 = .ok (.getfield 63, 3) := by decide +kernel
theorem d_GrantServerModel_wrap_44 : decode b_GrantServerModel_wrap 44 = .ok (.iload_n 1, 1) := by decide +kernel
theorem d_GrantServerModel_wrap_45 : decode b_GrantServerModel_wrap 45 = .ok (.aload_n 0, 1) := by decide +kernel
theorem d_GrantServerModel_wrap_46 : decode b_GrantServerModel_wrap 46 = .ok (.getfield 57, 3) := by decide +kernel
theorem d_GrantServerModel_wrap_49 : decode b_GrantServerModel_wrap 49 = .ok (.iload_n 1, 1) := by decide +kernel
theorem d_GrantServerModel_wrap_50 : decode b_GrantServerModel_wrap 50 = .ok (.iaload, 1) := by decide +kernel
theorem d_GrantServerModel_wrap_51 : decode b_GrantServerModel_wrap 51 = .ok (.iastore, 1) := by decide +kernel
theorem d_GrantServerModel_wrap_52 : decode b_GrantServerModel_wrap 52 = .ok (.iinc 1 1, 3) := by decide +kernel
theorem d_GrantServerModel_wrap_55 : decode b_GrantServerModel_wrap 55 = .ok (.goto (-23), 3) := by decide +kernel
theorem d_GrantServerModel_wrap_58 : decode b_GrantServerModel_wrap 58 = .ok (.aload_n 0, 1) := by decide +kernel
theorem d_GrantServerModel_wrap_59 : decode b_GrantServerModel_wrap 59 = .ok (.invokevirtual 131, 3) := by decide +kernel
theorem d_GrantServerModel_wrap_62 : decode b_GrantServerModel_wrap 62 = .ok (.aload_n 0, 1) := by decide +kernel
theorem d_GrantServerModel_wrap_63 : decode b_GrantServerModel_wrap 63 = .ok (.getfield 160, 3) := by decide +kernel
theorem d_GrantServerModel_wrap_66 : decode b_GrantServerModel_wrap 66 = .ok (.ireturn, 1) := by decide +kernel
theorem d_GrantServerModel_isForm_0 : decode b_GrantServerModel_isForm 0 = .ok (.aload_n 0, 1) := by decide +kernel
theorem d_GrantServerModel_isForm_1 : decode b_GrantServerModel_isForm 1 = .ok (.getfield 175, 3) := by decide +kernel
theorem d_GrantServerModel_isForm_4 : decode b_GrantServerModel_isForm 4 = .ok (.bipush 11, 2) := by decide +kernel
theorem d_GrantServerModel_isForm_6 : decode b_GrantServerModel_isForm 6 = .ok (.isub, 1) := by decide +kernel
theorem d_GrantServerModel_isForm_7 : decode b_GrantServerModel_isForm 7 = .ok (.istore_n 1, 1) := by decide +kernel
theorem d_GrantServerModel_isForm_8 : decode b_GrantServerModel_isForm 8 = .ok (.iload_n 1, 1) := by decide +kernel
theorem d_GrantServerModel_isForm_9 : decode b_GrantServerModel_isForm 9 = .ok (.ifCond .lt 21, 3) := by decide +kernel
theorem d_GrantServerModel_isForm_12 : decode b_GrantServerModel_isForm 12 = .ok (.aload_n 0, 1) := by decide +kernel
theorem d_GrantServerModel_isForm_13 : decode b_GrantServerModel_isForm 13 = .ok (.getfield 57, 3) := by decide +kernel
theorem d_GrantServerModel_isForm_16 : decode b_GrantServerModel_isForm 16 = .ok (.iload_n 1, 1) := by decide +kernel
theorem d_GrantServerModel_isForm_17 : decode b_GrantServerModel_isForm 17 = .ok (.iaload, 1) := by decide +kernel
theorem d_GrantServerModel_isForm_18 : decode b_GrantServerModel_isForm 18 = .ok (.bipush 46, 2) := by decide +kernel
theorem d_GrantServerModel_isForm_20 : decode b_GrantServerModel_isForm 20 = .ok (.if_icmp .ne 10, 3) := by decide +kernel
theorem d_GrantServerModel_isForm_23 : decode b_GrantServerModel_isForm 23 = .ok (.iload_n 1, 1) := by decide +kernel
theorem d_GrantServerModel_isForm_24 : decode b_GrantServerModel_isForm 24 = .ok (.iconst 4, 1) := by decide +kernel
theorem d_GrantServerModel_isForm_25 : decode b_GrantServerModel_isForm 25 = .ok (.irem, 1) := by decide +kernel
theorem d_GrantServerModel_isForm_26 : decode b_GrantServerModel_isForm 26 = .ok (.iconst 1, 1) := by decide +kernel
theorem d_GrantServerModel_isForm_27 : decode b_GrantServerModel_isForm 27 = .ok (.if_icmp .ne 5, 3) := by decide +kernel
theorem d_GrantServerModel_isForm_30 : decode b_GrantServerModel_isForm 30 = .ok (.iconst 0, 1) := by decide +kernel
theorem d_GrantServerModel_isForm_31 : decode b_GrantServerModel_isForm 31 = .ok (.ireturn, 1) := by decide +kernel
theorem d_GrantServerModel_isForm_32 : decode b_GrantServerModel_isForm 32 = .ok (.iconst 0, 1) := by decide +kernel
theorem d_GrantServerModel_isForm_33 : decode b_GrantServerModel_isForm 33 = .ok (.istore_n 2, 1) := by decide +kernel
theorem d_GrantServerModel_isForm_34 : decode b_GrantServerModel_isForm 34 = .ok (.iload_n 2, 1) := by decide +kernel
theorem d_GrantServerModel_isForm_35 : decode b_GrantServerModel_isForm 35 = .ok (.aload_n 0, 1) := by decide +kernel
theorem d_GrantServerModel_isForm_36 : decode b_GrantServerModel_isForm 36 = .ok (.getfield 175, 3) := by decide +kernel
theorem d_GrantServerModel_isForm_39 : decode b_GrantServerModel_isForm 39 = .ok (.if_icmp .ge 28, 3) := by decide +kernel
theorem d_GrantServerModel_isForm_42 : decode b_GrantServerModel_isForm 42 = .ok (.iload_n 2, 1) := by decide +kernel
theorem d_GrantServerModel_isForm_43 : decode b_GrantServerModel_isForm 43 = .ok (.iload_n 1, 1) := by decide +kernel
theorem d_GrantServerModel_isForm_44 : decode b_GrantServerModel_isForm 44 = .ok (.if_icmp .eq 17, 3) := by decide +kernel
theorem d_GrantServerModel_isForm_47 : decode b_GrantServerModel_isForm 47 = .ok (.aload_n 0, 1) := by decide +kernel
theorem d_GrantServerModel_isForm_48 : decode b_GrantServerModel_isForm 48 = .ok (.getfield 57, 3) := by decide +kernel
theorem d_GrantServerModel_isForm_51 : decode b_GrantServerModel_isForm 51 = .ok (.iload_n 2, 1) := by decide +kernel
theorem d_GrantServerModel_isForm_52 : decode b_GrantServerModel_isForm 52 = .ok (.iaload, 1) := by decide +kernel
theorem d_GrantServerModel_isForm_53 : decode b_GrantServerModel_isForm 53 = .ok (.invokestatic 185, 3) := by decide +kernel
theorem d_GrantServerModel_isForm_56 : decode b_GrantServerModel_isForm 56 = .ok (.ifCond .ge 5, 3) := by decide +kernel
theorem d_GrantServerModel_isForm_59 : decode b_GrantServerModel_isForm 59 = .ok (.iconst 0, 1) := by decide +kernel
theorem d_GrantServerModel_isForm_60 : decode b_GrantServerModel_isForm 60 = .ok (.ireturn, 1) := by decide +kernel
theorem d_GrantServerModel_isForm_61 : decode b_GrantServerModel_isForm 61 = .ok (.iinc 2 1, 3) := by decide +kernel
theorem d_GrantServerModel_isForm_64 : decode b_GrantServerModel_isForm 64 = .ok (.goto (-30), 3) := by decide +kernel
theorem d_GrantServerModel_isForm_67 : decode b_GrantServerModel_isForm 67 = .ok (.iload_n 1, 1) := by decide +kernel
theorem d_GrantServerModel_isForm_68 : decode b_GrantServerModel_isForm 68 = .ok (.ifCond .le 17, 3) := by decide +kernel
theorem d_GrantServerModel_isForm_71 : decode b_GrantServerModel_isForm 71 = .ok (.aload_n 0, 1) := by decide +kernel
theorem d_GrantServerModel_isForm_72 : decode b_GrantServerModel_isForm 72 = .ok (.getfield 57, 3) := by decide +kernel
theorem d_GrantServerModel_isForm_75 : decode b_GrantServerModel_isForm 75 = .ok (.iload_n 1, 1) := by decide +kernel
theorem d_GrantServerModel_isForm_76 : decode b_GrantServerModel_isForm 76 = .ok (.iconst 1, 1) := by decide +kernel
theorem d_GrantServerModel_isForm_77 : decode b_GrantServerModel_isForm 77 = .ok (.isub, 1) := by decide +kernel
theorem d_GrantServerModel_isForm_78 : decode b_GrantServerModel_isForm 78 = .ok (.iaload, 1) := by decide +kernel
theorem d_GrantServerModel_isForm_79 : decode b_GrantServerModel_isForm 79 = .ok (.invokestatic 185, 3) := by decide +kernel
theorem d_GrantServerModel_isForm_82 : decode b_GrantServerModel_isForm 82 = .ok (.goto 4, 3) := by decide +kernel
theorem d_GrantServerModel_isForm_85 : decode b_GrantServerModel_isForm 85 = .ok (.iconst 0, 1) := by decide +kernel
theorem d_GrantServerModel_isForm_86 : decode b_GrantServerModel_isForm 86 = .ok (.istore_n 2, 1) := by decide +kernel
theorem d_GrantServerModel_isForm_87 : decode b_GrantServerModel_isForm 87 = .ok (.iload_n 1, 1) := by decide +kernel
theorem d_GrantServerModel_isForm_88 : decode b_GrantServerModel_isForm 88 = .ok (.iconst 4, 1) := by decide +kernel
theorem d_GrantServerModel_isForm_89 : decode b_GrantServerModel_isForm 89 = .ok (.irem, 1) := by decide +kernel
theorem d_GrantServerModel_isForm_90 : decode b_GrantServerModel_isForm 90 = .ok (.ifCond .eq 23, 3) := by decide +kernel
theorem d_GrantServerModel_isForm_93 : decode b_GrantServerModel_isForm 93 = .ok (.iload_n 1, 1) := by decide +kernel
theorem d_GrantServerModel_isForm_94 : decode b_GrantServerModel_isForm 94 = .ok (.iconst 4, 1) := by decide +kernel
theorem d_GrantServerModel_isForm_95 : decode b_GrantServerModel_isForm 95 = .ok (.irem, 1) := by decide +kernel
theorem d_GrantServerModel_isForm_96 : decode b_GrantServerModel_isForm 96 = .ok (.iconst 2, 1) := by decide +kernel
theorem d_GrantServerModel_isForm_97 : decode b_GrantServerModel_isForm 97 = .ok (.if_icmp .ne 10, 3) := by decide +kernel
theorem d_GrantServerModel_isForm_100 : decode b_GrantServerModel_isForm 100 = .ok (.iload_n 2, 1) := by decide +kernel
theorem d_GrantServerModel_isForm_101 : decode b_GrantServerModel_isForm 101 = .ok (.bipush 16, 2) := by decide +kernel
theorem d_GrantServerModel_isForm_103 : decode b_GrantServerModel_isForm 103 = .ok (.irem, 1) := by decide +kernel
theorem d_GrantServerModel_isForm_104 : decode b_GrantServerModel_isForm 104 = .ok (.goto 6, 3) := by decide +kernel
theorem d_GrantServerModel_isForm_107 : decode b_GrantServerModel_isForm 107 = .ok (.iload_n 2, 1) := by decide +kernel
theorem d_GrantServerModel_isForm_108 : decode b_GrantServerModel_isForm 108 = .ok (.iconst 4, 1) := by decide +kernel
theorem d_GrantServerModel_isForm_109 : decode b_GrantServerModel_isForm 109 = .ok (.irem, 1) := by decide +kernel
theorem d_GrantServerModel_isForm_110 : decode b_GrantServerModel_isForm 110 = .ok (.ifCond .ne 7, 3) := by decide +kernel
theorem d_GrantServerModel_isForm_113 : decode b_GrantServerModel_isForm 113 = .ok (.iconst 1, 1) := by decide +kernel
theorem d_GrantServerModel_isForm_114 : decode b_GrantServerModel_isForm 114 = .ok (.goto 4, 3) := by decide +kernel
theorem d_GrantServerModel_isForm_117 : decode b_GrantServerModel_isForm 117 = .ok (.iconst 0, 1) := by decide +kernel
theorem d_GrantServerModel_isForm_118 : decode b_GrantServerModel_isForm 118 = .ok (.ireturn, 1) := by decide +kernel
theorem d_GrantServerModel_check_0 : decode b_GrantServerModel_check 0 = .ok (.aload_n 0, 1) := by decide +kernel
theorem d_GrantServerModel_check_1 : decode b_GrantServerModel_check 1 = .ok (.invokevirtual 207, 3) := by decide +kernel
theorem d_GrantServerModel_check_4 : decode b_GrantServerModel_check 4 = .ok (.ifCond .ne 6, 3) := by decide +kernel
theorem d_GrantServerModel_check_7 : decode b_GrantServerModel_check 7 = .ok (.bipush (-7), 2) := by decide +kernel
theorem d_GrantServerModel_check_9 : decode b_GrantServerModel_check 9 = .ok (.ireturn, 1) := by decide +kernel
theorem d_GrantServerModel_check_10 : decode b_GrantServerModel_check 10 = .ok (.aload_n 0, 1) := by decide +kernel
theorem d_GrantServerModel_check_11 : decode b_GrantServerModel_check 11 = .ok (.invokevirtual 210, 3) := by decide +kernel
theorem d_GrantServerModel_check_14 : decode b_GrantServerModel_check 14 = .ok (.ifCond .ne 6, 3) := by decide +kernel
theorem d_GrantServerModel_check_17 : decode b_GrantServerModel_check 17 = .ok (.bipush (-8), 2) := by decide +kernel
theorem d_GrantServerModel_check_19 : decode b_GrantServerModel_check 19 = .ok (.ireturn, 1) := by decide +kernel
theorem d_GrantServerModel_check_20 : decode b_GrantServerModel_check 20 = .ok (.aload_n 0, 1) := by decide +kernel
theorem d_GrantServerModel_check_21 : decode b_GrantServerModel_check 21 = .ok (.invokevirtual 213, 3) := by decide +kernel
theorem d_GrantServerModel_check_24 : decode b_GrantServerModel_check 24 = .ok (.aload_n 0, 1) := by decide +kernel
theorem d_GrantServerModel_check_25 : decode b_GrantServerModel_check 25 = .ok (.invokevirtual 216, 3) := by decide +kernel
theorem d_GrantServerModel_check_28 : decode b_GrantServerModel_check 28 = .ok (.ifCond .ne 6, 3) := by decide +kernel
theorem d_GrantServerModel_check_31 : decode b_GrantServerModel_check 31 = .ok (.bipush (-9), 2) := by decide +kernel
theorem d_GrantServerModel_check_33 : decode b_GrantServerModel_check 33 = .ok (.ireturn, 1) := by decide +kernel
theorem d_GrantServerModel_check_34 : decode b_GrantServerModel_check 34 = .ok (.aload_n 0, 1) := by decide +kernel
theorem d_GrantServerModel_check_35 : decode b_GrantServerModel_check 35 = .ok (.getfield 66, 3) := by decide +kernel
theorem d_GrantServerModel_check_38 : decode b_GrantServerModel_check 38 = .ok (.iconst 2, 1) := by decide +kernel
theorem d_GrantServerModel_check_39 : decode b_GrantServerModel_check 39 = .ok (.iaload, 1) := by decide +kernel
theorem d_GrantServerModel_check_40 : decode b_GrantServerModel_check 40 = .ok (.aload_n 0, 1) := by decide +kernel
theorem d_GrantServerModel_check_41 : decode b_GrantServerModel_check 41 = .ok (.getfield 104, 3) := by decide +kernel
theorem d_GrantServerModel_check_44 : decode b_GrantServerModel_check 44 = .ok (.if_icmp .gt 6, 3) := by decide +kernel
theorem d_GrantServerModel_check_47 : decode b_GrantServerModel_check 47 = .ok (.bipush (-10), 2) := by decide +kernel
theorem d_GrantServerModel_check_49 : decode b_GrantServerModel_check 49 = .ok (.ireturn, 1) := by decide +kernel
theorem d_GrantServerModel_check_50 : decode b_GrantServerModel_check 50 = .ok (.aload_n 0, 1) := by decide +kernel
theorem d_GrantServerModel_check_51 : decode b_GrantServerModel_check 51 = .ok (.iconst 2, 1) := by decide +kernel
theorem d_GrantServerModel_check_52 : decode b_GrantServerModel_check 52 = .ok (.aload_n 0, 1) := by decide +kernel
theorem d_GrantServerModel_check_53 : decode b_GrantServerModel_check 53 = .ok (.getfield 66, 3) := by decide +kernel
theorem d_GrantServerModel_check_56 : decode b_GrantServerModel_check 56 = .ok (.iconst 3, 1) := by decide +kernel
theorem d_GrantServerModel_check_57 : decode b_GrantServerModel_check 57 = .ok (.iaload, 1) := by decide +kernel
theorem d_GrantServerModel_check_58 : decode b_GrantServerModel_check 58 = .ok (.invokevirtual 100, 3) := by decide +kernel
theorem d_GrantServerModel_check_61 : decode b_GrantServerModel_check 61 = .ok (.istore_n 3, 1) := by decide +kernel
theorem d_GrantServerModel_check_62 : decode b_GrantServerModel_check 62 = .ok (.iload_n 3, 1) := by decide +kernel
theorem d_GrantServerModel_check_63 : decode b_GrantServerModel_check 63 = .ok (.ifCond .lt 11, 3) := by decide +kernel
theorem d_GrantServerModel_check_66 : decode b_GrantServerModel_check 66 = .ok (.aload_n 0, 1) := by decide +kernel
theorem d_GrantServerModel_check_67 : decode b_GrantServerModel_check 67 = .ok (.iload_n 3, 1) := by decide +kernel
theorem d_GrantServerModel_check_68 : decode b_GrantServerModel_check 68 = .ok (.invokevirtual 145, 3) := by decide +kernel
theorem d_GrantServerModel_check_71 : decode b_GrantServerModel_check 71 = .ok (.ifCond .ne 6, 3) := by decide +kernel
theorem d_GrantServerModel_check_74 : decode b_GrantServerModel_check 74 = .ok (.bipush (-11), 2) := by decide +kernel
theorem d_GrantServerModel_check_76 : decode b_GrantServerModel_check 76 = .ok (.ireturn, 1) := by decide +kernel
theorem d_GrantServerModel_check_77 : decode b_GrantServerModel_check 77 = .ok (.aload_n 0, 1) := by decide +kernel
theorem d_GrantServerModel_check_78 : decode b_GrantServerModel_check 78 = .ok (.getfield 66, 3) := by decide +kernel
theorem d_GrantServerModel_check_81 : decode b_GrantServerModel_check 81 = .ok (.iconst 1, 1) := by decide +kernel
theorem d_GrantServerModel_check_82 : decode b_GrantServerModel_check 82 = .ok (.iaload, 1) := by decide +kernel
theorem d_GrantServerModel_check_83 : decode b_GrantServerModel_check 83 = .ok (.iload_n 1, 1) := by decide +kernel
theorem d_GrantServerModel_check_84 : decode b_GrantServerModel_check 84 = .ok (.if_icmp .eq 6, 3) := by decide +kernel
theorem d_GrantServerModel_check_87 : decode b_GrantServerModel_check 87 = .ok (.bipush (-12), 2) := by decide +kernel
theorem d_GrantServerModel_check_89 : decode b_GrantServerModel_check 89 = .ok (.ireturn, 1) := by decide +kernel
theorem d_GrantServerModel_check_90 : decode b_GrantServerModel_check 90 = .ok (.iload_n 2, 1) := by decide +kernel
theorem d_GrantServerModel_check_91 : decode b_GrantServerModel_check 91 = .ok (.bipush 15, 2) := by decide +kernel
theorem d_GrantServerModel_check_93 : decode b_GrantServerModel_check 93 = .ok (.iand, 1) := by decide +kernel
theorem d_GrantServerModel_check_94 : decode b_GrantServerModel_check 94 = .ok (.aload_n 0, 1) := by decide +kernel
theorem d_GrantServerModel_check_95 : decode b_GrantServerModel_check 95 = .ok (.getfield 66, 3) := by decide +kernel
theorem d_GrantServerModel_check_98 : decode b_GrantServerModel_check 98 = .ok (.iconst 4, 1) := by decide +kernel
theorem d_GrantServerModel_check_99 : decode b_GrantServerModel_check 99 = .ok (.iaload, 1) := by decide +kernel
theorem d_GrantServerModel_check_100 : decode b_GrantServerModel_check 100 = .ok (.iconst (-1), 1) := by decide +kernel
theorem d_GrantServerModel_check_101 : decode b_GrantServerModel_check 101 = .ok (.ixor, 1) := by decide +kernel
theorem d_GrantServerModel_check_102 : decode b_GrantServerModel_check 102 = .ok (.iand, 1) := by decide +kernel
theorem d_GrantServerModel_check_103 : decode b_GrantServerModel_check 103 = .ok (.ifCond .eq 8, 3) := by decide +kernel
theorem d_GrantServerModel_check_106 : decode b_GrantServerModel_check 106 = .ok (.bipush (-4), 2) := by decide +kernel
theorem d_GrantServerModel_check_108 : decode b_GrantServerModel_check 108 = .ok (.goto 9, 3) := by decide +kernel
theorem d_GrantServerModel_check_111 : decode b_GrantServerModel_check 111 = .ok (.aload_n 0, 1) := by decide +kernel
theorem d_GrantServerModel_check_112 : decode b_GrantServerModel_check 112 = .ok (.getfield 66, 3) := by decide +kernel
theorem d_GrantServerModel_check_115 : decode b_GrantServerModel_check 115 = .ok (.iconst 0, 1) := by decide +kernel
theorem d_GrantServerModel_check_116 : decode b_GrantServerModel_check 116 = .ok (.iaload, 1) := by decide +kernel
theorem d_GrantServerModel_check_117 : decode b_GrantServerModel_check 117 = .ok (.ireturn, 1) := by decide +kernel
set_option maxRecDepth 20000 in
theorem me_GrantServerModel_isForm : hm_meV y_GrantServerModel_isForm b_GrantServerModel_isForm 3 (some .boolean) 0 := ⟨⟨(TBm 934 rfl rfl), (TBm 47 (by decide +kernel) rfl), by decide +kernel⟩, (TBm 933 (by decide +kernel) rfl), (TBm 30 (by decide +kernel) rfl)⟩
set_option maxRecDepth 20000 in
theorem me_GrantServerModel_wrapPlain : hm_meV y_GrantServerModel_wrapPlain b_GrantServerModel_wrapPlain 5 none 0 := ⟨⟨(TBm 858 rfl rfl), (TBm 47 (by decide +kernel) rfl), by decide +kernel⟩, (TBm 857 (by decide +kernel) rfl), (TBm 26 (by decide +kernel) rfl)⟩
set_option maxRecDepth 20000 in
theorem wl_GrantServerModel_131 : Cond.methodLink R_GrantServerModel 131 y_GrantServerModel_wrapPlain ∈ TB := TBm 855 (by decide +kernel) rfl
set_option maxRecDepth 20000 in
theorem wl_GrantServerModel_207 : Cond.methodLink R_GrantServerModel 207 y_GrantServerModel_isForm ∈ TB := TBm 931 (by decide +kernel) rfl
set_option maxHeartbeats 4000000 in
set_option maxRecDepth 100000 in
theorem m_c_authorize_no (l : Launch) (D : va_G) (k : Nat → ClassId) (f : hm) (h : Nat) (ad : Nat → Nat) (sk : Int64) (v : Nat → Int32) (c : Nat → Nat → Int32) (x : Int32) (b : Int32) (d : Int32) (g : Int32) (y : Int32) (hmo : mo k f h ad sk v c) (hz : m_isC (v 8) x = 0) : hm_Mi l D vwCl (tyL k) y_GrantServerModel_authorize (Cond.code y_GrantServerModel_authorize b_GrantServerModel_authorize 7 (some .int) :: TB) ({ frames := 1, cells := 0, slots := 0, locals := 21 }) [.ref h, .int x, .int b, .int d, .int g, .int y] f (fun (r : Int32) (f1 : hm) => (-1) = r ∧ f = f1) 0 0 := by
  refine hm_enter (Qc := fun sz => va_Qi _ (hm_R D vwCl (tyL k) f sz) (hm_A f sz)) (by decide) rfl (Nat.le_of_ble_eq_true rfl) ?_
  intro p e s m below meth cd ls X0 hr hlk hin hK hM hS hA hl Q hQ
  have X : CallFix p m cd b_GrantServerModel_authorize 7 s ([.ref h, .int x, .int b, .int d, .int g, .int y] : List Value).toArray TB R_GrantServerModel := ⟨X0.1, X0.2.1, X0.2.2.1, X0.2.2.2.1, fun w h => X0.2.2.2.2 w (List.mem_cons_of_mem _ h)⟩
  have hx := X.1; have hb := X.2.1; have hml := X.2.2.1; have hown := X.2.2.2.1; have hts := X.2.2.2.2
  have hl : lv_has ls 7 [(0, .ref h), (1, .int x), (2, .int b), (3, .int d), (4, .int g), (5, .int y)] := hl
  have hfr : mo_fr h ad f f := mo_fr.rf
  refine lv_aload_n hx hb d_GrantServerModel_authorize_0 rfl (lv_at hl 0 rfl) ?_
  refine lv_iload_n hx hb d_GrantServerModel_authorize_1 rfl (lv_at hl 1 rfl) ?_
  refine hm_calli hS hM hA (va_runV (As := [.int x]) (rest := []) X (m_c_isClient l D k f h ad sk v c x hmo  s.heap.size) (hm_cwV hts me_GrantServerModel_isClient wl_GrantServerModel_89 rfl rfl ⟨Nat.le_of_ble_eq_true rfl, Nat.le_of_ble_eq_true rfl⟩) (hm_preV hM hK hmo.1 rfl) rfl rfl hl.1 rfl (lv_room (Nat.le_of_ble_eq_true rfl)) d_GrantServerModel_authorize_2 ⟨Nat.le_of_ble_eq_true rfl, Nat.le_of_ble_eq_true rfl⟩) (fun r3 f1 H locs p2 hM hS => ?_)
  obtain ⟨rfl, rfl⟩ := p2
  refine lv_if_eq (tgt := 20) hx hb d_GrantServerModel_authorize_5 (by decide) (fun h4 => ?_) (fun h4 => ?_)
  · refine lv_iconst (v := (-1)) hx hb d_GrantServerModel_authorize_20 (by decide) ?_
    exact hm_iret X hQ hr hlk hK hM hS d_GrantServerModel_authorize_21 ⟨rfl, rfl⟩
  · exact absurd hz h4
set_option maxHeartbeats 4000000 in
set_option maxRecDepth 100000 in
theorem m_c_exchange_no (l : Launch) (D : va_G) (k : Nat → ClassId) (f : hm) (h : Nat) (ad : Nat → Nat) (sk : Int64) (v : Nat → Int32) (c : Nat → Nat → Int32) (a : Int32) (b : Int32) (d : Int32) (g : Int32) (hmo : mo k f h ad sk v c) (hu : v 9 < 0) : hm_Mi l D vwCl (tyL k) y_GrantServerModel_exchange (Cond.code y_GrantServerModel_exchange b_GrantServerModel_exchange 7 (some .int) :: TB) ({ frames := 0, cells := 0, slots := 0, locals := 0 }) [.ref h, .int a, .int b, .int d, .int g] f (fun (r : Int32) (f1 : hm) => (-2) = r ∧ f = f1) 0 0 := by
  refine hm_enter (Qc := fun sz => va_Qi _ (hm_R D vwCl (tyL k) f sz) (hm_A f sz)) (by decide) rfl (Nat.le_of_ble_eq_true rfl) ?_
  intro p e s m below meth cd ls X0 hr hlk hin hK hM hS hA hl Q hQ
  have X : CallFix p m cd b_GrantServerModel_exchange 7 s ([.ref h, .int a, .int b, .int d, .int g] : List Value).toArray TB R_GrantServerModel := ⟨X0.1, X0.2.1, X0.2.2.1, X0.2.2.2.1, fun w h => X0.2.2.2.2 w (List.mem_cons_of_mem _ h)⟩
  have hx := X.1; have hb := X.2.1; have hml := X.2.2.1; have hown := X.2.2.2.1; have hts := X.2.2.2.2
  have hl : lv_has ls 7 [(0, .ref h), (1, .int a), (2, .int b), (3, .int d), (4, .int g)] := hl
  have hfr : mo_fr h ad f f := mo_fr.rf
  refine lv_aload_n hx hb d_GrantServerModel_exchange_0 rfl (lv_at hl 0 rfl) ?_
  refine hm_get X hK hM hmo.1 fl_GrantServerModel_19 (v := .int (v 9)) rfl d_GrantServerModel_exchange_1 ?_
  refine lv_if_ge (tgt := 10) hx hb d_GrantServerModel_exchange_4 (by decide) (fun h1 => ?_) (fun h1 => ?_)
  · exact absurd hu (Int32.not_lt.mpr h1)
  · refine lv_bipush (v := (-2)) hx hb d_GrantServerModel_exchange_7 (by decide) ?_
    exact hm_iret X hQ hr hlk hK hM hS d_GrantServerModel_exchange_9 ⟨rfl, rfl⟩
set_option maxHeartbeats 4000000 in
set_option maxRecDepth 100000 in
theorem m_c_refresh_no (l : Launch) (D : va_G) (k : Nat → ClassId) (f : hm) (h : Nat) (ad : Nat → Nat) (sk : Int64) (v : Nat → Int32) (c : Nat → Nat → Int32) (a : Int32) (b : Int32) (d : Int32) (hmo : mo k f h ad sk v c) (hu : v 9 < 0) : hm_Mi l D vwCl (tyL k) y_GrantServerModel_refresh (Cond.code y_GrantServerModel_refresh b_GrantServerModel_refresh 6 (some .int) :: TB) ({ frames := 0, cells := 0, slots := 0, locals := 0 }) [.ref h, .int a, .int b, .int d] f (fun (r : Int32) (f1 : hm) => (-2) = r ∧ f = f1) 0 0 := by
  refine hm_enter (Qc := fun sz => va_Qi _ (hm_R D vwCl (tyL k) f sz) (hm_A f sz)) (by decide) rfl (Nat.le_of_ble_eq_true rfl) ?_
  intro p e s m below meth cd ls X0 hr hlk hin hK hM hS hA hl Q hQ
  have X : CallFix p m cd b_GrantServerModel_refresh 6 s ([.ref h, .int a, .int b, .int d] : List Value).toArray TB R_GrantServerModel := ⟨X0.1, X0.2.1, X0.2.2.1, X0.2.2.2.1, fun w h => X0.2.2.2.2 w (List.mem_cons_of_mem _ h)⟩
  have hx := X.1; have hb := X.2.1; have hml := X.2.2.1; have hown := X.2.2.2.1; have hts := X.2.2.2.2
  have hl : lv_has ls 6 [(0, .ref h), (1, .int a), (2, .int b), (3, .int d)] := hl
  have hfr : mo_fr h ad f f := mo_fr.rf
  refine lv_aload_n hx hb d_GrantServerModel_refresh_0 rfl (lv_at hl 0 rfl) ?_
  refine hm_get X hK hM hmo.1 fl_GrantServerModel_19 (v := .int (v 9)) rfl d_GrantServerModel_refresh_1 ?_
  refine lv_if_ge (tgt := 10) hx hb d_GrantServerModel_refresh_4 (by decide) (fun h1 => ?_) (fun h1 => ?_)
  · exact absurd hu (Int32.not_lt.mpr h1)
  · refine lv_bipush (v := (-2)) hx hb d_GrantServerModel_refresh_7 (by decide) ?_
    exact hm_iret X hQ hr hlk hK hM hS d_GrantServerModel_refresh_9 ⟨rfl, rfl⟩
set_option maxHeartbeats 4000000 in
set_option maxRecDepth 100000 in
theorem m_c_revoke_no (l : Launch) (D : va_G) (k : Nat → ClassId) (f : hm) (h : Nat) (ad : Nat → Nat) (sk : Int64) (v : Nat → Int32) (c : Nat → Nat → Int32) (a : Int32) (b : Int32) (hmo : mo k f h ad sk v c) (hu : v 9 < 0) : hm_Mi l D vwCl (tyL k) y_GrantServerModel_revoke (Cond.code y_GrantServerModel_revoke b_GrantServerModel_revoke 5 (some .int) :: TB) ({ frames := 0, cells := 0, slots := 0, locals := 0 }) [.ref h, .int a, .int b] f (fun (r : Int32) (f1 : hm) => (-2) = r ∧ f = f1) 0 0 := by
  refine hm_enter (Qc := fun sz => va_Qi _ (hm_R D vwCl (tyL k) f sz) (hm_A f sz)) (by decide) rfl (Nat.le_of_ble_eq_true rfl) ?_
  intro p e s m below meth cd ls X0 hr hlk hin hK hM hS hA hl Q hQ
  have X : CallFix p m cd b_GrantServerModel_revoke 5 s ([.ref h, .int a, .int b] : List Value).toArray TB R_GrantServerModel := ⟨X0.1, X0.2.1, X0.2.2.1, X0.2.2.2.1, fun w h => X0.2.2.2.2 w (List.mem_cons_of_mem _ h)⟩
  have hx := X.1; have hb := X.2.1; have hml := X.2.2.1; have hown := X.2.2.2.1; have hts := X.2.2.2.2
  have hl : lv_has ls 5 [(0, .ref h), (1, .int a), (2, .int b)] := hl
  have hfr : mo_fr h ad f f := mo_fr.rf
  refine lv_aload_n hx hb d_GrantServerModel_revoke_0 rfl (lv_at hl 0 rfl) ?_
  refine hm_get X hK hM hmo.1 fl_GrantServerModel_19 (v := .int (v 9)) rfl d_GrantServerModel_revoke_1 ?_
  refine lv_if_ge (tgt := 10) hx hb d_GrantServerModel_revoke_4 (by decide) (fun h1 => ?_) (fun h1 => ?_)
  · exact absurd hu (Int32.not_lt.mpr h1)
  · refine lv_bipush (v := (-2)) hx hb d_GrantServerModel_revoke_7 (by decide) ?_
    exact hm_iret X hQ hr hlk hK hM hS d_GrantServerModel_revoke_9 ⟨rfl, rfl⟩
set_option maxHeartbeats 4000000 in
set_option maxRecDepth 100000 in
theorem m_c_isForm_short (l : Launch) (D : va_G) (k : Nat → ClassId) (f : hm) (h : Nat) (ad : Nat → Nat) (sk : Int64) (v : Nat → Int32) (c : Nat → Nat → Int32) (n : Nat) (hmo : mo k f h ad sk v c) (hn : v 24 = nI n) (hn9 : n < 11) : hm_Mi l D vwCl (tyL k) y_GrantServerModel_isForm (Cond.code y_GrantServerModel_isForm b_GrantServerModel_isForm 3 (some .boolean) :: TB) ({ frames := 0, cells := 0, slots := 0, locals := 0 }) [.ref h] f (fun (r : Int32) (f1 : hm) => 0 = r ∧ f = f1) 0 0 := by
  refine hm_enter (Qc := fun sz => va_Qi _ (hm_R D vwCl (tyL k) f sz) (hm_A f sz)) (by decide) rfl (Nat.le_of_ble_eq_true rfl) ?_
  intro p e s m below meth cd ls X0 hr hlk hin hK hM hS hA hl Q hQ
  have X : CallFix p m cd b_GrantServerModel_isForm 3 s ([.ref h] : List Value).toArray TB R_GrantServerModel := ⟨X0.1, X0.2.1, X0.2.2.1, X0.2.2.2.1, fun w h => X0.2.2.2.2 w (List.mem_cons_of_mem _ h)⟩
  have hx := X.1; have hb := X.2.1; have hml := X.2.2.1; have hown := X.2.2.2.1; have hts := X.2.2.2.2
  have hl : lv_has ls 3 [(0, .ref h)] := hl
  have hfr : mo_fr h ad f f := mo_fr.rf
  refine lv_aload_n hx hb d_GrantServerModel_isForm_0 rfl (lv_at hl 0 rfl) ?_
  refine hm_get X hK hM hmo.1 fl_GrantServerModel_175 (v := .int (v 24)) rfl d_GrantServerModel_isForm_1 ?_
  refine lv_bipush (v := 11) hx hb d_GrantServerModel_isForm_4 (by decide) ?_
  refine lv_isub hx hb d_GrantServerModel_isForm_6 ?_
  refine lv_istore_n (lv' := [(1, .int ((v 24) - 11)), (0, .ref h)]) hx hb d_GrantServerModel_isForm_7 rfl hl (by decide) rfl (fun ls hl => ?_)
  refine lv_iload_n hx hb d_GrantServerModel_isForm_8 rfl (lv_at hl 0 rfl) ?_
  refine lv_if_lt (tgt := 30) hx hb d_GrantServerModel_isForm_9 (by decide) (fun h1 => ?_) (fun h1 => ?_)
  · refine lv_iconst (v := 0) hx hb d_GrantServerModel_isForm_30 (by decide) ?_
    exact hm_zret X hQ hr hlk hK hM hS rfl d_GrantServerModel_isForm_31 ⟨rfl, rfl⟩
  · exact absurd (by rw [hn]; exact pk_sneg (b := 11) (by decide) hn9) h1
set_option maxHeartbeats 4000000 in
set_option maxRecDepth 100000 in
theorem m_c_check_short (l : Launch) (D : va_G) (k : Nat → ClassId) (f : hm) (h : Nat) (ad : Nat → Nat) (sk : Int64) (v : Nat → Int32) (c : Nat → Nat → Int32) (a : Int32) (b : Int32) (n : Nat) (hmo : mo k f h ad sk v c) (hn : v 24 = nI n) (hn9 : n < 11) : hm_Mi l D vwCl (tyL k) y_GrantServerModel_check (Cond.code y_GrantServerModel_check b_GrantServerModel_check 4 (some .int) :: TB) ({ frames := 1, cells := 0, slots := 0, locals := 22 }) [.ref h, .int a, .int b] f (fun (r : Int32) (f1 : hm) => (-7) = r ∧ f = f1) 0 0 := by
  refine hm_enter (Qc := fun sz => va_Qi _ (hm_R D vwCl (tyL k) f sz) (hm_A f sz)) (by decide) rfl (Nat.le_of_ble_eq_true rfl) ?_
  intro p e s m below meth cd ls X0 hr hlk hin hK hM hS hA hl Q hQ
  have X : CallFix p m cd b_GrantServerModel_check 4 s ([.ref h, .int a, .int b] : List Value).toArray TB R_GrantServerModel := ⟨X0.1, X0.2.1, X0.2.2.1, X0.2.2.2.1, fun w h => X0.2.2.2.2 w (List.mem_cons_of_mem _ h)⟩
  have hx := X.1; have hb := X.2.1; have hml := X.2.2.1; have hown := X.2.2.2.1; have hts := X.2.2.2.2
  have hl : lv_has ls 4 [(0, .ref h), (1, .int a), (2, .int b)] := hl
  have hfr : mo_fr h ad f f := mo_fr.rf
  refine lv_aload_n hx hb d_GrantServerModel_check_0 rfl (lv_at hl 0 rfl) ?_
  refine hm_calli hS hM hA (va_runV (As := []) (rest := []) X (m_c_isForm_short l D k f h ad sk v c n hmo hn hn9 s.heap.size) (hm_cwV hts me_GrantServerModel_isForm wl_GrantServerModel_207 rfl rfl ⟨Nat.le_of_ble_eq_true rfl, Nat.le_of_ble_eq_true rfl⟩) (hm_preV hM hK hmo.1 rfl) rfl rfl hl.1 rfl (lv_room (Nat.le_of_ble_eq_true rfl)) d_GrantServerModel_check_1 ⟨Nat.le_of_ble_eq_true rfl, Nat.le_of_ble_eq_true rfl⟩) (fun r3 f1 H locs p2 hM hS => ?_)
  obtain ⟨rfl, rfl⟩ := p2
  refine lv_if_ne (tgt := 10) hx hb d_GrantServerModel_check_4 (by decide) (fun h4 => ?_) (fun h4 => ?_)
  · exact absurd h4 (by decide)
  · refine lv_bipush (v := (-7)) hx hb d_GrantServerModel_check_7 (by decide) ?_
    exact hm_iret X hQ hr hlk hK hM hS d_GrantServerModel_check_9 ⟨rfl, rfl⟩
set_option maxHeartbeats 4000000 in
set_option maxRecDepth 100000 in
theorem m_c_active_out (l : Launch) (D : va_G) (k : Nat → ClassId) (f : hm) (h : Nat) (ad : Nat → Nat) (sk : Int64) (v : Nat → Int32) (c : Nat → Nat → Int32) (x : Int32) (y : Int32) (hmo : mo k f h ad sk v c) (hx9 : x < 0 ∨ 2 < x) : hm_Mi l D vwCl (tyL k) y_GrantServerModel_active (Cond.code y_GrantServerModel_active b_GrantServerModel_active 4 (some .boolean) :: TB) ({ frames := 0, cells := 0, slots := 0, locals := 0 }) [.ref h, .int x, .int y] f (fun (r : Int32) (f1 : hm) => 0 = r ∧ f = f1) 0 0 := by
  refine hm_enter (Qc := fun sz => va_Qi _ (hm_R D vwCl (tyL k) f sz) (hm_A f sz)) (by decide) rfl (Nat.le_of_ble_eq_true rfl) ?_
  intro p e s m below meth cd ls X0 hr hlk hin hK hM hS hA hl Q hQ
  have X : CallFix p m cd b_GrantServerModel_active 4 s ([.ref h, .int x, .int y] : List Value).toArray TB R_GrantServerModel := ⟨X0.1, X0.2.1, X0.2.2.1, X0.2.2.2.1, fun w h => X0.2.2.2.2 w (List.mem_cons_of_mem _ h)⟩
  have hx := X.1; have hb := X.2.1; have hml := X.2.2.1; have hown := X.2.2.2.1; have hts := X.2.2.2.2
  have hl : lv_has ls 4 [(0, .ref h), (1, .int x), (2, .int y)] := hl
  have hfr : mo_fr h ad f f := mo_fr.rf
  refine lv_iload_n hx hb d_GrantServerModel_active_0 rfl (lv_at hl 1 rfl) ?_
  refine lv_if_lt (tgt := 9) hx hb d_GrantServerModel_active_1 (by decide) (fun h1 => ?_) (fun h1 => ?_)
  · refine lv_iconst (v := (-1)) hx hb d_GrantServerModel_active_9 (by decide) ?_
    refine lv_goto (tgt := 19) hx hb d_GrantServerModel_active_10 (by decide) ?_
    refine lv_istore_n (lv' := [(3, .int (-1)), (0, .ref h), (1, .int x), (2, .int y)]) hx hb d_GrantServerModel_active_19 rfl hl (by decide) rfl (fun ls hl => ?_)
    refine lv_iload_n hx hb d_GrantServerModel_active_20 rfl (lv_at hl 0 rfl) ?_
    refine lv_if_lt (tgt := 36) hx hb d_GrantServerModel_active_21 (by decide) (fun h2 => ?_) (fun h2 => ?_)
    · refine lv_iconst (v := 0) hx hb d_GrantServerModel_active_36 (by decide) ?_
      exact hm_zret X hQ hr hlk hK hM hS rfl d_GrantServerModel_active_37 ⟨rfl, rfl⟩
    · exact absurd h2 (by decide)
  · refine lv_iload_n hx hb d_GrantServerModel_active_4 rfl (lv_at hl 1 rfl) ?_
    refine lv_iconst (v := 2) hx hb d_GrantServerModel_active_5 (by decide) ?_
    refine lv_icmp_le (tgt := 13) hx hb d_GrantServerModel_active_6 (by decide) (fun h2 => ?_) (fun h2 => ?_)
    · exact absurd (hx9.resolve_left h1) (Int32.not_lt.mpr h2)
    · refine lv_iconst (v := (-1)) hx hb d_GrantServerModel_active_9 (by decide) ?_
      refine lv_goto (tgt := 19) hx hb d_GrantServerModel_active_10 (by decide) ?_
      refine lv_istore_n (lv' := [(3, .int (-1)), (0, .ref h), (1, .int x), (2, .int y)]) hx hb d_GrantServerModel_active_19 rfl hl (by decide) rfl (fun ls hl => ?_)
      refine lv_iload_n hx hb d_GrantServerModel_active_20 rfl (lv_at hl 0 rfl) ?_
      refine lv_if_lt (tgt := 36) hx hb d_GrantServerModel_active_21 (by decide) (fun h3 => ?_) (fun h3 => ?_)
      · refine lv_iconst (v := 0) hx hb d_GrantServerModel_active_36 (by decide) ?_
        exact hm_zret X hQ hr hlk hK hM hS rfl d_GrantServerModel_active_37 ⟨rfl, rfl⟩
      · exact absurd h3 (by decide)
set_option maxHeartbeats 4000000 in
set_option maxRecDepth 100000 in
theorem m_c_active_no (l : Launch) (D : va_G) (k : Nat → ClassId) (f : hm) (h : Nat) (ad : Nat → Nat) (sk : Int64) (v : Nat → Int32) (c : Nat → Nat → Int32) (x : Int32) (y : Int32) (hmo : mo k f h ad sk v c) (hx8 : ¬ x < 0) (hx9 : ¬ 2 < x) (hf : m_findF (c 10) y (m_toN x - m_fromN x) (m_fromN x) < 0) : hm_Mi l D vwCl (tyL k) y_GrantServerModel_active (Cond.code y_GrantServerModel_active b_GrantServerModel_active 4 (some .boolean) :: TB) ({ frames := 2, cells := 0, slots := 0, locals := 43 }) [.ref h, .int x, .int y] f (fun (r : Int32) (f1 : hm) => 0 = r ∧ f = f1) 0 0 := by
  refine hm_enter (Qc := fun sz => va_Qi _ (hm_R D vwCl (tyL k) f sz) (hm_A f sz)) (by decide) rfl (Nat.le_of_ble_eq_true rfl) ?_
  intro p e s m below meth cd ls X0 hr hlk hin hK hM hS hA hl Q hQ
  have X : CallFix p m cd b_GrantServerModel_active 4 s ([.ref h, .int x, .int y] : List Value).toArray TB R_GrantServerModel := ⟨X0.1, X0.2.1, X0.2.2.1, X0.2.2.2.1, fun w h => X0.2.2.2.2 w (List.mem_cons_of_mem _ h)⟩
  have hx := X.1; have hb := X.2.1; have hml := X.2.2.1; have hown := X.2.2.2.1; have hts := X.2.2.2.2
  have hl : lv_has ls 4 [(0, .ref h), (1, .int x), (2, .int y)] := hl
  have hfr : mo_fr h ad f f := mo_fr.rf
  refine lv_iload_n hx hb d_GrantServerModel_active_0 rfl (lv_at hl 1 rfl) ?_
  refine lv_if_lt (tgt := 9) hx hb d_GrantServerModel_active_1 (by decide) (fun h1 => ?_) (fun h1 => ?_)
  · exact absurd h1 hx8
  · refine lv_iload_n hx hb d_GrantServerModel_active_4 rfl (lv_at hl 1 rfl) ?_
    refine lv_iconst (v := 2) hx hb d_GrantServerModel_active_5 (by decide) ?_
    refine lv_icmp_le (tgt := 13) hx hb d_GrantServerModel_active_6 (by decide) (fun h2 => ?_) (fun h2 => ?_)
    · refine lv_aload_n hx hb d_GrantServerModel_active_13 rfl (lv_at hl 0 rfl) ?_
      refine lv_iload_n hx hb d_GrantServerModel_active_14 rfl (lv_at hl 1 rfl) ?_
      refine lv_iload_n hx hb d_GrantServerModel_active_15 rfl (lv_at hl 2 rfl) ?_
      refine hm_calli hS hM hA (va_runV (As := [.int x, .int y]) (rest := []) X (m_c_find l D k f h ad sk v c x y hmo  s.heap.size) (hm_cwV hts me_GrantServerModel_find wl_GrantServerModel_100 rfl rfl ⟨Nat.le_of_ble_eq_true rfl, Nat.le_of_ble_eq_true rfl⟩) (hm_preV hM hK hmo.1 rfl) rfl rfl hl.1 rfl (lv_room (Nat.le_of_ble_eq_true rfl)) d_GrantServerModel_active_16 ⟨Nat.le_of_ble_eq_true rfl, Nat.le_of_ble_eq_true rfl⟩) (fun r5 f3 H locs p4 hM hS => ?_)
      obtain ⟨rfl, rfl⟩ := p4
      refine lv_istore_n (lv' := [(3, .int (m_findF (c 10) y (m_toN x - m_fromN x) (m_fromN x))), (0, .ref h), (1, .int x), (2, .int y)]) hx hb d_GrantServerModel_active_19 rfl hl (by decide) rfl (fun ls hl => ?_)
      refine lv_iload_n hx hb d_GrantServerModel_active_20 rfl (lv_at hl 0 rfl) ?_
      refine lv_if_lt (tgt := 36) hx hb d_GrantServerModel_active_21 (by decide) (fun h6 => ?_) (fun h6 => ?_)
      · refine lv_iconst (v := 0) hx hb d_GrantServerModel_active_36 (by decide) ?_
        exact hm_zret X hQ hr hlk hK hM hS rfl d_GrantServerModel_active_37 ⟨rfl, rfl⟩
      · exact absurd hf h6
    · exact absurd (Int32.not_lt.mp hx9) h2
set_option maxHeartbeats 4000000 in
set_option maxRecDepth 100000 in
theorem m_c_active (l : Launch) (D : va_G) (k : Nat → ClassId) (f : hm) (h : Nat) (ad : Nat → Nat) (sk : Int64) (v : Nat → Int32) (c : Nat → Nat → Int32) (x : Int32) (y : Int32) (j : Nat) (hmo : mo k f h ad sk v c) (hx8 : ¬ x < 0) (hx9 : ¬ 2 < x) (hf : m_findF (c 10) y (m_toN x - m_fromN x) (m_fromN x) = nI j) (hj : j < 64) (hfam : c 15 j < 0 ∨ ∃ t, t < 520 ∧ c 15 j = nI t) : hm_Mi l D vwCl (tyL k) y_GrantServerModel_active (Cond.code y_GrantServerModel_active b_GrantServerModel_active 4 (some .boolean) :: TB) ({ frames := 2, cells := 0, slots := 0, locals := 43 }) [.ref h, .int x, .int y] f (fun (r : Int32) (f1 : hm) => m_act v c j = r ∧ f = f1) 0 0 := by
  refine hm_enter (Qc := fun sz => va_Qi _ (hm_R D vwCl (tyL k) f sz) (hm_A f sz)) (by decide) rfl (Nat.le_of_ble_eq_true rfl) ?_
  intro p e s m below meth cd ls X0 hr hlk hin hK hM hS hA hl Q hQ
  have X : CallFix p m cd b_GrantServerModel_active 4 s ([.ref h, .int x, .int y] : List Value).toArray TB R_GrantServerModel := ⟨X0.1, X0.2.1, X0.2.2.1, X0.2.2.2.1, fun w h => X0.2.2.2.2 w (List.mem_cons_of_mem _ h)⟩
  have hx := X.1; have hb := X.2.1; have hml := X.2.2.1; have hown := X.2.2.2.1; have hts := X.2.2.2.2
  have hl : lv_has ls 4 [(0, .ref h), (1, .int x), (2, .int y)] := hl
  have hfr : mo_fr h ad f f := mo_fr.rf
  refine lv_iload_n hx hb d_GrantServerModel_active_0 rfl (lv_at hl 1 rfl) ?_
  refine lv_if_lt (tgt := 9) hx hb d_GrantServerModel_active_1 (by decide) (fun h1 => ?_) (fun h1 => ?_)
  · exact absurd h1 hx8
  · refine lv_iload_n hx hb d_GrantServerModel_active_4 rfl (lv_at hl 1 rfl) ?_
    refine lv_iconst (v := 2) hx hb d_GrantServerModel_active_5 (by decide) ?_
    refine lv_icmp_le (tgt := 13) hx hb d_GrantServerModel_active_6 (by decide) (fun h2 => ?_) (fun h2 => ?_)
    · refine lv_aload_n hx hb d_GrantServerModel_active_13 rfl (lv_at hl 0 rfl) ?_
      refine lv_iload_n hx hb d_GrantServerModel_active_14 rfl (lv_at hl 1 rfl) ?_
      refine lv_iload_n hx hb d_GrantServerModel_active_15 rfl (lv_at hl 2 rfl) ?_
      refine hm_calli hS hM hA (va_runV (As := [.int x, .int y]) (rest := []) X (m_c_find l D k f h ad sk v c x y hmo  s.heap.size) (hm_cwV hts me_GrantServerModel_find wl_GrantServerModel_100 rfl rfl ⟨Nat.le_of_ble_eq_true rfl, Nat.le_of_ble_eq_true rfl⟩) (hm_preV hM hK hmo.1 rfl) rfl rfl hl.1 rfl (lv_room (Nat.le_of_ble_eq_true rfl)) d_GrantServerModel_active_16 ⟨Nat.le_of_ble_eq_true rfl, Nat.le_of_ble_eq_true rfl⟩) (fun r5 f3 H locs p4 hM hS => ?_)
      obtain ⟨rfl, rfl⟩ := p4
      refine hm_top (z := nI j) hf ?_
      refine lv_istore_n (lv' := [(3, .int (nI j)), (0, .ref h), (1, .int x), (2, .int y)]) hx hb d_GrantServerModel_active_19 rfl hl (by decide) rfl (fun ls hl => ?_)
      refine lv_iload_n hx hb d_GrantServerModel_active_20 rfl (lv_at hl 0 rfl) ?_
      refine lv_if_lt (tgt := 36) hx hb d_GrantServerModel_active_21 (by decide) (fun h6 => ?_) (fun h6 => ?_)
      · exact absurd h6 (nI_pos (by omega))
      · refine lv_aload_n hx hb d_GrantServerModel_active_24 rfl (lv_at hl 1 rfl) ?_
        refine lv_iload_n hx hb d_GrantServerModel_active_25 rfl (lv_at hl 0 rfl) ?_
        refine hm_calli hS hM hA (va_runV (As := [.int (nI j)]) (rest := []) X (m_c_isActive l D k f h ad sk v c j hmo hj hfam H.size) (hm_cwV hts me_GrantServerModel_isActive wl_GrantServerModel_145 rfl rfl ⟨Nat.le_of_ble_eq_true rfl, Nat.le_of_ble_eq_true rfl⟩) (hm_preV hM hK hmo.1 rfl) rfl rfl hl.1 rfl (lv_room (Nat.le_of_ble_eq_true rfl)) d_GrantServerModel_active_26 ⟨Nat.le_of_ble_eq_true rfl, Nat.le_of_ble_eq_true rfl⟩) (fun r9 f7 H locs p8 hM hS => ?_)
        obtain ⟨rfl, rfl⟩ := p8
        refine lv_if_eq (tgt := 36) hx hb d_GrantServerModel_active_29 (by decide) (fun h10 => ?_) (fun h10 => ?_)
        · refine lv_iconst (v := 0) hx hb d_GrantServerModel_active_36 (by decide) ?_
          exact hm_zret X hQ hr hlk hK hM hS rfl d_GrantServerModel_active_37 ⟨h10, rfl⟩
        · refine lv_iconst (v := 1) hx hb d_GrantServerModel_active_32 (by decide) ?_
          refine lv_goto (tgt := 37) hx hb d_GrantServerModel_active_33 (by decide) ?_
          exact hm_zret X hQ hr hlk hK hM hS rfl d_GrantServerModel_active_37 ⟨(m_act_b h10), rfl⟩
    · exact absurd (Int32.not_lt.mp hx9) h2
set_option maxHeartbeats 4000000 in
set_option maxRecDepth 100000 in
theorem m_c_wrap_no (l : Launch) (D : va_G) (k : Nat → ClassId) (f : hm) (h : Nat) (ad : Nat → Nat) (sk : Int64) (v : Nat → Int32) (c : Nat → Nat → Int32) (n : Nat) (hmo : mo k f h ad sk v c) (hn : v 24 = nI n) (hn9 : n ≤ 120) (hs : 120 < (n * 8 + 5) / 6 + 11) : hm_Mi l D vwCl (tyL k) y_GrantServerModel_wrap (Cond.code y_GrantServerModel_wrap b_GrantServerModel_wrap 2 (some .int) :: TB) ({ frames := 0, cells := 0, slots := 0, locals := 0 }) [.ref h] f (fun (r : Int32) (f1 : hm) => (-1) = r ∧ f = f1) 0 0 := by
  refine hm_enter (Qc := fun sz => va_Qi _ (hm_R D vwCl (tyL k) f sz) (hm_A f sz)) (by decide) rfl (Nat.le_of_ble_eq_true rfl) ?_
  intro p e s m below meth cd ls X0 hr hlk hin hK hM hS hA hl Q hQ
  have X : CallFix p m cd b_GrantServerModel_wrap 2 s ([.ref h] : List Value).toArray TB R_GrantServerModel := ⟨X0.1, X0.2.1, X0.2.2.1, X0.2.2.2.1, fun w h => X0.2.2.2.2 w (List.mem_cons_of_mem _ h)⟩
  have hx := X.1; have hb := X.2.1; have hml := X.2.2.1; have hown := X.2.2.2.1; have hts := X.2.2.2.2
  have hl : lv_has ls 2 [(0, .ref h)] := hl
  have hfr : mo_fr h ad f f := mo_fr.rf
  refine lv_bipush (v := 8) hx hb d_GrantServerModel_wrap_0 (by decide) ?_
  refine lv_aload_n hx hb d_GrantServerModel_wrap_2 rfl (lv_at hl 0 rfl) ?_
  refine hm_get X hK hM hmo.1 fl_GrantServerModel_175 (v := .int (v 24)) rfl d_GrantServerModel_wrap_3 ?_
  refine lv_imul hx hb d_GrantServerModel_wrap_6 ?_
  refine lv_iconst (v := 5) hx hb d_GrantServerModel_wrap_7 (by decide) ?_
  refine lv_iadd hx hb d_GrantServerModel_wrap_8 ?_
  refine lv_bipush (v := 6) hx hb d_GrantServerModel_wrap_9 (by decide) ?_
  refine lv_idiv hx hb d_GrantServerModel_wrap_11 (by decide) ?_
  refine lv_bipush (v := 11) hx hb d_GrantServerModel_wrap_12 (by decide) ?_
  refine lv_iadd hx hb d_GrantServerModel_wrap_14 ?_
  refine hm_top (z := nI ((n * 8 + 5) / 6 + 11)) (by show (8 * v 24 + 5) / 6 + 11 = _; rw [hn, Int32.mul_comm, z_sg hn9]; exact nI_add _ 11) ?_
  refine lv_bipush (v := 120) hx hb d_GrantServerModel_wrap_15 (by decide) ?_
  refine lv_icmp_le (tgt := 22) hx hb d_GrantServerModel_wrap_17 (by decide) (fun h1 => ?_) (fun h1 => ?_)
  · exact absurd ((nI_leI (b := 120) (by omega) (by decide)).mp h1) (by omega)
  · refine lv_iconst (v := (-1)) hx hb d_GrantServerModel_wrap_20 (by decide) ?_
    exact hm_iret X hQ hr hlk hK hM hS d_GrantServerModel_wrap_21 ⟨rfl, rfl⟩
set_option maxHeartbeats 4000000 in
set_option maxRecDepth 100000 in
theorem m_c_wrap (l : Launch) (D : va_G) (k : Nat → ClassId) (f : hm) (h : Nat) (ad : Nat → Nat) (sk : Int64) (v : Nat → Int32) (c : Nat → Nat → Int32) (n : Nat) (ch : Nat → Nat) (hmo : mo k f h ad sk v c) (hn : v 24 = nI n) (hn9 : n ≤ 120) (hx9 : ∀ j, j < n → c 23 j = nI (ch j) ∧ ch j < 256) (hs : (n * 8 + 5) / 6 + 11 ≤ 120) : hm_Mi l D vwCl (tyL k) y_GrantServerModel_wrap (Cond.code y_GrantServerModel_wrap b_GrantServerModel_wrap 2 (some .int) :: TB) ({ frames := 2, cells := 0, slots := 0, locals := 48 }) [.ref h] f (fun (r : Int32) (f1 : hm) => ∃ (g1 : Nat → Int32) (g2 : Nat → Int32), nI ((n * 8 + 5) / 6 + 11) = r ∧ (∀ i, i < (n * 8 + 5) / 6 → g2 i = nI (st_chr 6 (z_six n ch i))) ∧ (g2 ((n * 8 + 5) / 6) = 46) ∧ (∀ i, i < 10 → g2 ((n * 8 + 5) / 6 + 1 + i) = m_sign (m_ss (z_seal sk g2 ((n * 8 + 5) / 6)) i)) ∧ mo k f1 h ad sk (upd (upd v 28 (nI n)) 26 (nI ((n * 8 + 5) / 6 + 11))) (va_up (va_up c 27 g1) 25 g2) ∧ mo_fr h ad f f1) 0 0 := by
  refine hm_enter (Qc := fun sz => va_Qi _ (hm_R D vwCl (tyL k) f sz) (hm_A f sz)) (by decide) rfl (Nat.le_of_ble_eq_true rfl) ?_
  intro p e s m below meth cd ls X0 hr hlk hin hK hM hS hA hl Q hQ
  have X : CallFix p m cd b_GrantServerModel_wrap 2 s ([.ref h] : List Value).toArray TB R_GrantServerModel := ⟨X0.1, X0.2.1, X0.2.2.1, X0.2.2.2.1, fun w h => X0.2.2.2.2 w (List.mem_cons_of_mem _ h)⟩
  have hx := X.1; have hb := X.2.1; have hml := X.2.2.1; have hown := X.2.2.2.1; have hts := X.2.2.2.2
  have hl : lv_has ls 2 [(0, .ref h)] := hl
  have hfr : mo_fr h ad f f := mo_fr.rf
  refine lv_bipush (v := 8) hx hb d_GrantServerModel_wrap_0 (by decide) ?_
  refine lv_aload_n hx hb d_GrantServerModel_wrap_2 rfl (lv_at hl 0 rfl) ?_
  refine hm_get X hK hM hmo.1 fl_GrantServerModel_175 (v := .int (v 24)) rfl d_GrantServerModel_wrap_3 ?_
  refine lv_imul hx hb d_GrantServerModel_wrap_6 ?_
  refine lv_iconst (v := 5) hx hb d_GrantServerModel_wrap_7 (by decide) ?_
  refine lv_iadd hx hb d_GrantServerModel_wrap_8 ?_
  refine lv_bipush (v := 6) hx hb d_GrantServerModel_wrap_9 (by decide) ?_
  refine lv_idiv hx hb d_GrantServerModel_wrap_11 (by decide) ?_
  refine lv_bipush (v := 11) hx hb d_GrantServerModel_wrap_12 (by decide) ?_
  refine lv_iadd hx hb d_GrantServerModel_wrap_14 ?_
  refine hm_top (z := nI ((n * 8 + 5) / 6 + 11)) (by show (8 * v 24 + 5) / 6 + 11 = _; rw [hn, Int32.mul_comm, z_sg hn9]; exact nI_add _ 11) ?_
  refine lv_bipush (v := 120) hx hb d_GrantServerModel_wrap_15 (by decide) ?_
  refine lv_icmp_le (tgt := 22) hx hb d_GrantServerModel_wrap_17 (by decide) (fun h1 => ?_) (fun h1 => ?_)
  · refine lv_aload_n hx hb d_GrantServerModel_wrap_22 rfl (lv_at hl 0 rfl) ?_
    refine lv_aload_n hx hb d_GrantServerModel_wrap_23 rfl (lv_at hl 0 rfl) ?_
    refine hm_get X hK hM hmo.1 fl_GrantServerModel_175 (v := .int (v 24)) rfl d_GrantServerModel_wrap_24 ?_
    refine hm_top (z := nI n) hn ?_
    refine hm_put X hK hM hS (fs' := moV sk (upd v 28 (nI n)) ad) hmo.1 fl_GrantServerModel_121 rfl rfl (Nat.le_of_ble_eq_true rfl) rfl d_GrantServerModel_wrap_27 (fun f2 H locs e3 hM hS => ?_)
    have hfr := hfr.put e3; have hmo : mo k f2 h ad sk (upd v 28 (nI n)) c := hmo.put e3
    refine lv_iconst (v := 0) hx hb d_GrantServerModel_wrap_30 (by decide) ?_
    refine lv_istore_n (lv' := [(1, .int 0), (0, .ref h)]) hx hb d_GrantServerModel_wrap_31 rfl hl (by decide) rfl (fun ls hl => ?_)
    have loop32 : ∀ (fu : Nat) (j : Nat) (g : Nat → Int32) (fL : hm) (H : Heap) (locs : List Loc) (ls : Array Slot) (hmu : n - j < fu) (hj : j ≤ n) (hg : ∀ i, i < j → g i = c 23 i) (hmo : mo k fL h ad sk (upd v 28 (nI n)) (va_up c 27 g)) (hfr : mo_fr h ad f fL) (hM : hm_W D vwCl (hm_A f s.heap.size) fL H) (hS : va_S (hm_A f s.heap.size) s.heap H locs) (hl : lv_has ls 2 [(0, .ref h), (1, .int (nI j))]), W p l e ({ frames := 2, cells := 0, slots := 0, locals := 48 }) s m ([.ref h] : List Value).toArray below meth cd H locs 0 0 Q (F0 m 32 ls []) := by
      intro fu
      induction fu with
      | zero => intro j g fL H locs ls hmu; exact absurd hmu (Nat.not_lt_zero _)
      | succ fu ih =>
        intro j g fL H locs ls hmu hj hg  hmo hfr hM hS hl
        refine lv_iload_n hx hb d_GrantServerModel_wrap_32 rfl (lv_at hl 1 rfl) ?_
        refine lv_aload_n hx hb d_GrantServerModel_wrap_33 rfl (lv_at hl 0 rfl) ?_
        refine hm_get X hK hM hmo.1 fl_GrantServerModel_175 (v := .int (v 24)) rfl d_GrantServerModel_wrap_34 ?_
        refine hm_top (z := nI n) hn ?_
        refine lv_icmp_ge (tgt := 58) hx hb d_GrantServerModel_wrap_37 (by decide) (fun h4 => ?_) (fun h4 => ?_)
        · have hge : j = n := by have z := (nI_leI (a := n) (b := j) (by omega) (by omega)).mp h4; omega
          refine lv_aload_n hx hb d_GrantServerModel_wrap_58 rfl (lv_at hl 0 rfl) ?_
          refine hm_callv hS hM hA (va_runV (As := []) (rest := []) X (m_c_wrapPlain l D k fL h ad sk (upd v 28 (nI n)) (va_up c 27 g) n ch hmo rfl hn9 (fun i hi => by show g i = _ ∧ _; rw [hg i (by omega)]; exact hx9 i hi) hs H.size) (hm_cwV hts me_GrantServerModel_wrapPlain wl_GrantServerModel_131 rfl rfl ⟨Nat.le_of_ble_eq_true rfl, Nat.le_of_ble_eq_true rfl⟩) (hm_preV hM hK hmo.1 rfl) rfl rfl hl.1 rfl (lv_room (Nat.le_of_ble_eq_true rfl)) d_GrantServerModel_wrap_59 ⟨Nat.le_of_ble_eq_true rfl, Nat.le_of_ble_eq_true rfl⟩) (fun f5 H locs p6 hM hS => ?_)
          obtain ⟨x7, h8, h9, h10, hmo, hfr11⟩ := p6
          have hfr := hfr.tr hfr11
          have hmo : mo k f5 h ad sk (upd (upd v 28 (nI n)) 26 (nI ((n * 8 + 5) / 6 + 11))) (va_up (va_up c 27 g) 25 x7) := hmo
          refine lv_aload_n hx hb d_GrantServerModel_wrap_62 rfl (lv_at hl 0 rfl) ?_
          refine hm_get X hK hM hmo.1 fl_GrantServerModel_160 (v := .int (nI ((n * 8 + 5) / 6 + 11))) rfl d_GrantServerModel_wrap_63 ?_
          exact hm_iret X hQ hr hlk hK hM hS d_GrantServerModel_wrap_66 ⟨g, x7, rfl, h8, h9, h10, hmo, hfr⟩
        · have hlt : j < n := by have z := mt (nI_leI (a := n) (b := j) (by omega) (by omega)).mpr h4; omega
          refine lv_aload_n hx hb d_GrantServerModel_wrap_40 rfl (lv_at hl 0 rfl) ?_
          refine hm_get X hK hM hmo.1 fl_GrantServerModel_63 (v := .ref (ad 27)) rfl d_GrantServerModel_wrap_41 ?_
          refine lv_iload_n hx hb d_GrantServerModel_wrap_44 rfl (lv_at hl 1 rfl) ?_
          refine lv_aload_n hx hb d_GrantServerModel_wrap_45 rfl (lv_at hl 0 rfl) ?_
          refine hm_get X hK hM hmo.1 fl_GrantServerModel_57 (v := .ref (ad 23)) rfl d_GrantServerModel_wrap_46 ?_
          refine lv_iload_n hx hb d_GrantServerModel_wrap_49 rfl (lv_at hl 1 rfl) ?_
          have g5 : fL (ad 23) = some (.inl (k 0, 120, .inl (c 23))) := hmo.arr 23 (by decide) (by decide)
          refine hm_iald X hK hM g5 0 rfl j rfl (by omega) (by decide) d_GrantServerModel_wrap_50 ?_
          have g6 : fL (ad 27) = some (.inl (k 0, 130, .inl g)) := hmo.arr 27 (by decide) (by decide)
          refine hm_iast X hK hM hS g6 0 rfl j rfl (by omega) (by decide) d_GrantServerModel_wrap_51 (fun f7 H locs e8 hM hS => ?_)
          have hfr := hfr.ast 27 (by decide) (by decide) e8; have hmo : mo k f7 h ad sk (upd v 28 (nI n)) (va_up (va_up c 27 g) 27 (upd g j ((c 23) j))) := hmo.ast 27 (by decide) (by decide) e8
          refine lv_iinc (lv' := [(1, .int (nI (j + 1))), (0, .ref h)]) hx hb d_GrantServerModel_wrap_52 hl (k := 1) rfl (hm_inc _) (by decide) rfl (fun ls hl => ?_)
          refine lv_goto (tgt := 32) hx hb d_GrantServerModel_wrap_55 (by decide) ?_
          exact ih (j + 1) (upd g j (c 23 j)) f7 H locs ls (by omega) (by omega) (fun i hi => by by_cases e : i = j <;> simp [upd, e]; exact hg i (by omega))  (hmo.cv rfl (bx_uu _ _ _ _).symm) hfr hM hS (lv_sub hl [1, 0] rfl)
    exact loop32 _ 0 (c 27) f2 H locs ls (Nat.lt_succ_self _) (Nat.zero_le _) (fun i h => absurd h (Nat.not_lt_zero _))  (hmo.cv rfl (va_up_id _ _)) hfr hM hS (lv_sub hl [1, 0] rfl)
  · exact absurd (nI_le (b := 120) hs (by decide)) h1
