theorem d_GrantServerModel_sayNumber_0 : decode b_GrantServerModel_sayNumber 0 = .ok (.iconst 1, 1) := by decide +kernel
theorem d_GrantServerModel_sayNumber_1 : decode b_GrantServerModel_sayNumber 1 = .ok (.istore_n 2, 1) := by decide +kernel
theorem d_GrantServerModel_sayNumber_2 : decode b_GrantServerModel_sayNumber 2 = .ok (.iload_n 1, 1) := by decide +kernel
theorem d_GrantServerModel_sayNumber_3 : decode b_GrantServerModel_sayNumber 3 = .ok (.iload_n 2, 1) := by decide +kernel
theorem d_GrantServerModel_sayNumber_4 : decode b_GrantServerModel_sayNumber 4 = .ok (.idiv, 1) := by decide +kernel
theorem d_GrantServerModel_sayNumber_5 : decode b_GrantServerModel_sayNumber 5 = .ok (.bipush 10, 2) := by decide +kernel
theorem d_GrantServerModel_sayNumber_7 : decode b_GrantServerModel_sayNumber 7 = .ok (.if_icmp .lt 11, 3) := by decide +kernel
theorem d_GrantServerModel_sayNumber_10 : decode b_GrantServerModel_sayNumber 10 = .ok (.iload_n 2, 1) := by decide +kernel
theorem d_GrantServerModel_sayNumber_11 : decode b_GrantServerModel_sayNumber 11 = .ok (.bipush 10, 2) := by decide +kernel
theorem d_GrantServerModel_sayNumber_13 : decode b_GrantServerModel_sayNumber 13 = .ok (.imul, 1) := by decide +kernel
theorem d_GrantServerModel_sayNumber_14 : decode b_GrantServerModel_sayNumber 14 = .ok (.istore_n 2, 1) := by decide +kernel
theorem d_GrantServerModel_sayNumber_15 : decode b_GrantServerModel_sayNumber 15 = .ok (.goto (-13), 3) := by decide +kernel
theorem d_GrantServerModel_sayNumber_18 : decode b_GrantServerModel_sayNumber 18 = .ok (.iload_n 2, 1) := by decide +kernel
theorem d_GrantServerModel_sayNumber_19 : decode b_GrantServerModel_sayNumber 19 = .ok (.ifCond .le 23, 3) := by decide +kernel
theorem d_GrantServerModel_sayNumber_22 : decode b_GrantServerModel_sayNumber 22 = .ok (.aload_n 0, 1) := by decide +kernel
theorem d_GrantServerModel_sayNumber_23 : decode b_GrantServerModel_sayNumber 23 = .ok (.bipush 48, 2) := by decide +kernel
theorem d_GrantServerModel_sayNumber_25 : decode b_GrantServerModel_sayNumber 25 = .ok (.iload_n 1, 1) := by decide +kernel
theorem d_GrantServerModel_sayNumber_26 : decode b_GrantServerModel_sayNumber 26 = .ok (.iload_n 2, 1) := by decide +kernel
theorem d_GrantServerModel_sayNumber_27 : decode b_GrantServerModel_sayNumber 27 = .ok (.idiv, 1) := by decide +kernel
theorem d_GrantServerModel_sayNumber_28 : decode b_GrantServerModel_sayNumber 28 = .ok (.bipush 10, 2) := by decide +kernel
theorem d_GrantServerModel_sayNumber_30 : decode b_GrantServerModel_sayNumber 30 = .ok (.irem, 1) := by decide +kernel
theorem d_GrantServerModel_sayNumber_31 : decode b_GrantServerModel_sayNumber 31 = .ok (.invokevirtual 124, 3) := by decide +kernel
theorem d_GrantServerModel_sayNumber_34 : decode b_GrantServerModel_sayNumber 34 = .ok (.iload_n 2, 1) := by decide +kernel
theorem d_GrantServerModel_sayNumber_35 : decode b_GrantServerModel_sayNumber 35 = .ok (.bipush 10, 2) := by decide +kernel
theorem d_GrantServerModel_sayNumber_37 : decode b_GrantServerModel_sayNumber 37 = .ok (.idiv, 1) := by decide +kernel
theorem d_GrantServerModel_sayNumber_38 : decode b_GrantServerModel_sayNumber 38 = .ok (.istore_n 2, 1) := by decide +kernel
theorem d_GrantServerModel_sayNumber_39 : decode b_GrantServerModel_sayNumber 39 = .ok (.goto (-21), 3) := by decide +kernel
theorem d_GrantServerModel_sayNumber_42 : decode b_GrantServerModel_sayNumber 42 = .ok (.return_, 1) := by decide +kernel
theorem d_GrantServerModel_nameAt_0 : decode b_GrantServerModel_nameAt 0 = .ok (.iload_n 0, 1) := by decide +kernel
theorem d_GrantServerModel_nameAt_1 : decode b_GrantServerModel_nameAt 1 = .ok (.tableswitch 155 0 3 #[31, 62, 93, 124], 31) := by decide +kernel
theorem d_GrantServerModel_nameAt_32 : decode b_GrantServerModel_nameAt 32 = .ok (.iload_n 1, 1) := by decide +kernel
theorem d_GrantServerModel_nameAt_33 : decode b_GrantServerModel_nameAt 33 = .ok (.ifCond .ne 8, 3) := by decide +kernel
theorem d_GrantServerModel_nameAt_36 : decode b_GrantServerModel_nameAt 36 = .ok (.bipush 115, 2) := by decide +kernel
theorem d_GrantServerModel_nameAt_38 : decode b_GrantServerModel_nameAt 38 = .ok (.goto 24, 3) := by decide +kernel
theorem d_GrantServerModel_nameAt_41 : decode b_GrantServerModel_nameAt 41 = .ok (.iload_n 1, 1) := by decide +kernel
theorem d_GrantServerModel_nameAt_42 : decode b_GrantServerModel_nameAt 42 = .ok (.iconst 1, 1) := by decide +kernel
theorem d_GrantServerModel_nameAt_43 : decode b_GrantServerModel_nameAt 43 = .ok (.if_icmp .ne 8, 3) := by decide +kernel
theorem d_GrantServerModel_nameAt_46 : decode b_GrantServerModel_nameAt 46 = .ok (.bipush 117, 2) := by decide +kernel
theorem d_GrantServerModel_nameAt_48 : decode b_GrantServerModel_nameAt 48 = .ok (.goto 14, 3) := by decide +kernel
theorem d_GrantServerModel_nameAt_51 : decode b_GrantServerModel_nameAt 51 = .ok (.iload_n 1, 1) := by decide +kernel
theorem d_GrantServerModel_nameAt_52 : decode b_GrantServerModel_nameAt 52 = .ok (.iconst 2, 1) := by decide +kernel
theorem d_GrantServerModel_nameAt_53 : decode b_GrantServerModel_nameAt 53 = .ok (.if_icmp .ne 8, 3) := by decide +kernel
theorem d_GrantServerModel_nameAt_56 : decode b_GrantServerModel_nameAt 56 = .ok (.bipush 98, 2) := by decide +kernel
theorem d_GrantServerModel_nameAt_58 : decode b_GrantServerModel_nameAt 58 = .ok (.goto 4, 3) := by decide +kernel
theorem d_GrantServerModel_nameAt_61 : decode b_GrantServerModel_nameAt 61 = .ok (.iconst 0, 1) := by decide +kernel
theorem d_GrantServerModel_nameAt_62 : decode b_GrantServerModel_nameAt 62 = .ok (.ireturn, 1) := by decide +kernel
theorem d_GrantServerModel_nameAt_63 : decode b_GrantServerModel_nameAt 63 = .ok (.iload_n 1, 1) := by decide +kernel
theorem d_GrantServerModel_nameAt_64 : decode b_GrantServerModel_nameAt 64 = .ok (.ifCond .ne 8, 3) := by decide +kernel
theorem d_GrantServerModel_nameAt_67 : decode b_GrantServerModel_nameAt 67 = .ok (.bipush 97, 2) := by decide +kernel
theorem d_GrantServerModel_nameAt_69 : decode b_GrantServerModel_nameAt 69 = .ok (.goto 24, 3) := by decide +kernel
theorem d_GrantServerModel_nameAt_72 : decode b_GrantServerModel_nameAt 72 = .ok (.iload_n 1, 1) := by decide +kernel
theorem d_GrantServerModel_nameAt_73 : decode b_GrantServerModel_nameAt 73 = .ok (.iconst 1, 1) := by decide +kernel
theorem d_GrantServerModel_nameAt_74 : decode b_GrantServerModel_nameAt 74 = .ok (.if_icmp .ne 8, 3) := by decide +kernel
theorem d_GrantServerModel_nameAt_77 : decode b_GrantServerModel_nameAt 77 = .ok (.bipush 117, 2) := by decide +kernel
theorem d_GrantServerModel_nameAt_79 : decode b_GrantServerModel_nameAt 79 = .ok (.goto 14, 3) := by decide +kernel
theorem d_GrantServerModel_nameAt_82 : decode b_GrantServerModel_nameAt 82 = .ok (.iload_n 1, 1) := by decide +kernel
theorem d_GrantServerModel_nameAt_83 : decode b_GrantServerModel_nameAt 83 = .ok (.iconst 2, 1) := by decide +kernel
theorem d_GrantServerModel_nameAt_84 : decode b_GrantServerModel_nameAt 84 = .ok (.if_icmp .ne 8, 3) := by decide +kernel
theorem d_GrantServerModel_nameAt_87 : decode b_GrantServerModel_nameAt 87 = .ok (.bipush 100, 2) := by decide +kernel
theorem d_GrantServerModel_nameAt_89 : decode b_GrantServerModel_nameAt 89 = .ok (.goto 4, 3) := by decide +kernel
theorem d_GrantServerModel_nameAt_92 : decode b_GrantServerModel_nameAt 92 = .ok (.iconst 0, 1) := by decide +kernel
theorem d_GrantServerModel_nameAt_93 : decode b_GrantServerModel_nameAt 93 = .ok (.ireturn, 1) := by decide +kernel
theorem d_GrantServerModel_nameAt_94 : decode b_GrantServerModel_nameAt 94 = .ok (.iload_n 1, 1) := by decide +kernel
theorem d_GrantServerModel_nameAt_95 : decode b_GrantServerModel_nameAt 95 = .ok (.ifCond .ne 8, 3) := by decide +kernel
theorem d_GrantServerModel_nameAt_98 : decode b_GrantServerModel_nameAt 98 = .ok (.bipush 101, 2) := by decide +kernel
theorem d_GrantServerModel_nameAt_100 : decode b_GrantServerModel_nameAt 100 = .ok (.goto 24, 3) := by decide +kernel
theorem d_GrantServerModel_nameAt_103 : decode b_GrantServerModel_nameAt 103 = .ok (.iload_n 1, 1) := by decide +kernel
theorem d_GrantServerModel_nameAt_104 : decode b_GrantServerModel_nameAt 104 = .ok (.iconst 1, 1) := by decide +kernel
theorem d_GrantServerModel_nameAt_105 : decode b_GrantServerModel_nameAt 105 = .ok (.if_icmp .ne 8, 3) := by decide +kernel
theorem d_GrantServerModel_nameAt_108 : decode b_GrantServerModel_nameAt 108 = .ok (.bipush 120, 2) := by decide +kernel
theorem d_GrantServerModel_nameAt_110 : decode b_GrantServerModel_nameAt 110 = .ok (.goto 14, 3) := by decide +kernel
theorem d_GrantServerModel_nameAt_113 : decode b_GrantServerModel_nameAt 113 = .ok (.iload_n 1, 1) := by decide +kernel
theorem d_GrantServerModel_nameAt_114 : decode b_GrantServerModel_nameAt 114 = .ok (.iconst 2, 1) := by decide +kernel
theorem d_GrantServerModel_nameAt_115 : decode b_GrantServerModel_nameAt 115 = .ok (.if_icmp .ne 8, 3) := by decide +kernel
theorem d_GrantServerModel_nameAt_118 : decode b_GrantServerModel_nameAt 118 = .ok (.bipush 112, 2) := by decide +kernel
theorem d_GrantServerModel_nameAt_120 : decode b_GrantServerModel_nameAt 120 = .ok (.goto 4, 3) := by decide +kernel
theorem d_GrantServerModel_nameAt_123 : decode b_GrantServerModel_nameAt 123 = .ok (.iconst 0, 1) := by decide +kernel
theorem d_GrantServerModel_nameAt_124 : decode b_GrantServerModel_nameAt 124 = .ok (.ireturn, 1) := by decide +kernel
theorem d_GrantServerModel_nameAt_125 : decode b_GrantServerModel_nameAt 125 = .ok (.iload_n 1, 1) := by decide +kernel
theorem d_GrantServerModel_nameAt_126 : decode b_GrantServerModel_nameAt 126 = .ok (.ifCond .ne 8, 3) := by decide +kernel
theorem d_GrantServerModel_nameAt_129 : decode b_GrantServerModel_nameAt 129 = .ok (.bipush 106, 2) := by decide +kernel
theorem d_GrantServerModel_nameAt_131 : decode b_GrantServerModel_nameAt 131 = .ok (.goto 24, 3) := by decide +kernel
theorem d_GrantServerModel_nameAt_134 : decode b_GrantServerModel_nameAt 134 = .ok (.iload_n 1, 1) := by decide +kernel
theorem d_GrantServerModel_nameAt_135 : decode b_GrantServerModel_nameAt 135 = .ok (.iconst 1, 1) := by decide +kernel
theorem d_GrantServerModel_nameAt_136 : decode b_GrantServerModel_nameAt 136 = .ok (.if_icmp .ne 8, 3) := by decide +kernel
theorem d_GrantServerModel_nameAt_139 : decode b_GrantServerModel_nameAt 139 = .ok (.bipush 116, 2) := by decide +kernel
theorem d_GrantServerModel_nameAt_141 : decode b_GrantServerModel_nameAt 141 = .ok (.goto 14, 3) := by decide +kernel
theorem d_GrantServerModel_nameAt_144 : decode b_GrantServerModel_nameAt 144 = .ok (.iload_n 1, 1) := by decide +kernel
theorem d_GrantServerModel_nameAt_145 : decode b_GrantServerModel_nameAt 145 = .ok (.iconst 2, 1) := by decide +kernel
theorem d_GrantServerModel_nameAt_146 : decode b_GrantServerModel_nameAt 146 = .ok (.if_icmp .ne 8, 3) := by decide +kernel
theorem d_GrantServerModel_nameAt_149 : decode b_GrantServerModel_nameAt 149 = .ok (.bipush 105, 2) := by decide +kernel
theorem d_GrantServerModel_nameAt_151 : decode b_GrantServerModel_nameAt 151 = .ok (.goto 4, 3) := by decide +kernel
theorem d_GrantServerModel_nameAt_154 : decode b_GrantServerModel_nameAt 154 = .ok (.iconst 0, 1) := by decide +kernel
theorem d_GrantServerModel_nameAt_155 : decode b_GrantServerModel_nameAt 155 = .ok (.ireturn, 1) := by decide +kernel
theorem d_GrantServerModel_nameAt_156 : decode b_GrantServerModel_nameAt 156 = .ok (.iload_n 1, 1) := by decide +kernel
theorem d_GrantServerModel_nameAt_157 : decode b_GrantServerModel_nameAt 157 = .ok (.ifCond .ne 8, 3) := by decide +kernel
theorem d_GrantServerModel_nameAt_160 : decode b_GrantServerModel_nameAt 160 = .ok (.bipush 115, 2) := by decide +kernel
theorem d_GrantServerModel_nameAt_162 : decode b_GrantServerModel_nameAt 162 = .ok (.goto 44, 3) := by decide +kernel
theorem d_GrantServerModel_nameAt_165 : decode b_GrantServerModel_nameAt 165 = .ok (.iload_n 1, 1) := by decide +kernel
theorem d_GrantServerModel_nameAt_166 : decode b_GrantServerModel_nameAt 166 = .ok (.iconst 1, 1) := by decide +kernel
theorem d_GrantServerModel_nameAt_167 : decode b_GrantServerModel_nameAt 167 = .ok (.if_icmp .ne 8, 3) := by decide +kernel
theorem d_GrantServerModel_nameAt_170 : decode b_GrantServerModel_nameAt 170 = .ok (.bipush 99, 2) := by decide +kernel
theorem d_GrantServerModel_nameAt_172 : decode b_GrantServerModel_nameAt 172 = .ok (.goto 34, 3) := by decide +kernel
theorem d_GrantServerModel_nameAt_175 : decode b_GrantServerModel_nameAt 175 = .ok (.iload_n 1, 1) := by decide +kernel
theorem d_GrantServerModel_nameAt_176 : decode b_GrantServerModel_nameAt 176 = .ok (.iconst 2, 1) := by decide +kernel
theorem d_GrantServerModel_nameAt_177 : decode b_GrantServerModel_nameAt 177 = .ok (.if_icmp .ne 8, 3) := by decide +kernel
theorem d_GrantServerModel_nameAt_180 : decode b_GrantServerModel_nameAt 180 = .ok (.bipush 111, 2) := by decide +kernel
theorem d_GrantServerModel_nameAt_182 : decode b_GrantServerModel_nameAt 182 = .ok (.goto 24, 3) := by decide +kernel
theorem d_GrantServerModel_nameAt_185 : decode b_GrantServerModel_nameAt 185 = .ok (.iload_n 1, 1) := by decide +kernel
theorem d_GrantServerModel_nameAt_186 : decode b_GrantServerModel_nameAt 186 = .ok (.iconst 3, 1) := by decide +kernel
theorem d_GrantServerModel_nameAt_187 : decode b_GrantServerModel_nameAt 187 = .ok (.if_icmp .ne 8, 3) := by decide +kernel
theorem d_GrantServerModel_nameAt_190 : decode b_GrantServerModel_nameAt 190 = .ok (.bipush 112, 2) := by decide +kernel
theorem d_GrantServerModel_nameAt_192 : decode b_GrantServerModel_nameAt 192 = .ok (.goto 14, 3) := by decide +kernel
theorem d_GrantServerModel_nameAt_195 : decode b_GrantServerModel_nameAt 195 = .ok (.iload_n 1, 1) := by decide +kernel
theorem d_GrantServerModel_nameAt_196 : decode b_GrantServerModel_nameAt 196 = .ok (.iconst 4, 1) := by decide +kernel
theorem d_GrantServerModel_nameAt_197 : decode b_GrantServerModel_nameAt 197 = .ok (.if_icmp .ne 8, 3) := by decide +kernel
theorem d_GrantServerModel_nameAt_200 : decode b_GrantServerModel_nameAt 200 = .ok (.bipush 101, 2) := by decide +kernel
theorem d_GrantServerModel_nameAt_202 : decode b_GrantServerModel_nameAt 202 = .ok (.goto 4, 3) := by decide +kernel
theorem d_GrantServerModel_nameAt_205 : decode b_GrantServerModel_nameAt 205 = .ok (.iconst 0, 1) := by decide +kernel
theorem d_GrantServerModel_nameAt_206 : decode b_GrantServerModel_nameAt 206 = .ok (.ireturn, 1) := by decide +kernel
theorem d_GrantServerModel_member_0 : decode b_GrantServerModel_member 0 = .ok (.iload_n 1, 1) := by decide +kernel
theorem d_GrantServerModel_member_1 : decode b_GrantServerModel_member 1 = .ok (.ifCond .le 10, 3) := by decide +kernel
theorem d_GrantServerModel_member_4 : decode b_GrantServerModel_member 4 = .ok (.aload_n 0, 1) := by decide +kernel
theorem d_GrantServerModel_member_5 : decode b_GrantServerModel_member 5 = .ok (.bipush 44, 2) := by decide +kernel
theorem d_GrantServerModel_member_7 : decode b_GrantServerModel_member 7 = .ok (.iconst 0, 1) := by decide +kernel
theorem d_GrantServerModel_member_8 : decode b_GrantServerModel_member 8 = .ok (.invokevirtual 124, 3) := by decide +kernel
theorem d_GrantServerModel_member_11 : decode b_GrantServerModel_member 11 = .ok (.aload_n 0, 1) := by decide +kernel
theorem d_GrantServerModel_member_12 : decode b_GrantServerModel_member 12 = .ok (.bipush 34, 2) := by decide +kernel
theorem d_GrantServerModel_member_14 : decode b_GrantServerModel_member 14 = .ok (.iconst 0, 1) := by decide +kernel
theorem d_GrantServerModel_member_15 : decode b_GrantServerModel_member 15 = .ok (.invokevirtual 124, 3) := by decide +kernel
theorem d_GrantServerModel_member_18 : decode b_GrantServerModel_member 18 = .ok (.iconst 0, 1) := by decide +kernel
theorem d_GrantServerModel_member_19 : decode b_GrantServerModel_member 19 = .ok (.istore_n 3, 1) := by decide +kernel
theorem d_GrantServerModel_member_20 : decode b_GrantServerModel_member 20 = .ok (.iload_n 1, 1) := by decide +kernel
theorem d_GrantServerModel_member_21 : decode b_GrantServerModel_member 21 = .ok (.iload_n 3, 1) := by decide +kernel
theorem d_GrantServerModel_member_22 : decode b_GrantServerModel_member 22 = .ok (.invokestatic 151, 3) := by decide +kernel
theorem d_GrantServerModel_member_25 : decode b_GrantServerModel_member 25 = .ok (.ifCond .eq 23, 3) := by decide +kernel
theorem d_GrantServerModel_member_28 : decode b_GrantServerModel_member 28 = .ok (.iload_n 1, 1) := by decide +kernel
theorem d_GrantServerModel_member_29 : decode b_GrantServerModel_member 29 = .ok (.iload_n 3, 1) := by decide +kernel
theorem d_GrantServerModel_member_30 : decode b_GrantServerModel_member 30 = .ok (.invokestatic 151, 3) := by decide +kernel
theorem d_GrantServerModel_member_33 : decode b_GrantServerModel_member 33 = .ok (.istore 4, 2) := by decide +kernel
theorem d_GrantServerModel_member_35 : decode b_GrantServerModel_member 35 = .ok (.aload_n 0, 1) := by decide +kernel
theorem d_GrantServerModel_member_36 : decode b_GrantServerModel_member 36 = .ok (.iload 4, 2) := by decide +kernel
theorem d_GrantServerModel_member_38 : decode b_GrantServerModel_member 38 = .ok (.iconst 0, 1) := by decide +kernel
theorem d_GrantServerModel_member_39 : decode b_GrantServerModel_member 39 = .ok (.invokevirtual 124, 3) := by decide +kernel
theorem d_GrantServerModel_member_42 : decode b_GrantServerModel_member 42 = .ok (.iinc 3 1, 3) := by decide +kernel
theorem d_GrantServerModel_member_45 : decode b_GrantServerModel_member 45 = .ok (.goto (-25), 3) := by decide +kernel
theorem d_GrantServerModel_member_48 : decode b_GrantServerModel_member 48 = .ok (.aload_n 0, 1) := by decide +kernel
theorem d_GrantServerModel_member_49 : decode b_GrantServerModel_member 49 = .ok (.bipush 34, 2) := by decide +kernel
theorem d_GrantServerModel_member_51 : decode b_GrantServerModel_member 51 = .ok (.iconst 0, 1) := by decide +kernel
theorem d_GrantServerModel_member_52 : decode b_GrantServerModel_member 52 = .ok (.invokevirtual 124, 3) := by decide +kernel
theorem d_GrantServerModel_member_55 : decode b_GrantServerModel_member 55 = .ok (.aload_n 0, 1) := by decide +kernel
theorem d_GrantServerModel_member_56 : decode b_GrantServerModel_member 56 = .ok (.bipush 58, 2) := by decide +kernel
theorem d_GrantServerModel_member_58 : decode b_GrantServerModel_member 58 = .ok (.iconst 0, 1) := by decide +kernel
theorem d_GrantServerModel_member_59 : decode b_GrantServerModel_member 59 = .ok (.invokevirtual 124, 3) := by decide +kernel
theorem d_GrantServerModel_member_62 : decode b_GrantServerModel_member 62 = .ok (.aload_n 0, 1) := by decide +kernel
theorem d_GrantServerModel_member_63 : decode b_GrantServerModel_member 63 = .ok (.iload_n 2, 1) := by decide +kernel
theorem d_GrantServerModel_member_64 : decode b_GrantServerModel_member 64 = .ok (.invokevirtual 154, 3) := by decide +kernel
theorem d_GrantServerModel_member_67 : decode b_GrantServerModel_member 67 = .ok (.return_, 1) := by decide +kernel
theorem d_GrantServerModel_isSealed_0 : decode b_GrantServerModel_isSealed 0 = .ok (.aload_n 0, 1) := by decide +kernel
theorem d_GrantServerModel_isSealed_1 : decode b_GrantServerModel_isSealed 1 = .ok (.getfield 175, 3) := by decide +kernel
theorem d_GrantServerModel_isSealed_4 : decode b_GrantServerModel_isSealed 4 = .ok (.bipush 11, 2) := by decide +kernel
theorem d_GrantServerModel_isSealed_6 : decode b_GrantServerModel_isSealed 6 = .ok (.isub, 1) := by decide +kernel
theorem d_GrantServerModel_isSealed_7 : decode b_GrantServerModel_isSealed 7 = .ok (.istore_n 1, 1) := by decide +kernel
theorem d_GrantServerModel_isSealed_8 : decode b_GrantServerModel_isSealed 8 = .ok (.aload_n 0, 1) := by decide +kernel
theorem d_GrantServerModel_isSealed_9 : decode b_GrantServerModel_isSealed 9 = .ok (.getfield 69, 3) := by decide +kernel
theorem d_GrantServerModel_isSealed_12 : decode b_GrantServerModel_isSealed 12 = .ok (.lstore_n 2, 1) := by decide +kernel
theorem d_GrantServerModel_isSealed_13 : decode b_GrantServerModel_isSealed 13 = .ok (.iconst 0, 1) := by decide +kernel
theorem d_GrantServerModel_isSealed_14 : decode b_GrantServerModel_isSealed 14 = .ok (.istore 4, 2) := by decide +kernel
theorem d_GrantServerModel_isSealed_16 : decode b_GrantServerModel_isSealed 16 = .ok (.iload 4, 2) := by decide +kernel
theorem d_GrantServerModel_isSealed_18 : decode b_GrantServerModel_isSealed 18 = .ok (.iload_n 1, 1) := by decide +kernel
theorem d_GrantServerModel_isSealed_19 : decode b_GrantServerModel_isSealed 19 = .ok (.if_icmp .ge 21, 3) := by decide +kernel
theorem d_GrantServerModel_isSealed_22 : decode b_GrantServerModel_isSealed 22 = .ok (.lload_n 2, 1) := by decide +kernel
theorem d_GrantServerModel_isSealed_23 : decode b_GrantServerModel_isSealed 23 = .ok (.aload_n 0, 1) := by decide +kernel
theorem d_GrantServerModel_isSealed_24 : decode b_GrantServerModel_isSealed 24 = .ok (.getfield 57, 3) := by decide +kernel
theorem d_GrantServerModel_isSealed_27 : decode b_GrantServerModel_isSealed 27 = .ok (.iload 4, 2) := by decide +kernel
theorem d_GrantServerModel_isSealed_29 : decode b_GrantServerModel_isSealed 29 = .ok (.iaload, 1) := by decide +kernel
theorem d_GrantServerModel_isSealed_30 : decode b_GrantServerModel_isSealed 30 = .ok (.invokestatic 169, 3) := by decide +kernel
theorem d_GrantServerModel_isSealed_33 : decode b_GrantServerModel_isSealed 33 = .ok (.lstore_n 2, 1) := by decide +kernel
theorem d_GrantServerModel_isSealed_34 : decode b_GrantServerModel_isSealed 34 = .ok (.iinc 4 1, 3) := by decide +kernel
theorem d_GrantServerModel_isSealed_37 : decode b_GrantServerModel_isSealed 37 = .ok (.goto (-21), 3) := by decide +kernel
theorem d_GrantServerModel_isSealed_40 : decode b_GrantServerModel_isSealed 40 = .ok (.iconst 0, 1) := by decide +kernel
theorem d_GrantServerModel_isSealed_41 : decode b_GrantServerModel_isSealed 41 = .ok (.istore 4, 2) := by decide +kernel
theorem d_GrantServerModel_isSealed_43 : decode b_GrantServerModel_isSealed 43 = .ok (.iload 4, 2) := by decide +kernel
theorem d_GrantServerModel_isSealed_45 : decode b_GrantServerModel_isSealed 45 = .ok (.bipush 10, 2) := by decide +kernel
theorem d_GrantServerModel_isSealed_47 : decode b_GrantServerModel_isSealed 47 = .ok (.if_icmp .ge 43, 3) := by decide +kernel
theorem d_GrantServerModel_isSealed_50 : decode b_GrantServerModel_isSealed 50 = .ok (.aload_n 0, 1) := by decide +kernel
theorem d_GrantServerModel_isSealed_51 : decode b_GrantServerModel_isSealed 51 = .ok (.getfield 57, 3) := by decide +kernel
theorem d_GrantServerModel_isSealed_54 : decode b_GrantServerModel_isSealed 54 = .ok (.iload_n 1, 1) := by decide +kernel
theorem d_GrantServerModel_isSealed_55 : decode b_GrantServerModel_isSealed 55 = .ok (.iconst 1, 1) := by decide +kernel
theorem d_GrantServerModel_isSealed_56 : decode b_GrantServerModel_isSealed 56 = .ok (.iadd, 1) := by decide +kernel
theorem d_GrantServerModel_isSealed_57 : decode b_GrantServerModel_isSealed 57 = .ok (.iload 4, 2) := by decide +kernel
theorem d_GrantServerModel_isSealed_59 : decode b_GrantServerModel_isSealed 59 = .ok (.iadd, 1) := by decide +kernel
theorem d_GrantServerModel_isSealed_60 : decode b_GrantServerModel_isSealed 60 = .ok (.iaload, 1) := by decide +kernel
theorem d_GrantServerModel_isSealed_61 : decode b_GrantServerModel_isSealed 61 = .ok (.invokestatic 185, 3) := by decide +kernel
theorem d_GrantServerModel_isSealed_64 : decode b_GrantServerModel_isSealed 64 = .ok (.lload_n 2, 1) := by decide +kernel
theorem d_GrantServerModel_isSealed_65 : decode b_GrantServerModel_isSealed 65 = .ok (.bipush 54, 2) := by decide +kernel
theorem d_GrantServerModel_isSealed_67 : decode b_GrantServerModel_isSealed 67 = .ok (.bipush 6, 2) := by decide +kernel
theorem d_GrantServerModel_isSealed_69 : decode b_GrantServerModel_isSealed 69 = .ok (.iload 4, 2) := by decide +kernel
theorem d_GrantServerModel_isSealed_71 : decode b_GrantServerModel_isSealed 71 = .ok (.imul, 1) := by decide +kernel
theorem d_GrantServerModel_isSealed_72 : decode b_GrantServerModel_isSealed 72 = .ok (.isub, 1) := by decide +kernel
theorem d_GrantServerModel_isSealed_73 : decode b_GrantServerModel_isSealed 73 = .ok (.lshr, 1) := by decide +kernel
theorem d_GrantServerModel_isSealed_74 : decode b_GrantServerModel_isSealed 74 = .ok (.ldc2_w 173, 3) := by decide +kernel
theorem d_GrantServerModel_isSealed_77 : decode b_GrantServerModel_isSealed 77 = .ok (.land, 1) := by decide +kernel
theorem d_GrantServerModel_isSealed_78 : decode b_GrantServerModel_isSealed 78 = .ok (.l2i, 1) := by decide +kernel
theorem d_GrantServerModel_isSealed_79 : decode b_GrantServerModel_isSealed 79 = .ok (.if_icmp .eq 5, 3) := by decide +kernel
theorem d_GrantServerModel_isSealed_82 : decode b_GrantServerModel_isSealed 82 = .ok (.iconst 0, 1) := by decide +kernel
theorem d_GrantServerModel_isSealed_83 : decode b_GrantServerModel_isSealed 83 = .ok (.ireturn, 1) := by decide +kernel
theorem d_GrantServerModel_isSealed_84 : decode b_GrantServerModel_isSealed 84 = .ok (.iinc 4 1, 3) := by decide +kernel
theorem d_GrantServerModel_isSealed_87 : decode b_GrantServerModel_isSealed 87 = .ok (.goto (-44), 3) := by decide +kernel
theorem d_GrantServerModel_isSealed_90 : decode b_GrantServerModel_isSealed 90 = .ok (.iconst 1, 1) := by decide +kernel
theorem d_GrantServerModel_isSealed_91 : decode b_GrantServerModel_isSealed 91 = .ok (.ireturn, 1) := by decide +kernel
theorem d_GrantServerModel_unwrap_0 : decode b_GrantServerModel_unwrap 0 = .ok (.aload_n 0, 1) := by decide +kernel
theorem d_GrantServerModel_unwrap_1 : decode b_GrantServerModel_unwrap 1 = .ok (.getfield 175, 3) := by decide +kernel
theorem d_GrantServerModel_unwrap_4 : decode b_GrantServerModel_unwrap 4 = .ok (.bipush 11, 2) := by decide +kernel
theorem d_GrantServerModel_unwrap_6 : decode b_GrantServerModel_unwrap 6 = .ok (.isub, 1) := by decide +kernel
theorem d_GrantServerModel_unwrap_7 : decode b_GrantServerModel_unwrap 7 = .ok (.istore_n 1, 1) := by decide +kernel
theorem d_GrantServerModel_unwrap_8 : decode b_GrantServerModel_unwrap 8 = .ok (.aload_n 0, 1) := by decide +kernel
theorem d_GrantServerModel_unwrap_9 : decode b_GrantServerModel_unwrap 9 = .ok (.bipush 6, 2) := by decide +kernel
theorem d_GrantServerModel_unwrap_11 : decode b_GrantServerModel_unwrap 11 = .ok (.iload_n 1, 1) := by decide +kernel
theorem d_GrantServerModel_unwrap_12 : decode b_GrantServerModel_unwrap 12 = .ok (.imul, 1) := by decide +kernel
theorem d_GrantServerModel_unwrap_13 : decode b_GrantServerModel_unwrap 13 = .ok (.bipush 8, 2) := by decide +kernel
theorem d_GrantServerModel_unwrap_15 : decode b_GrantServerModel_unwrap 15 = .ok (.idiv, 1) := by decide +kernel
theorem d_GrantServerModel_unwrap_16 : decode b_GrantServerModel_unwrap 16 = .ok (.putfield 121, 3) := by decide +kernel
theorem d_GrantServerModel_unwrap_19 : decode b_GrantServerModel_unwrap 19 = .ok (.iconst 0, 1) := by decide +kernel
theorem d_GrantServerModel_unwrap_20 : decode b_GrantServerModel_unwrap 20 = .ok (.istore_n 2, 1) := by decide +kernel
theorem d_GrantServerModel_unwrap_21 : decode b_GrantServerModel_unwrap 21 = .ok (.iload_n 2, 1) := by decide +kernel
theorem d_GrantServerModel_unwrap_22 : decode b_GrantServerModel_unwrap 22 = .ok (.aload_n 0, 1) := by decide +kernel
theorem d_GrantServerModel_unwrap_23 : decode b_GrantServerModel_unwrap 23 = .ok (.getfield 121, 3) := by decide +kernel
theorem d_GrantServerModel_unwrap_26 : decode b_GrantServerModel_unwrap 26 = .ok (.if_icmp .ge 70, 3) := by decide +kernel
theorem d_GrantServerModel_unwrap_29 : decode b_GrantServerModel_unwrap 29 = .ok (.iconst 0, 1) := by decide +kernel
theorem d_GrantServerModel_unwrap_30 : decode b_GrantServerModel_unwrap 30 = .ok (.istore_n 3, 1) := by decide +kernel
theorem d_GrantServerModel_unwrap_31 : decode b_GrantServerModel_unwrap 31 = .ok (.bipush 8, 2) := by decide +kernel
theorem d_GrantServerModel_unwrap_33 : decode b_GrantServerModel_unwrap 33 = .ok (.iload_n 2, 1) := by decide +kernel
theorem d_GrantServerModel_unwrap_34 : decode b_GrantServerModel_unwrap 34 = .ok (.imul, 1) := by decide +kernel
theorem d_GrantServerModel_unwrap_35 : decode b_GrantServerModel_unwrap 35 = .ok (.istore 4, 2) := by decide +kernel
theorem d_GrantServerModel_unwrap_37 : decode b_GrantServerModel_unwrap 37 = .ok (.iload 4, 2) := by decide +kernel
theorem d_GrantServerModel_unwrap_39 : decode b_GrantServerModel_unwrap 39 = .ok (.bipush 8, 2) := by decide +kernel
theorem d_GrantServerModel_unwrap_41 : decode b_GrantServerModel_unwrap 41 = .ok (.iload_n 2, 1) := by decide +kernel
theorem d_GrantServerModel_unwrap_42 : decode b_GrantServerModel_unwrap 42 = .ok (.imul, 1) := by decide +kernel
theorem d_GrantServerModel_unwrap_43 : decode b_GrantServerModel_unwrap 43 = .ok (.bipush 8, 2) := by decide +kernel
theorem d_GrantServerModel_unwrap_45 : decode b_GrantServerModel_unwrap 45 = .ok (.iadd, 1) := by decide +kernel
theorem d_GrantServerModel_unwrap_46 : decode b_GrantServerModel_unwrap 46 = .ok (.if_icmp .ge 37, 3) := by decide +kernel
theorem d_GrantServerModel_unwrap_49 : decode b_GrantServerModel_unwrap 49 = .ok (.iconst 2, 1) := by decide +kernel
theorem d_GrantServerModel_unwrap_50 : decode b_GrantServerModel_unwrap 50 = .ok (.iload_n 3, 1) := by decide +kernel
theorem d_GrantServerModel_unwrap_51 : decode b_GrantServerModel_unwrap 51 = .ok (.imul, 1) := by decide +kernel
theorem d_GrantServerModel_unwrap_52 : decode b_GrantServerModel_unwrap 52 = .ok (.aload_n 0, 1) := by decide +kernel
theorem d_GrantServerModel_unwrap_53 : decode b_GrantServerModel_unwrap 53 = .ok (.getfield 57, 3) := by decide +kernel
theorem d_GrantServerModel_unwrap_56 : decode b_GrantServerModel_unwrap 56 = .ok (.iload 4, 2) := by decide +kernel
theorem d_GrantServerModel_unwrap_58 : decode b_GrantServerModel_unwrap 58 = .ok (.bipush 6, 2) := by decide +kernel
theorem d_GrantServerModel_unwrap_60 : decode b_GrantServerModel_unwrap 60 = .ok (.idiv, 1) := by decide +kernel
theorem d_GrantServerModel_unwrap_61 : decode b_GrantServerModel_unwrap 61 = .ok (.iaload, 1) := by decide +kernel
theorem d_GrantServerModel_unwrap_62 : decode b_GrantServerModel_unwrap 62 = .ok (.invokestatic 185, 3) := by decide +kernel
theorem d_GrantServerModel_unwrap_65 : decode b_GrantServerModel_unwrap 65 = .ok (.iconst 5, 1) := by decide +kernel
theorem d_GrantServerModel_unwrap_66 : decode b_GrantServerModel_unwrap 66 = .ok (.iload 4, 2) := by decide +kernel
theorem d_GrantServerModel_unwrap_68 : decode b_GrantServerModel_unwrap 68 = .ok (.bipush 6, 2) := by decide +kernel
theorem d_GrantServerModel_unwrap_70 : decode b_GrantServerModel_unwrap 70 = .ok (.irem, 1) := by decide +kernel
theorem d_GrantServerModel_unwrap_71 : decode b_GrantServerModel_unwrap 71 = .ok (.isub, 1) := by decide +kernel
theorem d_GrantServerModel_unwrap_72 : decode b_GrantServerModel_unwrap 72 = .ok (.ishr, 1) := by decide +kernel
theorem d_GrantServerModel_unwrap_73 : decode b_GrantServerModel_unwrap 73 = .ok (.iconst 1, 1) := by decide +kernel
theorem d_GrantServerModel_unwrap_74 : decode b_GrantServerModel_unwrap 74 = .ok (.iand, 1) := by decide +kernel
theorem d_GrantServerModel_unwrap_75 : decode b_GrantServerModel_unwrap 75 = .ok (.iadd, 1) := by decide +kernel
theorem d_GrantServerModel_unwrap_76 : decode b_GrantServerModel_unwrap 76 = .ok (.istore_n 3, 1) := by decide +kernel
theorem d_GrantServerModel_unwrap_77 : decode b_GrantServerModel_unwrap 77 = .ok (.iinc 4 1, 3) := by decide +kernel
theorem d_GrantServerModel_unwrap_80 : decode b_GrantServerModel_unwrap 80 = .ok (.goto (-43), 3) := by decide +kernel
theorem d_GrantServerModel_unwrap_83 : decode b_GrantServerModel_unwrap 83 = .ok (.aload_n 0, 1) := by decide +kernel
theorem d_GrantServerModel_unwrap_84 : decode b_GrantServerModel_unwrap 84 = .ok (.getfield 63, 3) := by decide +kernel
theorem d_GrantServerModel_unwrap_87 : decode b_GrantServerModel_unwrap 87 = .ok (.iload_n 2, 1) := by decide +kernel
theorem d_GrantServerModel_unwrap_88 : decode b_GrantServerModel_unwrap 88 = .ok (.iload_n 3, 1) := by decide +kernel
theorem d_GrantServerModel_unwrap_89 : decode b_GrantServerModel_unwrap 89 = .ok (.iastore, 1) := by decide +kernel
theorem d_GrantServerModel_unwrap_90 : decode b_GrantServerModel_unwrap 90 = .ok (.iinc 2 1, 3) := by decide +kernel
theorem d_GrantServerModel_unwrap_93 : decode b_GrantServerModel_unwrap 93 = .ok (.goto (-72), 3) := by decide +kernel
theorem d_GrantServerModel_unwrap_96 : decode b_GrantServerModel_unwrap 96 = .ok (.return_, 1) := by decide +kernel
theorem d_GrantServerModel_next_0 : decode b_GrantServerModel_next 0 = .ok (.aload_n 0, 1) := by decide +kernel
theorem d_GrantServerModel_next_1 : decode b_GrantServerModel_next 1 = .ok (.getfield 188, 3) := by decide +kernel
theorem d_GrantServerModel_next_4 : decode b_GrantServerModel_next 4 = .ok (.aload_n 0, 1) := by decide +kernel
theorem d_GrantServerModel_next_5 : decode b_GrantServerModel_next 5 = .ok (.getfield 121, 3) := by decide +kernel
theorem d_GrantServerModel_next_8 : decode b_GrantServerModel_next 8 = .ok (.if_icmp .ge 30, 3) := by decide +kernel
theorem d_GrantServerModel_next_11 : decode b_GrantServerModel_next 11 = .ok (.aload_n 0, 1) := by decide +kernel
theorem d_GrantServerModel_next_12 : decode b_GrantServerModel_next 12 = .ok (.getfield 63, 3) := by decide +kernel
theorem d_GrantServerModel_next_15 : decode b_GrantServerModel_next 15 = .ok (.aload_n 0, 1) := by decide +kernel
theorem d_GrantServerModel_next_16 : decode b_GrantServerModel_next 16 = .ok (.getfield 188, 3) := by decide +kernel
theorem d_GrantServerModel_next_19 : decode b_GrantServerModel_next 19 = .ok (.iaload, 1) := by decide +kernel
theorem d_GrantServerModel_next_20 : decode b_GrantServerModel_next 20 = .ok (.bipush 32, 2) := by decide +kernel
theorem d_GrantServerModel_next_22 : decode b_GrantServerModel_next 22 = .ok (.if_icmp .ne 16, 3) := by decide +kernel
theorem d_GrantServerModel_next_25 : decode b_GrantServerModel_next 25 = .ok (.aload_n 0, 1) := by decide +kernel
theorem d_GrantServerModel_next_26 : decode b_GrantServerModel_next 26 = .ok (.dup, 1) := by decide +kernel
theorem d_GrantServerModel_next_27 : decode b_GrantServerModel_next 27 = .ok (.getfield 188, 3) := by decide +kernel
theorem d_GrantServerModel_next_30 : decode b_GrantServerModel_next 30 = .ok (.iconst 1, 1) := by decide +kernel
theorem d_GrantServerModel_next_31 : decode b_GrantServerModel_next 31 = .ok (.iadd, 1) := by decide +kernel
theorem d_GrantServerModel_next_32 : decode b_GrantServerModel_next 32 = .ok (.putfield 188, 3) := by decide +kernel
theorem d_GrantServerModel_next_35 : decode b_GrantServerModel_next 35 = .ok (.goto (-35), 3) := by decide +kernel
theorem d_GrantServerModel_next_38 : decode b_GrantServerModel_next 38 = .ok (.aload_n 0, 1) := by decide +kernel
theorem d_GrantServerModel_next_39 : decode b_GrantServerModel_next 39 = .ok (.getfield 188, 3) := by decide +kernel
theorem d_GrantServerModel_next_42 : decode b_GrantServerModel_next 42 = .ok (.aload_n 0, 1) := by decide +kernel
theorem d_GrantServerModel_next_43 : decode b_GrantServerModel_next 43 = .ok (.getfield 121, 3) := by decide +kernel
theorem d_GrantServerModel_next_46 : decode b_GrantServerModel_next 46 = .ok (.if_icmp .ge 15, 3) := by decide +kernel
theorem d_GrantServerModel_next_49 : decode b_GrantServerModel_next 49 = .ok (.aload_n 0, 1) := by decide +kernel
theorem d_GrantServerModel_next_50 : decode b_GrantServerModel_next 50 = .ok (.getfield 63, 3) := by decide +kernel
theorem d_GrantServerModel_next_53 : decode b_GrantServerModel_next 53 = .ok (.aload_n 0, 1) := by decide +kernel
theorem d_GrantServerModel_next_54 : decode b_GrantServerModel_next 54 = .ok (.getfield 188, 3) := by decide +kernel
theorem d_GrantServerModel_next_57 : decode b_GrantServerModel_next 57 = .ok (.iaload, 1) := by decide +kernel
theorem d_GrantServerModel_next_58 : decode b_GrantServerModel_next 58 = .ok (.goto 4, 3) := by decide +kernel
theorem d_GrantServerModel_next_61 : decode b_GrantServerModel_next 61 = .ok (.iconst 0, 1) := by decide +kernel
theorem d_GrantServerModel_next_62 : decode b_GrantServerModel_next 62 = .ok (.ireturn, 1) := by decide +kernel
theorem d_GrantServerModel_reads_0 : decode b_GrantServerModel_reads 0 = .ok (.aload_n 0, 1) := by decide +kernel
theorem d_GrantServerModel_reads_1 : decode b_GrantServerModel_reads 1 = .ok (.invokevirtual 191, 3) := by decide +kernel
theorem d_GrantServerModel_reads_4 : decode b_GrantServerModel_reads 4 = .ok (.iload_n 1, 1) := by decide +kernel
theorem d_GrantServerModel_reads_5 : decode b_GrantServerModel_reads 5 = .ok (.if_icmp .ne 7, 3) := by decide +kernel
theorem d_GrantServerModel_reads_8 : decode b_GrantServerModel_reads 8 = .ok (.iconst 1, 1) := by decide +kernel
theorem d_GrantServerModel_reads_9 : decode b_GrantServerModel_reads 9 = .ok (.goto 4, 3) := by decide +kernel
theorem d_GrantServerModel_reads_12 : decode b_GrantServerModel_reads 12 = .ok (.iconst 0, 1) := by decide +kernel
theorem d_GrantServerModel_reads_13 : decode b_GrantServerModel_reads 13 = .ok (.istore_n 2, 1) := by decide +kernel
theorem d_GrantServerModel_reads_14 : decode b_GrantServerModel_reads 14 = .ok (.aload_n 0, 1) := by decide +kernel
theorem d_GrantServerModel_reads_15 : decode b_GrantServerModel_reads 15 = .ok (.iload_n 2, 1) := by decide +kernel
theorem d_GrantServerModel_reads_16 : decode b_GrantServerModel_reads 16 = .ok (.ifCond .eq 12, 3) := by decide +kernel
theorem d_GrantServerModel_reads_19 : decode b_GrantServerModel_reads 19 = .ok (.aload_n 0, 1) := by decide +kernel
theorem d_GrantServerModel_reads_20 : decode b_GrantServerModel_reads 20 = .ok (.getfield 188, 3) := by decide +kernel
theorem d_GrantServerModel_reads_23 : decode b_GrantServerModel_reads 23 = .ok (.iconst 1, 1) := by decide +kernel
theorem d_GrantServerModel_reads_24 : decode b_GrantServerModel_reads 24 = .ok (.iadd, 1) := by decide +kernel
theorem d_GrantServerModel_reads_25 : decode b_GrantServerModel_reads 25 = .ok (.goto 7, 3) := by decide +kernel
theorem d_GrantServerModel_reads_28 : decode b_GrantServerModel_reads 28 = .ok (.aload_n 0, 1) := by decide +kernel
theorem d_GrantServerModel_reads_29 : decode b_GrantServerModel_reads 29 = .ok (.getfield 188, 3) := by decide +kernel
theorem d_GrantServerModel_reads_32 : decode b_GrantServerModel_reads 32 = .ok (.putfield 188, 3) := by decide +kernel
theorem d_GrantServerModel_reads_35 : decode b_GrantServerModel_reads 35 = .ok (.iload_n 2, 1) := by decide +kernel
theorem d_GrantServerModel_reads_36 : decode b_GrantServerModel_reads 36 = .ok (.ireturn, 1) := by decide +kernel
set_option maxRecDepth 20000 in
theorem fl_GrantServerModel_188 : hm_fl vwCl TB R_GrantServerModel 188 8 29 false .int := ⟨_, _, _, _, cl_GrantServerModel, by decide, (TBm 721 (by decide +kernel) rfl), rfl, rfl⟩
set_option maxRecDepth 20000 in
theorem me_GrantServerModel_nameAt : hm_meS y_GrantServerModel_nameAt b_GrantServerModel_nameAt 2 (some .int) 2 := ⟨⟨(TBm 850 rfl rfl), (TBm 47 (by decide +kernel) rfl), by decide +kernel⟩, (TBm 849 (by decide +kernel) rfl)⟩
set_option maxRecDepth 20000 in
theorem me_GrantServerModel_next : hm_meV y_GrantServerModel_next b_GrantServerModel_next 1 (some .int) 0 := ⟨⟨(TBm 957 rfl rfl), (TBm 47 (by decide +kernel) rfl), by decide +kernel⟩, (TBm 956 (by decide +kernel) rfl), (TBm 35 (by decide +kernel) rfl)⟩
set_option maxRecDepth 20000 in
theorem me_GrantServerModel_say : hm_meV y_GrantServerModel_say b_GrantServerModel_say 3 none 2 := ⟨⟨(TBm 843 rfl rfl), (TBm 47 (by decide +kernel) rfl), by decide +kernel⟩, (TBm 842 (by decide +kernel) rfl), (TBm 23 (by decide +kernel) rfl)⟩
set_option maxRecDepth 20000 in
theorem me_GrantServerModel_sayNumber : hm_meV y_GrantServerModel_sayNumber b_GrantServerModel_sayNumber 3 none 1 := ⟨⟨(TBm 854 rfl rfl), (TBm 47 (by decide +kernel) rfl), by decide +kernel⟩, (TBm 853 (by decide +kernel) rfl), (TBm 25 (by decide +kernel) rfl)⟩
set_option maxRecDepth 20000 in
theorem me_GrantServerModel_signValue : hm_meS y_GrantServerModel_signValue b_GrantServerModel_signValue 1 (some .int) 1 := ⟨⟨(TBm 937 rfl rfl), (TBm 47 (by decide +kernel) rfl), by decide +kernel⟩, (TBm 936 (by decide +kernel) rfl)⟩
set_option maxRecDepth 20000 in
theorem wl_GrantServerModel_124 : Cond.methodLink R_GrantServerModel 124 y_GrantServerModel_say ∈ TB := TBm 840 (by decide +kernel) rfl
set_option maxRecDepth 20000 in
theorem wl_GrantServerModel_151 : Cond.methodLink R_GrantServerModel 151 y_GrantServerModel_nameAt ∈ TB := TBm 848 (by decide +kernel) rfl
set_option maxRecDepth 20000 in
theorem wl_GrantServerModel_154 : Cond.methodLink R_GrantServerModel 154 y_GrantServerModel_sayNumber ∈ TB := TBm 851 (by decide +kernel) rfl
set_option maxRecDepth 20000 in
theorem wl_GrantServerModel_185 : Cond.methodLink R_GrantServerModel 185 y_GrantServerModel_signValue ∈ TB := TBm 935 (by decide +kernel) rfl
set_option maxRecDepth 20000 in
theorem wl_GrantServerModel_191 : Cond.methodLink R_GrantServerModel 191 y_GrantServerModel_next ∈ TB := TBm 954 (by decide +kernel) rfl
set_option maxHeartbeats 4000000 in
set_option maxRecDepth 100000 in
theorem m_c_next (l : Launch) (D : va_G) (k : Nat → ClassId) (f : hm) (h : Nat) (ad : Nat → Nat) (sk : Int64) (v : Nat → Int32) (c : Nat → Nat → Int32) (n : Nat) (p : Nat) (x : Nat → Int32) (hmo : mo k f h ad sk v c) (hn : v 28 = nI n) (hcx : c 27 = x) (hp0 : v 29 = nI p) (hn9 : n ≤ 120) (hp : p ≤ n) : hm_Mi l D vwCl (tyL k) y_GrantServerModel_next (Cond.code y_GrantServerModel_next b_GrantServerModel_next 1 (some .int) :: TB) ({ frames := 0, cells := 0, slots := 0, locals := 0 }) [.ref h] f (fun (r : Int32) (f1 : hm) => m_nx n x p = r ∧ mo k f1 h ad sk (upd v 29 (nI (z_sk n x p))) c ∧ mo_fr h ad f f1) 0 0 := by
  refine hm_enter (Qc := fun sz => va_Qi _ (hm_R D vwCl (tyL k) f sz) (hm_A f sz)) (by decide) rfl (Nat.le_of_ble_eq_true rfl) ?_
  intro pg e s m below meth cd ls X0 hr hlk hin hK hM hS hA hl Q hQ
  have X : CallFix pg m cd b_GrantServerModel_next 1 s ([.ref h] : List Value).toArray TB R_GrantServerModel := ⟨X0.1, X0.2.1, X0.2.2.1, X0.2.2.2.1, fun w h => X0.2.2.2.2 w (List.mem_cons_of_mem _ h)⟩
  have hx := X.1; have hb := X.2.1; have hml := X.2.2.1; have hown := X.2.2.2.1; have hts := X.2.2.2.2
  have hl : lv_has ls 1 [(0, .ref h)] := hl
  have hfr : mo_fr h ad f f := mo_fr.rf
  have hmo : mo k f h ad sk (upd (upd v 28 (nI n)) 29 (nI p)) (va_up c 27 x) := hmo.cv (by rw [upd_id hn, upd_id hp0]) (by rw [va_up_idE hcx])
  have loop0 : ∀ (fu : Nat) (p1 : Nat) (fL : hm) (H : Heap) (locs : List Loc) (ls : Array Slot) (hmu : n - p1 < fu) (hp1 : p1 ≤ n) (hsk : z_sk n x p = z_sk n x p1) (hmo : mo k fL h ad sk (upd (upd v 28 (nI n)) 29 (nI p1)) (va_up c 27 x)) (hfr : mo_fr h ad f fL) (hM : hm_W D vwCl (hm_A f s.heap.size) fL H) (hS : va_S (hm_A f s.heap.size) s.heap H locs) (hl : lv_has ls 1 [(0, .ref h)]), W pg l e ({ frames := 0, cells := 0, slots := 0, locals := 0 }) s m ([.ref h] : List Value).toArray below meth cd H locs 0 0 Q (F0 m 0 ls []) := by
    intro fu
    induction fu with
    | zero => intro p1 fL H locs ls hmu; exact absurd hmu (Nat.not_lt_zero _)
    | succ fu ih =>
      intro p1 fL H locs ls hmu hp1 hsk  hmo hfr hM hS hl
      refine lv_aload_n hx hb d_GrantServerModel_next_0 rfl (lv_at hl 0 rfl) ?_
      refine hm_get X hK hM hmo.1 fl_GrantServerModel_188 (v := .int (nI p1)) rfl d_GrantServerModel_next_1 ?_
      refine lv_aload_n hx hb d_GrantServerModel_next_4 rfl (lv_at hl 0 rfl) ?_
      refine hm_get X hK hM hmo.1 fl_GrantServerModel_121 (v := .int (nI n)) rfl d_GrantServerModel_next_5 ?_
      refine lv_icmp_ge (tgt := 38) hx hb d_GrantServerModel_next_8 (by decide) (fun h1 => ?_) (fun h1 => ?_)
      · have hge : n ≤ p1 := (nI_leI (a := n) (b := p1) (by omega) (by omega)).mp h1
        have hend : z_sk n x p = p1 := hsk.trans (z_sk_n (fun z => by omega))
        refine lv_aload_n hx hb d_GrantServerModel_next_38 rfl (lv_at hl 0 rfl) ?_
        refine hm_get X hK hM hmo.1 fl_GrantServerModel_188 (v := .int (nI p1)) rfl d_GrantServerModel_next_39 ?_
        refine lv_aload_n hx hb d_GrantServerModel_next_42 rfl (lv_at hl 0 rfl) ?_
        refine hm_get X hK hM hmo.1 fl_GrantServerModel_121 (v := .int (nI n)) rfl d_GrantServerModel_next_43 ?_
        refine lv_icmp_ge (tgt := 61) hx hb d_GrantServerModel_next_46 (by decide) (fun h2 => ?_) (fun h2 => ?_)
        · refine lv_iconst (v := 0) hx hb d_GrantServerModel_next_61 (by decide) ?_
          exact hm_iret X hQ hr hlk hK hM hS d_GrantServerModel_next_62 ⟨(by unfold m_nx; rw [hend, if_neg (by omega)]), (hend ▸ hmo.cv (by funext z9; by_cases q28 : z9 = 28 <;> by_cases q29 : z9 = 29 <;> simp [upd, q28, q29, hn, hp0]) (va_up_idE hcx).symm), hfr⟩
        · exact absurd h1 h2
      · have hlt : p1 < n := by have z := mt (nI_leI (a := n) (b := p1) (by omega) (by omega)).mpr h1; omega
        refine lv_aload_n hx hb d_GrantServerModel_next_11 rfl (lv_at hl 0 rfl) ?_
        refine hm_get X hK hM hmo.1 fl_GrantServerModel_63 (v := .ref (ad 27)) rfl d_GrantServerModel_next_12 ?_
        refine lv_aload_n hx hb d_GrantServerModel_next_15 rfl (lv_at hl 0 rfl) ?_
        refine hm_get X hK hM hmo.1 fl_GrantServerModel_188 (v := .int (nI p1)) rfl d_GrantServerModel_next_16 ?_
        have g2 : fL (ad 27) = some (.inl (k 0, 130, .inl x)) := hmo.arr 27 (by decide) (by decide)
        refine hm_iald X hK hM g2 0 rfl p1 rfl (by omega) (by decide) d_GrantServerModel_next_19 ?_
        refine lv_bipush (v := 32) hx hb d_GrantServerModel_next_20 (by decide) ?_
        refine lv_icmp_ne (tgt := 38) hx hb d_GrantServerModel_next_22 (by decide) (fun h3 => ?_) (fun h3 => ?_)
        · have hend : z_sk n x p = p1 := hsk.trans (z_sk_n (fun z => h3 z.2))
          refine lv_aload_n hx hb d_GrantServerModel_next_38 rfl (lv_at hl 0 rfl) ?_
          refine hm_get X hK hM hmo.1 fl_GrantServerModel_188 (v := .int (nI p1)) rfl d_GrantServerModel_next_39 ?_
          refine lv_aload_n hx hb d_GrantServerModel_next_42 rfl (lv_at hl 0 rfl) ?_
          refine hm_get X hK hM hmo.1 fl_GrantServerModel_121 (v := .int (nI n)) rfl d_GrantServerModel_next_43 ?_
          refine lv_icmp_ge (tgt := 61) hx hb d_GrantServerModel_next_46 (by decide) (fun h4 => ?_) (fun h4 => ?_)
          · exact absurd h4 h1
          · refine lv_aload_n hx hb d_GrantServerModel_next_49 rfl (lv_at hl 0 rfl) ?_
            refine hm_get X hK hM hmo.1 fl_GrantServerModel_63 (v := .ref (ad 27)) rfl d_GrantServerModel_next_50 ?_
            refine lv_aload_n hx hb d_GrantServerModel_next_53 rfl (lv_at hl 0 rfl) ?_
            refine hm_get X hK hM hmo.1 fl_GrantServerModel_188 (v := .int (nI p1)) rfl d_GrantServerModel_next_54 ?_
            have g5 : fL (ad 27) = some (.inl (k 0, 130, .inl x)) := hmo.arr 27 (by decide) (by decide)
            refine hm_iald X hK hM g5 0 rfl p1 rfl (by omega) (by decide) d_GrantServerModel_next_57 ?_
            refine lv_goto (tgt := 62) hx hb d_GrantServerModel_next_58 (by decide) ?_
            exact hm_iret X hQ hr hlk hK hM hS d_GrantServerModel_next_62 ⟨(by unfold m_nx; rw [hend, if_pos hlt]), (hend ▸ hmo.cv (by funext z9; by_cases q28 : z9 = 28 <;> by_cases q29 : z9 = 29 <;> simp [upd, q28, q29, hn, hp0]) (va_up_idE hcx).symm), hfr⟩
        · refine lv_aload_n hx hb d_GrantServerModel_next_25 rfl (lv_at hl 0 rfl) ?_
          refine lv_dup hx hb d_GrantServerModel_next_26 rfl ?_
          refine hm_get X hK hM hmo.1 fl_GrantServerModel_188 (v := .int (nI p1)) rfl d_GrantServerModel_next_27 ?_
          refine lv_iconst (v := 1) hx hb d_GrantServerModel_next_30 (by decide) ?_
          refine lv_iadd hx hb d_GrantServerModel_next_31 ?_
          refine hm_top (nI_1 _) ?_
          refine hm_put X hK hM hS (fs' := moV sk (upd (upd (upd v 28 (nI n)) 29 (nI p1)) 29 (nI (p1 + 1))) ad) hmo.1 fl_GrantServerModel_188 rfl rfl (Nat.le_of_ble_eq_true rfl) rfl d_GrantServerModel_next_32 (fun f4 H locs e5 hM hS => ?_)
          have hfr := hfr.put e5; have hmo : mo k f4 h ad sk (upd (upd (upd v 28 (nI n)) 29 (nI p1)) 29 (nI (p1 + 1))) (va_up c 27 x) := hmo.put e5
          refine lv_goto (tgt := 0) hx hb d_GrantServerModel_next_35 (by decide) ?_
          exact ih (p1 + 1) f4 H locs ls (by omega) (by omega) (hsk.trans (z_sk_y hlt h3))  (hmo.cv (upd_uu _ _ _ _).symm rfl) hfr hM hS (lv_sub hl [0] rfl)
  exact loop0 _ p f s.heap [] ls (Nat.lt_succ_self _) hp rfl  hmo hfr hM hS (lv_sub hl [0] rfl)
set_option maxHeartbeats 4000000 in
set_option maxRecDepth 100000 in
theorem m_c_reads (l : Launch) (D : va_G) (k : Nat → ClassId) (f : hm) (h : Nat) (ad : Nat → Nat) (sk : Int64) (v : Nat → Int32) (c : Nat → Nat → Int32) (n : Nat) (p : Nat) (x : Nat → Int32) (y : Int32) (hmo : mo k f h ad sk v c) (hn : v 28 = nI n) (hcx : c 27 = x) (hp0 : v 29 = nI p) (hn9 : n ≤ 120) (hp : p ≤ n) (hy : ¬ y = 0) : hm_Mi l D vwCl (tyL k) y_GrantServerModel_reads (Cond.code y_GrantServerModel_reads b_GrantServerModel_reads 3 (some .boolean) :: TB) ({ frames := 1, cells := 0, slots := 0, locals := 20 }) [.ref h, .int y] f (fun (r : Int32) (f1 : hm) => z_b (m_mk n x p y) = r ∧ mo k f1 h ad sk (upd v 29 (nI (m_mkA n x p y))) c ∧ mo_fr h ad f f1) 0 0 := by
  refine hm_enter (Qc := fun sz => va_Qi _ (hm_R D vwCl (tyL k) f sz) (hm_A f sz)) (by decide) rfl (Nat.le_of_ble_eq_true rfl) ?_
  intro pg e s m below meth cd ls X0 hr hlk hin hK hM hS hA hl Q hQ
  have X : CallFix pg m cd b_GrantServerModel_reads 3 s ([.ref h, .int y] : List Value).toArray TB R_GrantServerModel := ⟨X0.1, X0.2.1, X0.2.2.1, X0.2.2.2.1, fun w h => X0.2.2.2.2 w (List.mem_cons_of_mem _ h)⟩
  have hx := X.1; have hb := X.2.1; have hml := X.2.2.1; have hown := X.2.2.2.1; have hts := X.2.2.2.2
  have hl : lv_has ls 3 [(0, .ref h), (1, .int y)] := hl
  have hfr : mo_fr h ad f f := mo_fr.rf
  have hmo : mo k f h ad sk (upd (upd v 28 (nI n)) 29 (nI p)) (va_up c 27 x) := hmo.cv (by rw [upd_id hn, upd_id hp0]) (by rw [va_up_idE hcx])
  refine lv_aload_n hx hb d_GrantServerModel_reads_0 rfl (lv_at hl 0 rfl) ?_
  refine hm_calli hS hM hA (va_runV (As := []) (rest := []) X (m_c_next l D k f h ad sk (upd (upd v 28 (nI n)) 29 (nI p)) (va_up c 27 x) n p x hmo rfl rfl rfl hn9 hp s.heap.size) (hm_cwV hts me_GrantServerModel_next wl_GrantServerModel_191 rfl rfl ⟨Nat.le_of_ble_eq_true rfl, Nat.le_of_ble_eq_true rfl⟩) (hm_preV hM hK hmo.1 rfl) rfl rfl hl.1 rfl (lv_room (Nat.le_of_ble_eq_true rfl)) d_GrantServerModel_reads_1 ⟨Nat.le_of_ble_eq_true rfl, Nat.le_of_ble_eq_true rfl⟩) (fun r3 f1 H locs p2 hM hS => ?_)
  obtain ⟨rfl, hmo, hfr4⟩ := p2
  have hfr := hfr.tr hfr4
  have hmo : mo k f1 h ad sk (upd (upd (upd v 28 (nI n)) 29 (nI p)) 29 (nI (z_sk n x p))) (va_up c 27 x) := hmo
  refine lv_iload_n hx hb d_GrantServerModel_reads_4 rfl (lv_at hl 1 rfl) ?_
  refine lv_icmp_ne (tgt := 12) hx hb d_GrantServerModel_reads_5 (by decide) (fun h5 => ?_) (fun h5 => ?_)
  · have hy9 := mt (m_nx_eq hy).mpr h5
    refine lv_iconst (v := 0) hx hb d_GrantServerModel_reads_12 (by decide) ?_
    refine lv_istore_n (lv' := [(2, .int 0), (0, .ref h), (1, .int y)]) hx hb d_GrantServerModel_reads_13 rfl hl (by decide) rfl (fun ls hl => ?_)
    refine lv_aload_n hx hb d_GrantServerModel_reads_14 rfl (lv_at hl 1 rfl) ?_
    refine lv_iload_n hx hb d_GrantServerModel_reads_15 rfl (lv_at hl 0 rfl) ?_
    refine lv_if_eq (tgt := 28) hx hb d_GrantServerModel_reads_16 (by decide) (fun h6 => ?_) (fun h6 => ?_)
    · refine lv_aload_n hx hb d_GrantServerModel_reads_28 rfl (lv_at hl 1 rfl) ?_
      refine hm_get X hK hM hmo.1 fl_GrantServerModel_188 (v := .int (nI (z_sk n x p))) rfl d_GrantServerModel_reads_29 ?_
      refine hm_put X hK hM hS (fs' := moV sk (upd (upd (upd (upd v 28 (nI n)) 29 (nI p)) 29 (nI (z_sk n x p))) 29 (nI (z_sk n x p))) ad) hmo.1 fl_GrantServerModel_188 rfl rfl (Nat.le_of_ble_eq_true rfl) rfl d_GrantServerModel_reads_32 (fun f7 H locs e8 hM hS => ?_)
      have hfr := hfr.put e8; have hmo : mo k f7 h ad sk (upd (upd (upd (upd v 28 (nI n)) 29 (nI p)) 29 (nI (z_sk n x p))) 29 (nI (z_sk n x p))) (va_up c 27 x) := hmo.put e8
      refine lv_iload_n hx hb d_GrantServerModel_reads_35 rfl (lv_at hl 0 rfl) ?_
      exact hm_zret X hQ hr hlk hK hM hS rfl d_GrantServerModel_reads_36 ⟨(by unfold m_mk; rw [if_neg hy9]; rfl), ((show m_mkA n x p y = z_sk n x p by unfold m_mkA; exact if_neg hy9) ▸ hmo.cv (by funext z9; by_cases q28 : z9 = 28 <;> by_cases q29 : z9 = 29 <;> simp [upd, q28, q29, hn, hp0]) (va_up_idE hcx).symm), hfr⟩
    · exact absurd h6 (by decide)
  · have hy9 := (m_nx_eq hy).mp h5
    refine lv_iconst (v := 1) hx hb d_GrantServerModel_reads_8 (by decide) ?_
    refine lv_goto (tgt := 13) hx hb d_GrantServerModel_reads_9 (by decide) ?_
    refine lv_istore_n (lv' := [(2, .int 1), (0, .ref h), (1, .int y)]) hx hb d_GrantServerModel_reads_13 rfl hl (by decide) rfl (fun ls hl => ?_)
    refine lv_aload_n hx hb d_GrantServerModel_reads_14 rfl (lv_at hl 1 rfl) ?_
    refine lv_iload_n hx hb d_GrantServerModel_reads_15 rfl (lv_at hl 0 rfl) ?_
    refine lv_if_eq (tgt := 28) hx hb d_GrantServerModel_reads_16 (by decide) (fun h6 => ?_) (fun h6 => ?_)
    · exact absurd h6 (by decide)
    · refine lv_aload_n hx hb d_GrantServerModel_reads_19 rfl (lv_at hl 1 rfl) ?_
      refine hm_get X hK hM hmo.1 fl_GrantServerModel_188 (v := .int (nI (z_sk n x p))) rfl d_GrantServerModel_reads_20 ?_
      refine lv_iconst (v := 1) hx hb d_GrantServerModel_reads_23 (by decide) ?_
      refine lv_iadd hx hb d_GrantServerModel_reads_24 ?_
      refine hm_top (nI_1 _) ?_
      refine lv_goto (tgt := 32) hx hb d_GrantServerModel_reads_25 (by decide) ?_
      refine hm_put X hK hM hS (fs' := moV sk (upd (upd (upd (upd v 28 (nI n)) 29 (nI p)) 29 (nI (z_sk n x p))) 29 (nI ((z_sk n x p) + 1))) ad) hmo.1 fl_GrantServerModel_188 rfl rfl (Nat.le_of_ble_eq_true rfl) rfl d_GrantServerModel_reads_32 (fun f7 H locs e8 hM hS => ?_)
      have hfr := hfr.put e8; have hmo : mo k f7 h ad sk (upd (upd (upd (upd v 28 (nI n)) 29 (nI p)) 29 (nI (z_sk n x p))) 29 (nI ((z_sk n x p) + 1))) (va_up c 27 x) := hmo.put e8
      refine lv_iload_n hx hb d_GrantServerModel_reads_35 rfl (lv_at hl 0 rfl) ?_
      exact hm_zret X hQ hr hlk hK hM hS rfl d_GrantServerModel_reads_36 ⟨(by unfold m_mk; rw [if_pos hy9]; rfl), ((show m_mkA n x p y = z_sk n x p + 1 by unfold m_mkA; exact if_pos hy9) ▸ hmo.cv (by funext z9; by_cases q28 : z9 = 28 <;> by_cases q29 : z9 = 29 <;> simp [upd, q28, q29, hn, hp0]) (va_up_idE hcx).symm), hfr⟩
set_option maxHeartbeats 4000000 in
set_option maxRecDepth 100000 in
theorem m_c_nameAt (l : Launch) (D : va_G) (k : Nat → ClassId) (f : hm) (w : Nat) (i : Nat) (hw : w < 5) (hi : i < 6) : hm_Mi l D vwCl (tyL k) y_GrantServerModel_nameAt (Cond.code y_GrantServerModel_nameAt b_GrantServerModel_nameAt 2 (some .int) :: TB) ({ frames := 0, cells := 0, slots := 0, locals := 0 }) [.int (nI w), .int (nI i)] f (fun (r : Int32) (f1 : hm) => nI (m_nm w i) = r ∧ f = f1) 0 0 := by
  refine hm_enter (Qc := fun sz => va_Qi _ (hm_R D vwCl (tyL k) f sz) (hm_A f sz)) (by decide) rfl (Nat.le_of_ble_eq_true rfl) ?_
  intro pg e s m below meth cd ls X0 hr hlk hin hK hM hS hA hl Q hQ
  have X : CallFix pg m cd b_GrantServerModel_nameAt 2 s ([.int (nI w), .int (nI i)] : List Value).toArray TB R_GrantServerModel := ⟨X0.1, X0.2.1, X0.2.2.1, X0.2.2.2.1, fun w h => X0.2.2.2.2 w (List.mem_cons_of_mem _ h)⟩
  have hx := X.1; have hb := X.2.1; have hml := X.2.2.1; have hown := X.2.2.2.1; have hts := X.2.2.2.2
  have hl : lv_has ls 2 [(0, .int (nI w)), (1, .int (nI i))] := hl
  refine lv_iload_n hx hb d_GrantServerModel_nameAt_0 rfl (lv_at hl 0 rfl) ?_
  by_cases h1 : (nI w) = 0
  · refine lv_tableIn (tgt := 32) hx hb d_GrantServerModel_nameAt_1 (by rw [h1]; decide) (by rw [h1]; decide) (by rw [h1]; rfl) (by decide) ?_
    refine lv_iload_n hx hb d_GrantServerModel_nameAt_32 rfl (lv_at hl 1 rfl) ?_
    refine lv_if_ne (tgt := 41) hx hb d_GrantServerModel_nameAt_33 (by decide) (fun h2 => ?_) (fun h2 => ?_)
    · refine lv_iload_n hx hb d_GrantServerModel_nameAt_41 rfl (lv_at hl 1 rfl) ?_
      refine lv_iconst (v := 1) hx hb d_GrantServerModel_nameAt_42 (by decide) ?_
      refine lv_icmp_ne (tgt := 51) hx hb d_GrantServerModel_nameAt_43 (by decide) (fun h3 => ?_) (fun h3 => ?_)
      · refine lv_iload_n hx hb d_GrantServerModel_nameAt_51 rfl (lv_at hl 1 rfl) ?_
        refine lv_iconst (v := 2) hx hb d_GrantServerModel_nameAt_52 (by decide) ?_
        refine lv_icmp_ne (tgt := 61) hx hb d_GrantServerModel_nameAt_53 (by decide) (fun h4 => ?_) (fun h4 => ?_)
        · refine lv_iconst (v := 0) hx hb d_GrantServerModel_nameAt_61 (by decide) ?_
          exact hm_iret X hQ hr hlk hK hM hS d_GrantServerModel_nameAt_62 ⟨(by have hw9 : w = 0 := (nI_eq (by omega) (by decide)).mp h1; subst hw9; have y0 := mt (nI_eq (a := i) (b := 0) (by omega) (by decide)).mpr h2; have y1 := mt (nI_eq (a := i) (b := 1) (by omega) (by decide)).mpr h3; have y2 := mt (nI_eq (a := i) (b := 2) (by omega) (by decide)).mpr h4; rcases (by omega : i = 3 ∨ i = 4 ∨ i = 5) with rfl | rfl | rfl <;> rfl), rfl⟩
        · refine lv_bipush (v := 98) hx hb d_GrantServerModel_nameAt_56 (by decide) ?_
          refine lv_goto (tgt := 62) hx hb d_GrantServerModel_nameAt_58 (by decide) ?_
          exact hm_iret X hQ hr hlk hK hM hS d_GrantServerModel_nameAt_62 ⟨(by have hw9 : w = 0 := (nI_eq (by omega) (by decide)).mp h1; subst hw9; have hi9 : i = 2 := (nI_eq (by omega) (by decide)).mp h4; subst hi9; rfl), rfl⟩
      · refine lv_bipush (v := 117) hx hb d_GrantServerModel_nameAt_46 (by decide) ?_
        refine lv_goto (tgt := 62) hx hb d_GrantServerModel_nameAt_48 (by decide) ?_
        exact hm_iret X hQ hr hlk hK hM hS d_GrantServerModel_nameAt_62 ⟨(by have hw9 : w = 0 := (nI_eq (by omega) (by decide)).mp h1; subst hw9; have hi9 : i = 1 := (nI_eq (by omega) (by decide)).mp h3; subst hi9; rfl), rfl⟩
    · refine lv_bipush (v := 115) hx hb d_GrantServerModel_nameAt_36 (by decide) ?_
      refine lv_goto (tgt := 62) hx hb d_GrantServerModel_nameAt_38 (by decide) ?_
      exact hm_iret X hQ hr hlk hK hM hS d_GrantServerModel_nameAt_62 ⟨(by have hw9 : w = 0 := (nI_eq (by omega) (by decide)).mp h1; subst hw9; have hi9 : i = 0 := (nI_eq (by omega) (by decide)).mp h2; subst hi9; rfl), rfl⟩
  by_cases h2 : (nI w) = 1
  · refine lv_tableIn (tgt := 63) hx hb d_GrantServerModel_nameAt_1 (by rw [h2]; decide) (by rw [h2]; decide) (by rw [h2]; rfl) (by decide) ?_
    refine lv_iload_n hx hb d_GrantServerModel_nameAt_63 rfl (lv_at hl 1 rfl) ?_
    refine lv_if_ne (tgt := 72) hx hb d_GrantServerModel_nameAt_64 (by decide) (fun h3 => ?_) (fun h3 => ?_)
    · refine lv_iload_n hx hb d_GrantServerModel_nameAt_72 rfl (lv_at hl 1 rfl) ?_
      refine lv_iconst (v := 1) hx hb d_GrantServerModel_nameAt_73 (by decide) ?_
      refine lv_icmp_ne (tgt := 82) hx hb d_GrantServerModel_nameAt_74 (by decide) (fun h4 => ?_) (fun h4 => ?_)
      · refine lv_iload_n hx hb d_GrantServerModel_nameAt_82 rfl (lv_at hl 1 rfl) ?_
        refine lv_iconst (v := 2) hx hb d_GrantServerModel_nameAt_83 (by decide) ?_
        refine lv_icmp_ne (tgt := 92) hx hb d_GrantServerModel_nameAt_84 (by decide) (fun h5 => ?_) (fun h5 => ?_)
        · refine lv_iconst (v := 0) hx hb d_GrantServerModel_nameAt_92 (by decide) ?_
          exact hm_iret X hQ hr hlk hK hM hS d_GrantServerModel_nameAt_93 ⟨(by have hw9 : w = 1 := (nI_eq (by omega) (by decide)).mp h2; subst hw9; have y0 := mt (nI_eq (a := i) (b := 0) (by omega) (by decide)).mpr h3; have y1 := mt (nI_eq (a := i) (b := 1) (by omega) (by decide)).mpr h4; have y2 := mt (nI_eq (a := i) (b := 2) (by omega) (by decide)).mpr h5; rcases (by omega : i = 3 ∨ i = 4 ∨ i = 5) with rfl | rfl | rfl <;> rfl), rfl⟩
        · refine lv_bipush (v := 100) hx hb d_GrantServerModel_nameAt_87 (by decide) ?_
          refine lv_goto (tgt := 93) hx hb d_GrantServerModel_nameAt_89 (by decide) ?_
          exact hm_iret X hQ hr hlk hK hM hS d_GrantServerModel_nameAt_93 ⟨(by have hw9 : w = 1 := (nI_eq (by omega) (by decide)).mp h2; subst hw9; have hi9 : i = 2 := (nI_eq (by omega) (by decide)).mp h5; subst hi9; rfl), rfl⟩
      · refine lv_bipush (v := 117) hx hb d_GrantServerModel_nameAt_77 (by decide) ?_
        refine lv_goto (tgt := 93) hx hb d_GrantServerModel_nameAt_79 (by decide) ?_
        exact hm_iret X hQ hr hlk hK hM hS d_GrantServerModel_nameAt_93 ⟨(by have hw9 : w = 1 := (nI_eq (by omega) (by decide)).mp h2; subst hw9; have hi9 : i = 1 := (nI_eq (by omega) (by decide)).mp h4; subst hi9; rfl), rfl⟩
    · refine lv_bipush (v := 97) hx hb d_GrantServerModel_nameAt_67 (by decide) ?_
      refine lv_goto (tgt := 93) hx hb d_GrantServerModel_nameAt_69 (by decide) ?_
      exact hm_iret X hQ hr hlk hK hM hS d_GrantServerModel_nameAt_93 ⟨(by have hw9 : w = 1 := (nI_eq (by omega) (by decide)).mp h2; subst hw9; have hi9 : i = 0 := (nI_eq (by omega) (by decide)).mp h3; subst hi9; rfl), rfl⟩
  by_cases h3 : (nI w) = 2
  · refine lv_tableIn (tgt := 94) hx hb d_GrantServerModel_nameAt_1 (by rw [h3]; decide) (by rw [h3]; decide) (by rw [h3]; rfl) (by decide) ?_
    refine lv_iload_n hx hb d_GrantServerModel_nameAt_94 rfl (lv_at hl 1 rfl) ?_
    refine lv_if_ne (tgt := 103) hx hb d_GrantServerModel_nameAt_95 (by decide) (fun h4 => ?_) (fun h4 => ?_)
    · refine lv_iload_n hx hb d_GrantServerModel_nameAt_103 rfl (lv_at hl 1 rfl) ?_
      refine lv_iconst (v := 1) hx hb d_GrantServerModel_nameAt_104 (by decide) ?_
      refine lv_icmp_ne (tgt := 113) hx hb d_GrantServerModel_nameAt_105 (by decide) (fun h5 => ?_) (fun h5 => ?_)
      · refine lv_iload_n hx hb d_GrantServerModel_nameAt_113 rfl (lv_at hl 1 rfl) ?_
        refine lv_iconst (v := 2) hx hb d_GrantServerModel_nameAt_114 (by decide) ?_
        refine lv_icmp_ne (tgt := 123) hx hb d_GrantServerModel_nameAt_115 (by decide) (fun h6 => ?_) (fun h6 => ?_)
        · refine lv_iconst (v := 0) hx hb d_GrantServerModel_nameAt_123 (by decide) ?_
          exact hm_iret X hQ hr hlk hK hM hS d_GrantServerModel_nameAt_124 ⟨(by have hw9 : w = 2 := (nI_eq (by omega) (by decide)).mp h3; subst hw9; have y0 := mt (nI_eq (a := i) (b := 0) (by omega) (by decide)).mpr h4; have y1 := mt (nI_eq (a := i) (b := 1) (by omega) (by decide)).mpr h5; have y2 := mt (nI_eq (a := i) (b := 2) (by omega) (by decide)).mpr h6; rcases (by omega : i = 3 ∨ i = 4 ∨ i = 5) with rfl | rfl | rfl <;> rfl), rfl⟩
        · refine lv_bipush (v := 112) hx hb d_GrantServerModel_nameAt_118 (by decide) ?_
          refine lv_goto (tgt := 124) hx hb d_GrantServerModel_nameAt_120 (by decide) ?_
          exact hm_iret X hQ hr hlk hK hM hS d_GrantServerModel_nameAt_124 ⟨(by have hw9 : w = 2 := (nI_eq (by omega) (by decide)).mp h3; subst hw9; have hi9 : i = 2 := (nI_eq (by omega) (by decide)).mp h6; subst hi9; rfl), rfl⟩
      · refine lv_bipush (v := 120) hx hb d_GrantServerModel_nameAt_108 (by decide) ?_
        refine lv_goto (tgt := 124) hx hb d_GrantServerModel_nameAt_110 (by decide) ?_
        exact hm_iret X hQ hr hlk hK hM hS d_GrantServerModel_nameAt_124 ⟨(by have hw9 : w = 2 := (nI_eq (by omega) (by decide)).mp h3; subst hw9; have hi9 : i = 1 := (nI_eq (by omega) (by decide)).mp h5; subst hi9; rfl), rfl⟩
    · refine lv_bipush (v := 101) hx hb d_GrantServerModel_nameAt_98 (by decide) ?_
      refine lv_goto (tgt := 124) hx hb d_GrantServerModel_nameAt_100 (by decide) ?_
      exact hm_iret X hQ hr hlk hK hM hS d_GrantServerModel_nameAt_124 ⟨(by have hw9 : w = 2 := (nI_eq (by omega) (by decide)).mp h3; subst hw9; have hi9 : i = 0 := (nI_eq (by omega) (by decide)).mp h4; subst hi9; rfl), rfl⟩
  by_cases h4 : (nI w) = 3
  · refine lv_tableIn (tgt := 125) hx hb d_GrantServerModel_nameAt_1 (by rw [h4]; decide) (by rw [h4]; decide) (by rw [h4]; rfl) (by decide) ?_
    refine lv_iload_n hx hb d_GrantServerModel_nameAt_125 rfl (lv_at hl 1 rfl) ?_
    refine lv_if_ne (tgt := 134) hx hb d_GrantServerModel_nameAt_126 (by decide) (fun h5 => ?_) (fun h5 => ?_)
    · refine lv_iload_n hx hb d_GrantServerModel_nameAt_134 rfl (lv_at hl 1 rfl) ?_
      refine lv_iconst (v := 1) hx hb d_GrantServerModel_nameAt_135 (by decide) ?_
      refine lv_icmp_ne (tgt := 144) hx hb d_GrantServerModel_nameAt_136 (by decide) (fun h6 => ?_) (fun h6 => ?_)
      · refine lv_iload_n hx hb d_GrantServerModel_nameAt_144 rfl (lv_at hl 1 rfl) ?_
        refine lv_iconst (v := 2) hx hb d_GrantServerModel_nameAt_145 (by decide) ?_
        refine lv_icmp_ne (tgt := 154) hx hb d_GrantServerModel_nameAt_146 (by decide) (fun h7 => ?_) (fun h7 => ?_)
        · refine lv_iconst (v := 0) hx hb d_GrantServerModel_nameAt_154 (by decide) ?_
          exact hm_iret X hQ hr hlk hK hM hS d_GrantServerModel_nameAt_155 ⟨(by have hw9 : w = 3 := (nI_eq (by omega) (by decide)).mp h4; subst hw9; have y0 := mt (nI_eq (a := i) (b := 0) (by omega) (by decide)).mpr h5; have y1 := mt (nI_eq (a := i) (b := 1) (by omega) (by decide)).mpr h6; have y2 := mt (nI_eq (a := i) (b := 2) (by omega) (by decide)).mpr h7; rcases (by omega : i = 3 ∨ i = 4 ∨ i = 5) with rfl | rfl | rfl <;> rfl), rfl⟩
        · refine lv_bipush (v := 105) hx hb d_GrantServerModel_nameAt_149 (by decide) ?_
          refine lv_goto (tgt := 155) hx hb d_GrantServerModel_nameAt_151 (by decide) ?_
          exact hm_iret X hQ hr hlk hK hM hS d_GrantServerModel_nameAt_155 ⟨(by have hw9 : w = 3 := (nI_eq (by omega) (by decide)).mp h4; subst hw9; have hi9 : i = 2 := (nI_eq (by omega) (by decide)).mp h7; subst hi9; rfl), rfl⟩
      · refine lv_bipush (v := 116) hx hb d_GrantServerModel_nameAt_139 (by decide) ?_
        refine lv_goto (tgt := 155) hx hb d_GrantServerModel_nameAt_141 (by decide) ?_
        exact hm_iret X hQ hr hlk hK hM hS d_GrantServerModel_nameAt_155 ⟨(by have hw9 : w = 3 := (nI_eq (by omega) (by decide)).mp h4; subst hw9; have hi9 : i = 1 := (nI_eq (by omega) (by decide)).mp h6; subst hi9; rfl), rfl⟩
    · refine lv_bipush (v := 106) hx hb d_GrantServerModel_nameAt_129 (by decide) ?_
      refine lv_goto (tgt := 155) hx hb d_GrantServerModel_nameAt_131 (by decide) ?_
      exact hm_iret X hQ hr hlk hK hM hS d_GrantServerModel_nameAt_155 ⟨(by have hw9 : w = 3 := (nI_eq (by omega) (by decide)).mp h4; subst hw9; have hi9 : i = 0 := (nI_eq (by omega) (by decide)).mp h5; subst hi9; rfl), rfl⟩
  refine lv_tableOut (tgt := 156) hx hb d_GrantServerModel_nameAt_1 (hm_sw4 h1 h2 h3 h4) (by decide) ?_
  refine lv_iload_n hx hb d_GrantServerModel_nameAt_156 rfl (lv_at hl 1 rfl) ?_
  refine lv_if_ne (tgt := 165) hx hb d_GrantServerModel_nameAt_157 (by decide) (fun h5 => ?_) (fun h5 => ?_)
  · refine lv_iload_n hx hb d_GrantServerModel_nameAt_165 rfl (lv_at hl 1 rfl) ?_
    refine lv_iconst (v := 1) hx hb d_GrantServerModel_nameAt_166 (by decide) ?_
    refine lv_icmp_ne (tgt := 175) hx hb d_GrantServerModel_nameAt_167 (by decide) (fun h6 => ?_) (fun h6 => ?_)
    · refine lv_iload_n hx hb d_GrantServerModel_nameAt_175 rfl (lv_at hl 1 rfl) ?_
      refine lv_iconst (v := 2) hx hb d_GrantServerModel_nameAt_176 (by decide) ?_
      refine lv_icmp_ne (tgt := 185) hx hb d_GrantServerModel_nameAt_177 (by decide) (fun h7 => ?_) (fun h7 => ?_)
      · refine lv_iload_n hx hb d_GrantServerModel_nameAt_185 rfl (lv_at hl 1 rfl) ?_
        refine lv_iconst (v := 3) hx hb d_GrantServerModel_nameAt_186 (by decide) ?_
        refine lv_icmp_ne (tgt := 195) hx hb d_GrantServerModel_nameAt_187 (by decide) (fun h8 => ?_) (fun h8 => ?_)
        · refine lv_iload_n hx hb d_GrantServerModel_nameAt_195 rfl (lv_at hl 1 rfl) ?_
          refine lv_iconst (v := 4) hx hb d_GrantServerModel_nameAt_196 (by decide) ?_
          refine lv_icmp_ne (tgt := 205) hx hb d_GrantServerModel_nameAt_197 (by decide) (fun h9 => ?_) (fun h9 => ?_)
          · refine lv_iconst (v := 0) hx hb d_GrantServerModel_nameAt_205 (by decide) ?_
            exact hm_iret X hQ hr hlk hK hM hS d_GrantServerModel_nameAt_206 ⟨(by have z0 := mt (nI_eq (a := w) (b := 0) (by omega) (by decide)).mpr h1; have z1 := mt (nI_eq (a := w) (b := 1) (by omega) (by decide)).mpr h2; have z2 := mt (nI_eq (a := w) (b := 2) (by omega) (by decide)).mpr h3; have z3 := mt (nI_eq (a := w) (b := 3) (by omega) (by decide)).mpr h4; have hw9 : w = 4 := (by omega); subst hw9; have y0 := mt (nI_eq (a := i) (b := 0) (by omega) (by decide)).mpr h5; have y1 := mt (nI_eq (a := i) (b := 1) (by omega) (by decide)).mpr h6; have y2 := mt (nI_eq (a := i) (b := 2) (by omega) (by decide)).mpr h7; have y3 := mt (nI_eq (a := i) (b := 3) (by omega) (by decide)).mpr h8; have y4 := mt (nI_eq (a := i) (b := 4) (by omega) (by decide)).mpr h9; rcases (by omega : i = 5) with rfl <;> rfl), rfl⟩
          · refine lv_bipush (v := 101) hx hb d_GrantServerModel_nameAt_200 (by decide) ?_
            refine lv_goto (tgt := 206) hx hb d_GrantServerModel_nameAt_202 (by decide) ?_
            exact hm_iret X hQ hr hlk hK hM hS d_GrantServerModel_nameAt_206 ⟨(by have z0 := mt (nI_eq (a := w) (b := 0) (by omega) (by decide)).mpr h1; have z1 := mt (nI_eq (a := w) (b := 1) (by omega) (by decide)).mpr h2; have z2 := mt (nI_eq (a := w) (b := 2) (by omega) (by decide)).mpr h3; have z3 := mt (nI_eq (a := w) (b := 3) (by omega) (by decide)).mpr h4; have hw9 : w = 4 := (by omega); subst hw9; have hi9 : i = 4 := (nI_eq (by omega) (by decide)).mp h9; subst hi9; rfl), rfl⟩
        · refine lv_bipush (v := 112) hx hb d_GrantServerModel_nameAt_190 (by decide) ?_
          refine lv_goto (tgt := 206) hx hb d_GrantServerModel_nameAt_192 (by decide) ?_
          exact hm_iret X hQ hr hlk hK hM hS d_GrantServerModel_nameAt_206 ⟨(by have z0 := mt (nI_eq (a := w) (b := 0) (by omega) (by decide)).mpr h1; have z1 := mt (nI_eq (a := w) (b := 1) (by omega) (by decide)).mpr h2; have z2 := mt (nI_eq (a := w) (b := 2) (by omega) (by decide)).mpr h3; have z3 := mt (nI_eq (a := w) (b := 3) (by omega) (by decide)).mpr h4; have hw9 : w = 4 := (by omega); subst hw9; have hi9 : i = 3 := (nI_eq (by omega) (by decide)).mp h8; subst hi9; rfl), rfl⟩
      · refine lv_bipush (v := 111) hx hb d_GrantServerModel_nameAt_180 (by decide) ?_
        refine lv_goto (tgt := 206) hx hb d_GrantServerModel_nameAt_182 (by decide) ?_
        exact hm_iret X hQ hr hlk hK hM hS d_GrantServerModel_nameAt_206 ⟨(by have z0 := mt (nI_eq (a := w) (b := 0) (by omega) (by decide)).mpr h1; have z1 := mt (nI_eq (a := w) (b := 1) (by omega) (by decide)).mpr h2; have z2 := mt (nI_eq (a := w) (b := 2) (by omega) (by decide)).mpr h3; have z3 := mt (nI_eq (a := w) (b := 3) (by omega) (by decide)).mpr h4; have hw9 : w = 4 := (by omega); subst hw9; have hi9 : i = 2 := (nI_eq (by omega) (by decide)).mp h7; subst hi9; rfl), rfl⟩
    · refine lv_bipush (v := 99) hx hb d_GrantServerModel_nameAt_170 (by decide) ?_
      refine lv_goto (tgt := 206) hx hb d_GrantServerModel_nameAt_172 (by decide) ?_
      exact hm_iret X hQ hr hlk hK hM hS d_GrantServerModel_nameAt_206 ⟨(by have z0 := mt (nI_eq (a := w) (b := 0) (by omega) (by decide)).mpr h1; have z1 := mt (nI_eq (a := w) (b := 1) (by omega) (by decide)).mpr h2; have z2 := mt (nI_eq (a := w) (b := 2) (by omega) (by decide)).mpr h3; have z3 := mt (nI_eq (a := w) (b := 3) (by omega) (by decide)).mpr h4; have hw9 : w = 4 := (by omega); subst hw9; have hi9 : i = 1 := (nI_eq (by omega) (by decide)).mp h6; subst hi9; rfl), rfl⟩
  · refine lv_bipush (v := 115) hx hb d_GrantServerModel_nameAt_160 (by decide) ?_
    refine lv_goto (tgt := 206) hx hb d_GrantServerModel_nameAt_162 (by decide) ?_
    exact hm_iret X hQ hr hlk hK hM hS d_GrantServerModel_nameAt_206 ⟨(by have z0 := mt (nI_eq (a := w) (b := 0) (by omega) (by decide)).mpr h1; have z1 := mt (nI_eq (a := w) (b := 1) (by omega) (by decide)).mpr h2; have z2 := mt (nI_eq (a := w) (b := 2) (by omega) (by decide)).mpr h3; have z3 := mt (nI_eq (a := w) (b := 3) (by omega) (by decide)).mpr h4; have hw9 : w = 4 := (by omega); subst hw9; have hi9 : i = 0 := (nI_eq (by omega) (by decide)).mp h5; subst hi9; rfl), rfl⟩
set_option maxHeartbeats 4000000 in
set_option maxRecDepth 100000 in
theorem m_c_sayNumber (l : Launch) (D : va_G) (k : Nat → ClassId) (f : hm) (h : Nat) (ad : Nat → Nat) (sk : Int64) (v : Nat → Int32) (c : Nat → Nat → Int32) (n : Nat) (x : Nat → Int32) (vv : Nat) (K : Nat) (hmo : mo k f h ad sk v c) (hn : v 28 = nI n) (hcx : c 27 = x) (hdg : z_dg vv K) (hv : vv < 2 ^ 31) (hs : n + (K + 1) ≤ 130) : hm_Mv l D vwCl (tyL k) y_GrantServerModel_sayNumber (Cond.code y_GrantServerModel_sayNumber b_GrantServerModel_sayNumber 3 none :: TB) ({ frames := 1, cells := 0, slots := 0, locals := 22 }) [.ref h, .int (nI vv)] f (fun (f1 : hm) => ∃ (g : Nat → Int32), (∀ e, e < n → g e = x e) ∧ (∀ e, e < K + 1 → g (n + e) = nI (z_d vv K e)) ∧ mo k f1 h ad sk (upd v 28 (nI (n + (K + 1)))) (va_up c 27 g) ∧ mo_fr h ad f f1) 0 0 := by
  refine hm_enter (Qc := fun sz => va_Qv _ (hm_R D vwCl (tyL k) f sz) (hm_A f sz)) (by decide) rfl (Nat.le_of_ble_eq_true rfl) ?_
  intro pg e s m below meth cd ls X0 hr hlk hin hK hM hS hA hl Q hQ
  have X : CallFix pg m cd b_GrantServerModel_sayNumber 3 s ([.ref h, .int (nI vv)] : List Value).toArray TB R_GrantServerModel := ⟨X0.1, X0.2.1, X0.2.2.1, X0.2.2.2.1, fun w h => X0.2.2.2.2 w (List.mem_cons_of_mem _ h)⟩
  have hx := X.1; have hb := X.2.1; have hml := X.2.2.1; have hown := X.2.2.2.1; have hts := X.2.2.2.2
  have hl : lv_has ls 3 [(0, .ref h), (1, .int (nI vv))] := hl
  have hfr : mo_fr h ad f f := mo_fr.rf
  have hmo : mo k f h ad sk (upd v 28 (nI n)) (va_up c 27 x) := hmo.cv (by rw [upd_id hn]) (by rw [va_up_idE hcx])
  have hK8 := hdg.2.2
  refine lv_iconst (v := 1) hx hb d_GrantServerModel_sayNumber_0 (by decide) ?_
  refine lv_istore_n (lv' := [(2, .int 1), (0, .ref h), (1, .int (nI vv))]) hx hb d_GrantServerModel_sayNumber_1 rfl hl (by decide) rfl (fun ls hl => ?_)
  have loop2 : ∀ (fu : Nat) (e9 : Nat) (H : Heap) (locs : List Loc) (ls : Array Slot) (hmu : e9 < fu) (he : e9 < 10) (hge : 9 ≤ e9 + K) (hM : hm_W D vwCl (hm_A f s.heap.size) f H) (hS : va_S (hm_A f s.heap.size) s.heap H locs) (hl : lv_has ls 3 [(0, .ref h), (1, .int (nI vv)), (2, .int (nI (z_un e9)))]), W pg l e ({ frames := 1, cells := 0, slots := 0, locals := 22 }) s m ([.ref h, .int (nI vv)] : List Value).toArray below meth cd H locs 0 0 Q (F0 m 2 ls []) := by
    intro fu
    induction fu with
    | zero => intro e9 H locs ls hmu; exact absurd hmu (Nat.not_lt_zero _)
    | succ fu ih =>
      intro e9 H locs ls hmu he hge  hM hS hl
      refine lv_iload_n hx hb d_GrantServerModel_sayNumber_2 rfl (lv_at hl 1 rfl) ?_
      refine lv_iload_n hx hb d_GrantServerModel_sayNumber_3 rfl (lv_at hl 2 rfl) ?_
      refine lv_idiv hx hb d_GrantServerModel_sayNumber_4 (nI_ne0 ((z_un_b e9 (by omega)).2.mpr he) (z_un_b e9 (by omega)).1) ?_
      refine hm_top (z := nI (vv / z_un e9)) (pk_div hv ((z_un_b e9 (by omega)).2.mpr he) (z_un_b e9 (by omega)).1) ?_
      refine lv_bipush (v := 10) hx hb d_GrantServerModel_sayNumber_5 (by decide) ?_
      refine lv_icmp_lt (tgt := 18) hx hb d_GrantServerModel_sayNumber_7 (by decide) (fun h1 => ?_) (fun h1 => ?_)
      · have hm9 : e9 + K = 9 := by have z := (nI_ltI (a := vv / z_un e9) (b := 10) (by have := Nat.div_le_self vv (z_un e9); omega) (by decide)).mp h1; have z2 := mt (z_dg_u hdg he hge).mpr (by omega); omega
        have loop18 : ∀ (fu18 : Nat) (e8 : Nat) (g : Nat → Int32) (fL : hm) (H : Heap) (locs : List Loc) (ls : Array Slot) (hmu18 : 10 - e8 < fu18) (he8 : e8 ≤ 10) (hge8 : 9 ≤ e8 + K) (hg1 : ∀ e, e < n → g e = x e) (hg2 : ∀ e, e < e8 + K - 9 → g (n + e) = nI (z_d vv K e)) (hmo : mo k fL h ad sk (upd v 28 (nI (n + (e8 + K - 9)))) (va_up c 27 g)) (hfr : mo_fr h ad f fL) (hM : hm_W D vwCl (hm_A f s.heap.size) fL H) (hS : va_S (hm_A f s.heap.size) s.heap H locs) (hl : lv_has ls 3 [(0, .ref h), (1, .int (nI vv)), (2, .int (nI (z_un e8)))]), W pg l e ({ frames := 1, cells := 0, slots := 0, locals := 22 }) s m ([.ref h, .int (nI vv)] : List Value).toArray below meth cd H locs 0 0 Q (F0 m 18 ls []) := by
          intro fu18
          induction fu18 with
          | zero => intro e8 g fL H locs ls hmu18; exact absurd hmu18 (Nat.not_lt_zero _)
          | succ fu18 ih18 =>
            intro e8 g fL H locs ls hmu18 he8 hge8 hg1 hg2  hmo hfr hM hS hl
            refine lv_iload_n hx hb d_GrantServerModel_sayNumber_18 rfl (lv_at hl 2 rfl) ?_
            refine lv_if_le (tgt := 42) hx hb d_GrantServerModel_sayNumber_19 (by decide) (fun h2 => ?_) (fun h2 => ?_)
            · have hend : e8 = 10 := by have z := (z_un_b e8 (by omega)); have z1 := (nI_leI (b := 0) z.1 (by decide)).mp h2; have z2 := mt z.2.mpr (by omega); omega
              subst hend
              exact hm_vret X hQ hr hlk hK hM hS d_GrantServerModel_sayNumber_42 ⟨g, hg1, (fun e h9 => hg2 e (by omega)), (hmo.cv (by rw [show 10 + K - 9 = K + 1 by omega]) rfl), hfr⟩
            · have hlt : e8 < 10 := by have z := (z_un_b e8 (by omega)); have z1 := mt (nI_leI (b := 0) z.1 (by decide)).mpr h2; exact z.2.mp (by omega)
              refine lv_aload_n hx hb d_GrantServerModel_sayNumber_22 rfl (lv_at hl 0 rfl) ?_
              refine lv_bipush (v := 48) hx hb d_GrantServerModel_sayNumber_23 (by decide) ?_
              refine lv_iload_n hx hb d_GrantServerModel_sayNumber_25 rfl (lv_at hl 1 rfl) ?_
              refine lv_iload_n hx hb d_GrantServerModel_sayNumber_26 rfl (lv_at hl 2 rfl) ?_
              refine lv_idiv hx hb d_GrantServerModel_sayNumber_27 (nI_ne0 ((z_un_b e8 (by omega)).2.mpr hlt) (z_un_b e8 (by omega)).1) ?_
              refine lv_bipush (v := 10) hx hb d_GrantServerModel_sayNumber_28 (by decide) ?_
              refine lv_irem hx hb d_GrantServerModel_sayNumber_30 (by decide) ?_
              refine hm_callv hS hM hA (va_runV (As := [.int 48, .int (((nI vv) / (nI (z_un e8))) - ((nI vv) / (nI (z_un e8))) / 10 * 10)]) (rest := []) X (m_c_say l D k fL h ad sk (upd v 28 (nI (n + (e8 + K - 9)))) (va_up c 27 g) 48 (((nI vv) / (nI (z_un e8))) - ((nI vv) / (nI (z_un e8))) / 10 * 10) (n + (e8 + K - 9)) hmo rfl (by omega) H.size) (hm_cwV hts me_GrantServerModel_say wl_GrantServerModel_124 rfl rfl ⟨Nat.le_of_ble_eq_true rfl, Nat.le_of_ble_eq_true rfl⟩) (hm_preV hM hK hmo.1 rfl) rfl rfl hl.1 rfl (lv_room (Nat.le_of_ble_eq_true rfl)) d_GrantServerModel_sayNumber_31 ⟨Nat.le_of_ble_eq_true rfl, Nat.le_of_ble_eq_true rfl⟩) (fun f3 H locs p4 hM hS => ?_)
              obtain ⟨hmo, hfr5⟩ := p4
              have hfr := hfr.tr hfr5
              have hmo : mo k f3 h ad sk (upd (upd v 28 (nI (n + (e8 + K - 9)))) 28 (nI (n + (e8 + K - 9) + 1))) (va_up (va_up c 27 g) 27 (upd g (n + (e8 + K - 9)) (48 + (((nI vv) / (nI (z_un e8))) - ((nI vv) / (nI (z_un e8))) / 10 * 10)))) := hmo
              refine lv_iload_n hx hb d_GrantServerModel_sayNumber_34 rfl (lv_at hl 2 rfl) ?_
              refine lv_bipush (v := 10) hx hb d_GrantServerModel_sayNumber_35 (by decide) ?_
              refine lv_idiv hx hb d_GrantServerModel_sayNumber_37 (by decide) ?_
              refine hm_top (z := nI (z_un (e8 + 1))) (z_un_10 e8 hlt) ?_
              refine lv_istore_n (lv' := [(2, .int (nI (z_un (e8 + 1)))), (0, .ref h), (1, .int (nI vv))]) hx hb d_GrantServerModel_sayNumber_38 rfl hl (by decide) rfl (fun ls hl => ?_)
              refine lv_goto (tgt := 18) hx hb d_GrantServerModel_sayNumber_39 (by decide) ?_
              exact ih18 (e8 + 1) (upd g (n + (e8 + K - 9)) (48 + (nI vv / nI (z_un e8) - nI vv / nI (z_un e8) / 10 * 10))) f3 H locs ls (by omega) (by omega) (by omega) (fun e h9 => by simp [upd, show e ≠ n + (e8 + K - 9) by omega]; exact hg1 e h9) (z_sayd hg2 hge8 (z_d_eq hv hlt hge8))  (hmo.cv (by rw [upd_uu, show n + (e8 + 1 + K - 9) = n + (e8 + K - 9) + 1 by omega]) (bx_uu _ _ _ _).symm) hfr hM hS (lv_sub hl [1, 2, 0] rfl)
        exact loop18 _ e9 x f H locs ls (Nat.lt_succ_self _) (by omega) (by omega) (fun e h9 => rfl) (fun e h9 => absurd h9 (by omega))  (hmo.cv (by rw [show n + (e9 + K - 9) = n by omega]) rfl) hfr hM hS (lv_sub hl [0, 1, 2] rfl)
      · have hm9 : 9 < e9 + K := by have z := mt (nI_ltI (a := vv / z_un e9) (b := 10) (by have := Nat.div_le_self vv (z_un e9); omega) (by decide)).mpr h1; exact (z_dg_u hdg he hge).mp (by omega)
        refine lv_iload_n hx hb d_GrantServerModel_sayNumber_10 rfl (lv_at hl 2 rfl) ?_
        refine lv_bipush (v := 10) hx hb d_GrantServerModel_sayNumber_11 (by decide) ?_
        refine lv_imul hx hb d_GrantServerModel_sayNumber_13 ?_
        refine hm_top (z := nI (z_un (e9 - 1))) (by have z := z_un_m (e9 - 1) (by omega); rwa [show e9 - 1 + 1 = e9 by omega] at z) ?_
        refine lv_istore_n (lv' := [(2, .int (nI (z_un (e9 - 1)))), (0, .ref h), (1, .int (nI vv))]) hx hb d_GrantServerModel_sayNumber_14 rfl hl (by decide) rfl (fun ls hl => ?_)
        refine lv_goto (tgt := 2) hx hb d_GrantServerModel_sayNumber_15 (by decide) ?_
        exact ih (e9 - 1)  H locs ls (by omega) (by omega) (by omega)  hM hS (lv_sub hl [1, 2, 0] rfl)
  exact loop2 _ 9  s.heap [] ls (Nat.lt_succ_self _) (by decide) (by omega)  hM hS (lv_sub hl [1, 2, 0] rfl)
set_option maxHeartbeats 4000000 in
set_option maxRecDepth 100000 in
theorem m_c_member (l : Launch) (D : va_G) (k : Nat → ClassId) (f : hm) (h : Nat) (ad : Nat → Nat) (sk : Int64) (v : Nat → Int32) (c : Nat → Nat → Int32) (n : Nat) (x : Nat → Int32) (w : Nat) (vv : Nat) (K : Nat) (hmo : mo k f h ad sk v c) (hn : v 28 = nI n) (hcx : c 27 = x) (hw0 : 0 < w) (hw : w < 5) (hdg : z_dg vv K) (hv : vv < 2 ^ 31) (hs : n + (m_nl w + 4) + (K + 1) ≤ 130) : hm_Mv l D vwCl (tyL k) y_GrantServerModel_member (Cond.code y_GrantServerModel_member b_GrantServerModel_member 5 none :: TB) ({ frames := 2, cells := 0, slots := 0, locals := 44 }) [.ref h, .int (nI w), .int (nI vv)] f (fun (f1 : hm) => ∃ (g : Nat → Int32), (∀ e, e < n → g e = x e) ∧ (∀ e, e < m_nl w + 4 → g (n + e) = nI (st_chr w (e))) ∧ (∀ e, e < K + 1 → g (n + (m_nl w + 4) + e) = nI (z_d vv K e)) ∧ mo k f1 h ad sk (upd v 28 (nI (n + (m_nl w + 4) + (K + 1)))) (va_up c 27 g) ∧ mo_fr h ad f f1) 0 0 := by
  refine hm_enter (Qc := fun sz => va_Qv _ (hm_R D vwCl (tyL k) f sz) (hm_A f sz)) (by decide) rfl (Nat.le_of_ble_eq_true rfl) ?_
  intro pg e s m below meth cd ls X0 hr hlk hin hK hM hS hA hl Q hQ
  have X : CallFix pg m cd b_GrantServerModel_member 5 s ([.ref h, .int (nI w), .int (nI vv)] : List Value).toArray TB R_GrantServerModel := ⟨X0.1, X0.2.1, X0.2.2.1, X0.2.2.2.1, fun w h => X0.2.2.2.2 w (List.mem_cons_of_mem _ h)⟩
  have hx := X.1; have hb := X.2.1; have hml := X.2.2.1; have hown := X.2.2.2.1; have hts := X.2.2.2.2
  have hl : lv_has ls 5 [(0, .ref h), (1, .int (nI w)), (2, .int (nI vv))] := hl
  have hfr : mo_fr h ad f f := mo_fr.rf
  have hmo : mo k f h ad sk (upd v 28 (nI n)) (va_up c 27 x) := hmo.cv (by rw [upd_id hn]) (by rw [va_up_idE hcx])
  have hnl := m_nl_le 0 w hw
  refine lv_iload_n hx hb d_GrantServerModel_member_0 rfl (lv_at hl 1 rfl) ?_
  refine lv_if_le (tgt := 11) hx hb d_GrantServerModel_member_1 (by decide) (fun h1 => ?_) (fun h1 => ?_)
  · exact absurd h1 (nI_nle hw0 (by omega))
  · refine lv_aload_n hx hb d_GrantServerModel_member_4 rfl (lv_at hl 0 rfl) ?_
    refine lv_bipush (v := 44) hx hb d_GrantServerModel_member_5 (by decide) ?_
    refine lv_iconst (v := 0) hx hb d_GrantServerModel_member_7 (by decide) ?_
    refine hm_callv hS hM hA (va_runV (As := [.int 44, .int 0]) (rest := []) X (m_c_say l D k f h ad sk (upd v 28 (nI n)) (va_up c 27 x) 44 0 n hmo rfl (by omega) s.heap.size) (hm_cwV hts me_GrantServerModel_say wl_GrantServerModel_124 rfl rfl ⟨Nat.le_of_ble_eq_true rfl, Nat.le_of_ble_eq_true rfl⟩) (hm_preV hM hK hmo.1 rfl) rfl rfl hl.1 rfl (lv_room (Nat.le_of_ble_eq_true rfl)) d_GrantServerModel_member_8 ⟨Nat.le_of_ble_eq_true rfl, Nat.le_of_ble_eq_true rfl⟩) (fun f2 H locs p3 hM hS => ?_)
    obtain ⟨hmo, hfr4⟩ := p3
    have hfr := hfr.tr hfr4
    have hmo : mo k f2 h ad sk (upd (upd v 28 (nI n)) 28 (nI (n + 1))) (va_up (va_up c 27 x) 27 (upd x n (44 + 0))) := hmo
    refine lv_aload_n hx hb d_GrantServerModel_member_11 rfl (lv_at hl 0 rfl) ?_
    refine lv_bipush (v := 34) hx hb d_GrantServerModel_member_12 (by decide) ?_
    refine lv_iconst (v := 0) hx hb d_GrantServerModel_member_14 (by decide) ?_
    refine hm_callv hS hM hA (va_runV (As := [.int 34, .int 0]) (rest := []) X (m_c_say l D k f2 h ad sk (upd (upd v 28 (nI n)) 28 (nI (n + 1))) (va_up (va_up c 27 x) 27 (upd x n (44 + 0))) 34 0 (n + 1) hmo rfl (by omega) H.size) (hm_cwV hts me_GrantServerModel_say wl_GrantServerModel_124 rfl rfl ⟨Nat.le_of_ble_eq_true rfl, Nat.le_of_ble_eq_true rfl⟩) (hm_preV hM hK hmo.1 rfl) rfl rfl hl.1 rfl (lv_room (Nat.le_of_ble_eq_true rfl)) d_GrantServerModel_member_15 ⟨Nat.le_of_ble_eq_true rfl, Nat.le_of_ble_eq_true rfl⟩) (fun f5 H locs p6 hM hS => ?_)
    obtain ⟨hmo, hfr7⟩ := p6
    have hfr := hfr.tr hfr7
    have hmo : mo k f5 h ad sk (upd (upd (upd v 28 (nI n)) 28 (nI (n + 1))) 28 (nI (n + 1 + 1))) (va_up (va_up (va_up c 27 x) 27 (upd x n (44 + 0))) 27 (upd (upd x n (44 + 0)) (n + 1) (34 + 0))) := hmo
    refine lv_iconst (v := 0) hx hb d_GrantServerModel_member_18 (by decide) ?_
    refine lv_istore_n (lv' := [(3, .int 0), (0, .ref h), (1, .int (nI w)), (2, .int (nI vv))]) hx hb d_GrantServerModel_member_19 rfl hl (by decide) rfl (fun ls hl => ?_)
    have loop20 : ∀ (fu : Nat) (i : Nat) (g : Nat → Int32) (fL : hm) (H : Heap) (locs : List Loc) (ls : Array Slot) (hmu : m_nl w - i < fu) (hi9 : i ≤ m_nl w) (hg0 : ∀ e, e < n → g e = x e) (hga : g n = 44) (hgb : g (n + 1) = 34) (hg3 : ∀ e, e < i → g (n + 2 + e) = nI (m_nm w e)) (hmo : mo k fL h ad sk (upd v 28 (nI (n + 2 + i))) (va_up c 27 g)) (hfr : mo_fr h ad f fL) (hM : hm_W D vwCl (hm_A f s.heap.size) fL H) (hS : va_S (hm_A f s.heap.size) s.heap H locs) (hl : lv_has ls 5 [(0, .ref h), (1, .int (nI w)), (2, .int (nI vv)), (3, .int (nI i))]), W pg l e ({ frames := 2, cells := 0, slots := 0, locals := 44 }) s m ([.ref h, .int (nI w), .int (nI vv)] : List Value).toArray below meth cd H locs 0 0 Q (F0 m 20 ls []) := by
      intro fu
      induction fu with
      | zero => intro i g fL H locs ls hmu; exact absurd hmu (Nat.not_lt_zero _)
      | succ fu ih =>
        intro i g fL H locs ls hmu hi9 hg0 hga hgb hg3  hmo hfr hM hS hl
        refine lv_iload_n hx hb d_GrantServerModel_member_20 rfl (lv_at hl 1 rfl) ?_
        refine lv_iload_n hx hb d_GrantServerModel_member_21 rfl (lv_at hl 3 rfl) ?_
        refine hm_calli hS hM hA (va_runS (As := [.int (nI w), .int (nI i)]) (rest := []) X (m_c_nameAt l D k fL (w) i hw (by omega) H.size) (hm_cwS hts me_GrantServerModel_nameAt wl_GrantServerModel_151 rfl rfl ⟨Nat.le_of_ble_eq_true rfl, Nat.le_of_ble_eq_true rfl⟩) (hm_preS hM hK) rfl rfl hl.1 rfl (lv_room (Nat.le_of_ble_eq_true rfl)) d_GrantServerModel_member_22 ⟨Nat.le_of_ble_eq_true rfl, Nat.le_of_ble_eq_true rfl⟩) (fun r10 f8 H locs p9 hM hS => ?_)
        obtain ⟨rfl, rfl⟩ := p9
        refine lv_if_eq (tgt := 48) hx hb d_GrantServerModel_member_25 (by decide) (fun h11 => ?_) (fun h11 => ?_)
        · have hin : i = m_nl w := by have z := (m_nm_0 w hw i (by omega)).mp h11; omega
          subst hin
          refine lv_aload_n hx hb d_GrantServerModel_member_48 rfl (lv_at hl 0 rfl) ?_
          refine lv_bipush (v := 34) hx hb d_GrantServerModel_member_49 (by decide) ?_
          refine lv_iconst (v := 0) hx hb d_GrantServerModel_member_51 (by decide) ?_
          refine hm_callv hS hM hA (va_runV (As := [.int 34, .int 0]) (rest := []) X (m_c_say l D k fL h ad sk (upd v 28 (nI (n + 2 + m_nl w))) (va_up c 27 g) 34 0 (n + 2 + m_nl w) hmo rfl (by omega) H.size) (hm_cwV hts me_GrantServerModel_say wl_GrantServerModel_124 rfl rfl ⟨Nat.le_of_ble_eq_true rfl, Nat.le_of_ble_eq_true rfl⟩) (hm_preV hM hK hmo.1 rfl) rfl rfl hl.1 rfl (lv_room (Nat.le_of_ble_eq_true rfl)) d_GrantServerModel_member_52 ⟨Nat.le_of_ble_eq_true rfl, Nat.le_of_ble_eq_true rfl⟩) (fun f12 H locs p13 hM hS => ?_)
          obtain ⟨hmo, hfr14⟩ := p13
          have hfr := hfr.tr hfr14
          have hmo : mo k f12 h ad sk (upd (upd v 28 (nI (n + 2 + m_nl w))) 28 (nI (n + 2 + m_nl w + 1))) (va_up (va_up c 27 g) 27 (upd g (n + 2 + m_nl w) (34 + 0))) := hmo
          refine lv_aload_n hx hb d_GrantServerModel_member_55 rfl (lv_at hl 0 rfl) ?_
          refine lv_bipush (v := 58) hx hb d_GrantServerModel_member_56 (by decide) ?_
          refine lv_iconst (v := 0) hx hb d_GrantServerModel_member_58 (by decide) ?_
          refine hm_callv hS hM hA (va_runV (As := [.int 58, .int 0]) (rest := []) X (m_c_say l D k f12 h ad sk (upd (upd v 28 (nI (n + 2 + m_nl w))) 28 (nI (n + 2 + m_nl w + 1))) (va_up (va_up c 27 g) 27 (upd g (n + 2 + m_nl w) (34 + 0))) 58 0 (n + 2 + m_nl w + 1) hmo rfl (by omega) H.size) (hm_cwV hts me_GrantServerModel_say wl_GrantServerModel_124 rfl rfl ⟨Nat.le_of_ble_eq_true rfl, Nat.le_of_ble_eq_true rfl⟩) (hm_preV hM hK hmo.1 rfl) rfl rfl hl.1 rfl (lv_room (Nat.le_of_ble_eq_true rfl)) d_GrantServerModel_member_59 ⟨Nat.le_of_ble_eq_true rfl, Nat.le_of_ble_eq_true rfl⟩) (fun f15 H locs p16 hM hS => ?_)
          obtain ⟨hmo, hfr17⟩ := p16
          have hfr := hfr.tr hfr17
          have hmo : mo k f15 h ad sk (upd (upd (upd v 28 (nI (n + 2 + m_nl w))) 28 (nI (n + 2 + m_nl w + 1))) 28 (nI (n + 2 + m_nl w + 1 + 1))) (va_up (va_up (va_up c 27 g) 27 (upd g (n + 2 + m_nl w) (34 + 0))) 27 (upd (upd g (n + 2 + m_nl w) (34 + 0)) (n + 2 + m_nl w + 1) (58 + 0))) := hmo
          refine lv_aload_n hx hb d_GrantServerModel_member_62 rfl (lv_at hl 0 rfl) ?_
          refine lv_iload_n hx hb d_GrantServerModel_member_63 rfl (lv_at hl 2 rfl) ?_
          refine hm_callv hS hM hA (va_runV (As := [.int (nI vv)]) (rest := []) X (m_c_sayNumber l D k f15 h ad sk (upd (upd (upd v 28 (nI (n + 2 + m_nl w))) 28 (nI (n + 2 + m_nl w + 1))) 28 (nI (n + 2 + m_nl w + 1 + 1))) (va_up (va_up (va_up c 27 g) 27 (upd g (n + 2 + m_nl w) (34 + 0))) 27 (upd (upd g (n + 2 + m_nl w) (34 + 0)) (n + 2 + m_nl w + 1) (58 + 0))) (n + 2 + m_nl w + 1 + 1) (upd (upd g (n + 2 + m_nl w) (34 + 0)) (n + 2 + m_nl w + 1) (58 + 0)) vv K hmo rfl rfl hdg hv (by omega) H.size) (hm_cwV hts me_GrantServerModel_sayNumber wl_GrantServerModel_154 rfl rfl ⟨Nat.le_of_ble_eq_true rfl, Nat.le_of_ble_eq_true rfl⟩) (hm_preV hM hK hmo.1 rfl) rfl rfl hl.1 rfl (lv_room (Nat.le_of_ble_eq_true rfl)) d_GrantServerModel_member_64 ⟨Nat.le_of_ble_eq_true rfl, Nat.le_of_ble_eq_true rfl⟩) (fun f18 H locs p19 hM hS => ?_)
          obtain ⟨x20, h21, h22, hmo, hfr23⟩ := p19
          have hfr := hfr.tr hfr23
          have hmo : mo k f18 h ad sk (upd (upd (upd (upd v 28 (nI (n + 2 + m_nl w))) 28 (nI (n + 2 + m_nl w + 1))) 28 (nI (n + 2 + m_nl w + 1 + 1))) 28 (nI ((n + 2 + m_nl w + 1 + 1) + (K + 1)))) (va_up (va_up (va_up (va_up c 27 g) 27 (upd g (n + 2 + m_nl w) (34 + 0))) 27 (upd (upd g (n + 2 + m_nl w) (34 + 0)) (n + 2 + m_nl w + 1) (58 + 0))) 27 x20) := hmo
          exact hm_vret X hQ hr hlk hK hM hS d_GrantServerModel_member_67 ⟨x20, (fun e h9 => ((h21 e (by omega)).trans (by simp [upd, show e ≠ n + 2 + m_nl w + 1 by omega, show e ≠ n + 2 + m_nl w by omega])).trans (hg0 e h9)), (z_memb hw hw0 hga hgb hg3 (fun e h9 => h21 e (by omega))), (fun e h9 => by have z := h22 e h9; rwa [show n + 2 + m_nl w + 1 + 1 + e = n + (m_nl w + 4) + e by omega] at z), (hmo.cv (by rw [upd_uu, upd_uu, upd_uu, show n + (m_nl w + 4) + (K + 1) = n + 2 + m_nl w + 1 + 1 + (K + 1) by omega]) (by rw [bx_uu, bx_uu, bx_uu])), hfr⟩
        · have hlt : i < m_nl w := by have z := mt (m_nm_0 w hw i (by omega)).mpr h11; omega
          refine lv_iload_n hx hb d_GrantServerModel_member_28 rfl (lv_at hl 1 rfl) ?_
          refine lv_iload_n hx hb d_GrantServerModel_member_29 rfl (lv_at hl 3 rfl) ?_
          refine hm_calli hS hM hA (va_runS (As := [.int (nI w), .int (nI i)]) (rest := []) X (m_c_nameAt l D k fL (w) i hw (by omega) H.size) (hm_cwS hts me_GrantServerModel_nameAt wl_GrantServerModel_151 rfl rfl ⟨Nat.le_of_ble_eq_true rfl, Nat.le_of_ble_eq_true rfl⟩) (hm_preS hM hK) rfl rfl hl.1 rfl (lv_room (Nat.le_of_ble_eq_true rfl)) d_GrantServerModel_member_30 ⟨Nat.le_of_ble_eq_true rfl, Nat.le_of_ble_eq_true rfl⟩) (fun r14 f12 H locs p13 hM hS => ?_)
          obtain ⟨rfl, rfl⟩ := p13
          refine lv_istore (lv' := [(4, .int (nI (m_nm (w) i))), (0, .ref h), (1, .int (nI w)), (2, .int (nI vv)), (3, .int (nI i))]) hx hb d_GrantServerModel_member_33 hl (by decide) rfl (fun ls hl => ?_)
          refine lv_aload_n hx hb d_GrantServerModel_member_35 rfl (lv_at hl 1 rfl) ?_
          refine lv_iload hx hb d_GrantServerModel_member_36 (lv_at hl 0 rfl) ?_
          refine lv_iconst (v := 0) hx hb d_GrantServerModel_member_38 (by decide) ?_
          refine hm_callv hS hM hA (va_runV (As := [.int (nI (m_nm (w) i)), .int 0]) (rest := []) X (m_c_say l D k fL h ad sk (upd v 28 (nI (n + 2 + i))) (va_up c 27 g) (nI (m_nm (w) i)) 0 (n + 2 + i) hmo rfl (by omega) H.size) (hm_cwV hts me_GrantServerModel_say wl_GrantServerModel_124 rfl rfl ⟨Nat.le_of_ble_eq_true rfl, Nat.le_of_ble_eq_true rfl⟩) (hm_preV hM hK hmo.1 rfl) rfl rfl hl.1 rfl (lv_room (Nat.le_of_ble_eq_true rfl)) d_GrantServerModel_member_39 ⟨Nat.le_of_ble_eq_true rfl, Nat.le_of_ble_eq_true rfl⟩) (fun f15 H locs p16 hM hS => ?_)
          obtain ⟨hmo, hfr17⟩ := p16
          have hfr := hfr.tr hfr17
          have hmo : mo k f15 h ad sk (upd (upd v 28 (nI (n + 2 + i))) 28 (nI (n + 2 + i + 1))) (va_up (va_up c 27 g) 27 (upd g (n + 2 + i) ((nI (m_nm (w) i)) + 0))) := hmo
          refine lv_iinc (lv' := [(3, .int (nI (i + 1))), (4, .int (nI (m_nm (w) i))), (0, .ref h), (1, .int (nI w)), (2, .int (nI vv))]) hx hb d_GrantServerModel_member_42 hl (k := 4) rfl (hm_inc _) (by decide) rfl (fun ls hl => ?_)
          refine lv_goto (tgt := 20) hx hb d_GrantServerModel_member_45 (by decide) ?_
          exact ih (i + 1) (upd g (n + 2 + i) (nI (m_nm w i) + 0)) f15 H locs ls (by omega) (by omega) (fun e h9 => by simp [upd, show e ≠ n + 2 + i by omega]; exact hg0 e h9) (by simp [upd, show n ≠ n + 2 + i by omega]; exact hga) (by simp [upd, show n + 1 ≠ n + 2 + i by omega]; exact hgb) (fun e h9 => by by_cases e7 : e = i <;> simp [upd, e7]; exact hg3 e (by omega))  (hmo.cv (by rw [upd_uu]; rfl) (bx_uu _ _ _ _).symm) hfr hM hS (lv_sub hl [2, 3, 4, 0] rfl)
    exact loop20 _ 0 (upd (upd x n (44 + 0)) (n + 1) (34 + 0)) f5 H locs ls (Nat.lt_succ_self _) (Nat.zero_le _) (fun e h9 => by simp [upd, show e ≠ n by omega, show e ≠ n + 1 by omega]) (by simp [upd]) (by simp [upd]) (fun e h9 => absurd h9 (Nat.not_lt_zero _))  (hmo.cv (by rw [upd_uu, upd_uu, show n + 2 + 0 = n + 1 + 1 by omega]) (by rw [bx_uu, bx_uu])) hfr hM hS (lv_sub hl [1, 2, 3, 0] rfl)
set_option maxHeartbeats 4000000 in
set_option maxRecDepth 100000 in
theorem m_c_member0 (l : Launch) (D : va_G) (k : Nat → ClassId) (f : hm) (h : Nat) (ad : Nat → Nat) (sk : Int64) (v : Nat → Int32) (c : Nat → Nat → Int32) (n : Nat) (x : Nat → Int32) (vv : Nat) (K : Nat) (hmo : mo k f h ad sk v c) (hn : v 28 = nI n) (hcx : c 27 = x) (hdg : z_dg vv K) (hv : vv < 2 ^ 31) (hs : n + (m_nl 0 + 3) + (K + 1) ≤ 130) : hm_Mv l D vwCl (tyL k) y_GrantServerModel_member (Cond.code y_GrantServerModel_member b_GrantServerModel_member 5 none :: TB) ({ frames := 2, cells := 0, slots := 0, locals := 44 }) [.ref h, .int 0, .int (nI vv)] f (fun (f1 : hm) => ∃ (g : Nat → Int32), (∀ e, e < n → g e = x e) ∧ (∀ e, e < m_nl 0 + 3 → g (n + e) = nI (st_chr 0 (1 + e))) ∧ (∀ e, e < K + 1 → g (n + (m_nl 0 + 3) + e) = nI (z_d vv K e)) ∧ mo k f1 h ad sk (upd v 28 (nI (n + (m_nl 0 + 3) + (K + 1)))) (va_up c 27 g) ∧ mo_fr h ad f f1) 0 0 := by
  refine hm_enter (Qc := fun sz => va_Qv _ (hm_R D vwCl (tyL k) f sz) (hm_A f sz)) (by decide) rfl (Nat.le_of_ble_eq_true rfl) ?_
  intro pg e s m below meth cd ls X0 hr hlk hin hK hM hS hA hl Q hQ
  have X : CallFix pg m cd b_GrantServerModel_member 5 s ([.ref h, .int 0, .int (nI vv)] : List Value).toArray TB R_GrantServerModel := ⟨X0.1, X0.2.1, X0.2.2.1, X0.2.2.2.1, fun w h => X0.2.2.2.2 w (List.mem_cons_of_mem _ h)⟩
  have hx := X.1; have hb := X.2.1; have hml := X.2.2.1; have hown := X.2.2.2.1; have hts := X.2.2.2.2
  have hl : lv_has ls 5 [(0, .ref h), (1, .int 0), (2, .int (nI vv))] := hl
  have hfr : mo_fr h ad f f := mo_fr.rf
  have hmo : mo k f h ad sk (upd v 28 (nI n)) (va_up c 27 x) := hmo.cv (by rw [upd_id hn]) (by rw [va_up_idE hcx])
  have hw : 0 < 5 := by decide
  have hnl := m_nl_le 0 0 hw
  refine lv_iload_n hx hb d_GrantServerModel_member_0 rfl (lv_at hl 1 rfl) ?_
  refine lv_if_le (tgt := 11) hx hb d_GrantServerModel_member_1 (by decide) (fun h1 => ?_) (fun h1 => ?_)
  · refine lv_aload_n hx hb d_GrantServerModel_member_11 rfl (lv_at hl 0 rfl) ?_
    refine lv_bipush (v := 34) hx hb d_GrantServerModel_member_12 (by decide) ?_
    refine lv_iconst (v := 0) hx hb d_GrantServerModel_member_14 (by decide) ?_
    refine hm_callv hS hM hA (va_runV (As := [.int 34, .int 0]) (rest := []) X (m_c_say l D k f h ad sk (upd v 28 (nI n)) (va_up c 27 x) 34 0 n hmo rfl (by omega) s.heap.size) (hm_cwV hts me_GrantServerModel_say wl_GrantServerModel_124 rfl rfl ⟨Nat.le_of_ble_eq_true rfl, Nat.le_of_ble_eq_true rfl⟩) (hm_preV hM hK hmo.1 rfl) rfl rfl hl.1 rfl (lv_room (Nat.le_of_ble_eq_true rfl)) d_GrantServerModel_member_15 ⟨Nat.le_of_ble_eq_true rfl, Nat.le_of_ble_eq_true rfl⟩) (fun f2 H locs p3 hM hS => ?_)
    obtain ⟨hmo, hfr4⟩ := p3
    have hfr := hfr.tr hfr4
    have hmo : mo k f2 h ad sk (upd (upd v 28 (nI n)) 28 (nI (n + 1))) (va_up (va_up c 27 x) 27 (upd x n (34 + 0))) := hmo
    refine lv_iconst (v := 0) hx hb d_GrantServerModel_member_18 (by decide) ?_
    refine lv_istore_n (lv' := [(3, .int 0), (0, .ref h), (1, .int 0), (2, .int (nI vv))]) hx hb d_GrantServerModel_member_19 rfl hl (by decide) rfl (fun ls hl => ?_)
    have loop20 : ∀ (fu : Nat) (i : Nat) (g : Nat → Int32) (fL : hm) (H : Heap) (locs : List Loc) (ls : Array Slot) (hmu : m_nl 0 - i < fu) (hi9 : i ≤ m_nl 0) (hg0 : ∀ e, e < n → g e = x e) (hga : g n = 34) (hg3 : ∀ e, e < i → g (n + 1 + e) = nI (m_nm 0 e)) (hmo : mo k fL h ad sk (upd v 28 (nI (n + 1 + i))) (va_up c 27 g)) (hfr : mo_fr h ad f fL) (hM : hm_W D vwCl (hm_A f s.heap.size) fL H) (hS : va_S (hm_A f s.heap.size) s.heap H locs) (hl : lv_has ls 5 [(0, .ref h), (1, .int 0), (2, .int (nI vv)), (3, .int (nI i))]), W pg l e ({ frames := 2, cells := 0, slots := 0, locals := 44 }) s m ([.ref h, .int 0, .int (nI vv)] : List Value).toArray below meth cd H locs 0 0 Q (F0 m 20 ls []) := by
      intro fu
      induction fu with
      | zero => intro i g fL H locs ls hmu; exact absurd hmu (Nat.not_lt_zero _)
      | succ fu ih =>
        intro i g fL H locs ls hmu hi9 hg0 hga hg3  hmo hfr hM hS hl
        refine lv_iload_n hx hb d_GrantServerModel_member_20 rfl (lv_at hl 1 rfl) ?_
        refine lv_iload_n hx hb d_GrantServerModel_member_21 rfl (lv_at hl 3 rfl) ?_
        refine hm_calli hS hM hA (va_runS (As := [.int 0, .int (nI i)]) (rest := []) X (m_c_nameAt l D k fL (0) i hw (by omega) H.size) (hm_cwS hts me_GrantServerModel_nameAt wl_GrantServerModel_151 rfl rfl ⟨Nat.le_of_ble_eq_true rfl, Nat.le_of_ble_eq_true rfl⟩) (hm_preS hM hK) rfl rfl hl.1 rfl (lv_room (Nat.le_of_ble_eq_true rfl)) d_GrantServerModel_member_22 ⟨Nat.le_of_ble_eq_true rfl, Nat.le_of_ble_eq_true rfl⟩) (fun r7 f5 H locs p6 hM hS => ?_)
        obtain ⟨rfl, rfl⟩ := p6
        refine lv_if_eq (tgt := 48) hx hb d_GrantServerModel_member_25 (by decide) (fun h8 => ?_) (fun h8 => ?_)
        · have hin : i = m_nl 0 := by have z := (m_nm_0 0 hw i (by omega)).mp h8; omega
          subst hin
          refine lv_aload_n hx hb d_GrantServerModel_member_48 rfl (lv_at hl 0 rfl) ?_
          refine lv_bipush (v := 34) hx hb d_GrantServerModel_member_49 (by decide) ?_
          refine lv_iconst (v := 0) hx hb d_GrantServerModel_member_51 (by decide) ?_
          refine hm_callv hS hM hA (va_runV (As := [.int 34, .int 0]) (rest := []) X (m_c_say l D k fL h ad sk (upd v 28 (nI (n + 1 + m_nl 0))) (va_up c 27 g) 34 0 (n + 1 + m_nl 0) hmo rfl (by omega) H.size) (hm_cwV hts me_GrantServerModel_say wl_GrantServerModel_124 rfl rfl ⟨Nat.le_of_ble_eq_true rfl, Nat.le_of_ble_eq_true rfl⟩) (hm_preV hM hK hmo.1 rfl) rfl rfl hl.1 rfl (lv_room (Nat.le_of_ble_eq_true rfl)) d_GrantServerModel_member_52 ⟨Nat.le_of_ble_eq_true rfl, Nat.le_of_ble_eq_true rfl⟩) (fun f9 H locs p10 hM hS => ?_)
          obtain ⟨hmo, hfr11⟩ := p10
          have hfr := hfr.tr hfr11
          have hmo : mo k f9 h ad sk (upd (upd v 28 (nI (n + 1 + m_nl 0))) 28 (nI (n + 1 + m_nl 0 + 1))) (va_up (va_up c 27 g) 27 (upd g (n + 1 + m_nl 0) (34 + 0))) := hmo
          refine lv_aload_n hx hb d_GrantServerModel_member_55 rfl (lv_at hl 0 rfl) ?_
          refine lv_bipush (v := 58) hx hb d_GrantServerModel_member_56 (by decide) ?_
          refine lv_iconst (v := 0) hx hb d_GrantServerModel_member_58 (by decide) ?_
          refine hm_callv hS hM hA (va_runV (As := [.int 58, .int 0]) (rest := []) X (m_c_say l D k f9 h ad sk (upd (upd v 28 (nI (n + 1 + m_nl 0))) 28 (nI (n + 1 + m_nl 0 + 1))) (va_up (va_up c 27 g) 27 (upd g (n + 1 + m_nl 0) (34 + 0))) 58 0 (n + 1 + m_nl 0 + 1) hmo rfl (by omega) H.size) (hm_cwV hts me_GrantServerModel_say wl_GrantServerModel_124 rfl rfl ⟨Nat.le_of_ble_eq_true rfl, Nat.le_of_ble_eq_true rfl⟩) (hm_preV hM hK hmo.1 rfl) rfl rfl hl.1 rfl (lv_room (Nat.le_of_ble_eq_true rfl)) d_GrantServerModel_member_59 ⟨Nat.le_of_ble_eq_true rfl, Nat.le_of_ble_eq_true rfl⟩) (fun f12 H locs p13 hM hS => ?_)
          obtain ⟨hmo, hfr14⟩ := p13
          have hfr := hfr.tr hfr14
          have hmo : mo k f12 h ad sk (upd (upd (upd v 28 (nI (n + 1 + m_nl 0))) 28 (nI (n + 1 + m_nl 0 + 1))) 28 (nI (n + 1 + m_nl 0 + 1 + 1))) (va_up (va_up (va_up c 27 g) 27 (upd g (n + 1 + m_nl 0) (34 + 0))) 27 (upd (upd g (n + 1 + m_nl 0) (34 + 0)) (n + 1 + m_nl 0 + 1) (58 + 0))) := hmo
          refine lv_aload_n hx hb d_GrantServerModel_member_62 rfl (lv_at hl 0 rfl) ?_
          refine lv_iload_n hx hb d_GrantServerModel_member_63 rfl (lv_at hl 2 rfl) ?_
          refine hm_callv hS hM hA (va_runV (As := [.int (nI vv)]) (rest := []) X (m_c_sayNumber l D k f12 h ad sk (upd (upd (upd v 28 (nI (n + 1 + m_nl 0))) 28 (nI (n + 1 + m_nl 0 + 1))) 28 (nI (n + 1 + m_nl 0 + 1 + 1))) (va_up (va_up (va_up c 27 g) 27 (upd g (n + 1 + m_nl 0) (34 + 0))) 27 (upd (upd g (n + 1 + m_nl 0) (34 + 0)) (n + 1 + m_nl 0 + 1) (58 + 0))) (n + 1 + m_nl 0 + 1 + 1) (upd (upd g (n + 1 + m_nl 0) (34 + 0)) (n + 1 + m_nl 0 + 1) (58 + 0)) vv K hmo rfl rfl hdg hv (by omega) H.size) (hm_cwV hts me_GrantServerModel_sayNumber wl_GrantServerModel_154 rfl rfl ⟨Nat.le_of_ble_eq_true rfl, Nat.le_of_ble_eq_true rfl⟩) (hm_preV hM hK hmo.1 rfl) rfl rfl hl.1 rfl (lv_room (Nat.le_of_ble_eq_true rfl)) d_GrantServerModel_member_64 ⟨Nat.le_of_ble_eq_true rfl, Nat.le_of_ble_eq_true rfl⟩) (fun f15 H locs p16 hM hS => ?_)
          obtain ⟨x17, h18, h19, hmo, hfr20⟩ := p16
          have hfr := hfr.tr hfr20
          have hmo : mo k f15 h ad sk (upd (upd (upd (upd v 28 (nI (n + 1 + m_nl 0))) 28 (nI (n + 1 + m_nl 0 + 1))) 28 (nI (n + 1 + m_nl 0 + 1 + 1))) 28 (nI ((n + 1 + m_nl 0 + 1 + 1) + (K + 1)))) (va_up (va_up (va_up (va_up c 27 g) 27 (upd g (n + 1 + m_nl 0) (34 + 0))) 27 (upd (upd g (n + 1 + m_nl 0) (34 + 0)) (n + 1 + m_nl 0 + 1) (58 + 0))) 27 x17) := hmo
          exact hm_vret X hQ hr hlk hK hM hS d_GrantServerModel_member_67 ⟨x17, (fun e h9 => ((h18 e (by omega)).trans (by simp [upd, show e ≠ n + 1 + m_nl 0 + 1 by omega, show e ≠ n + 1 + m_nl 0 by omega])).trans (hg0 e h9)), (z_mem0 hw hga hg3 (fun e h9 => h18 e (by omega))), (fun e h9 => by have z := h19 e h9; rwa [show n + 1 + m_nl 0 + 1 + 1 + e = n + (m_nl 0 + 3) + e by omega] at z), (hmo.cv (by rw [upd_uu, upd_uu, upd_uu, show n + (m_nl 0 + 3) + (K + 1) = n + 1 + m_nl 0 + 1 + 1 + (K + 1) by omega]) (by rw [bx_uu, bx_uu, bx_uu])), hfr⟩
        · have hlt : i < m_nl 0 := by have z := mt (m_nm_0 0 hw i (by omega)).mpr h8; omega
          refine lv_iload_n hx hb d_GrantServerModel_member_28 rfl (lv_at hl 1 rfl) ?_
          refine lv_iload_n hx hb d_GrantServerModel_member_29 rfl (lv_at hl 3 rfl) ?_
          refine hm_calli hS hM hA (va_runS (As := [.int 0, .int (nI i)]) (rest := []) X (m_c_nameAt l D k fL (0) i hw (by omega) H.size) (hm_cwS hts me_GrantServerModel_nameAt wl_GrantServerModel_151 rfl rfl ⟨Nat.le_of_ble_eq_true rfl, Nat.le_of_ble_eq_true rfl⟩) (hm_preS hM hK) rfl rfl hl.1 rfl (lv_room (Nat.le_of_ble_eq_true rfl)) d_GrantServerModel_member_30 ⟨Nat.le_of_ble_eq_true rfl, Nat.le_of_ble_eq_true rfl⟩) (fun r11 f9 H locs p10 hM hS => ?_)
          obtain ⟨rfl, rfl⟩ := p10
          refine lv_istore (lv' := [(4, .int (nI (m_nm (0) i))), (0, .ref h), (1, .int 0), (2, .int (nI vv)), (3, .int (nI i))]) hx hb d_GrantServerModel_member_33 hl (by decide) rfl (fun ls hl => ?_)
          refine lv_aload_n hx hb d_GrantServerModel_member_35 rfl (lv_at hl 1 rfl) ?_
          refine lv_iload hx hb d_GrantServerModel_member_36 (lv_at hl 0 rfl) ?_
          refine lv_iconst (v := 0) hx hb d_GrantServerModel_member_38 (by decide) ?_
          refine hm_callv hS hM hA (va_runV (As := [.int (nI (m_nm (0) i)), .int 0]) (rest := []) X (m_c_say l D k fL h ad sk (upd v 28 (nI (n + 1 + i))) (va_up c 27 g) (nI (m_nm (0) i)) 0 (n + 1 + i) hmo rfl (by omega) H.size) (hm_cwV hts me_GrantServerModel_say wl_GrantServerModel_124 rfl rfl ⟨Nat.le_of_ble_eq_true rfl, Nat.le_of_ble_eq_true rfl⟩) (hm_preV hM hK hmo.1 rfl) rfl rfl hl.1 rfl (lv_room (Nat.le_of_ble_eq_true rfl)) d_GrantServerModel_member_39 ⟨Nat.le_of_ble_eq_true rfl, Nat.le_of_ble_eq_true rfl⟩) (fun f12 H locs p13 hM hS => ?_)
          obtain ⟨hmo, hfr14⟩ := p13
          have hfr := hfr.tr hfr14
          have hmo : mo k f12 h ad sk (upd (upd v 28 (nI (n + 1 + i))) 28 (nI (n + 1 + i + 1))) (va_up (va_up c 27 g) 27 (upd g (n + 1 + i) ((nI (m_nm (0) i)) + 0))) := hmo
          refine lv_iinc (lv' := [(3, .int (nI (i + 1))), (4, .int (nI (m_nm (0) i))), (0, .ref h), (1, .int 0), (2, .int (nI vv))]) hx hb d_GrantServerModel_member_42 hl (k := 4) rfl (hm_inc _) (by decide) rfl (fun ls hl => ?_)
          refine lv_goto (tgt := 20) hx hb d_GrantServerModel_member_45 (by decide) ?_
          exact ih (i + 1) (upd g (n + 1 + i) (nI (m_nm 0 i) + 0)) f12 H locs ls (by omega) (by omega) (fun e h9 => by simp [upd, show e ≠ n + 1 + i by omega]; exact hg0 e h9) (by simp [upd, show n ≠ n + 1 + i by omega]; exact hga) (fun e h9 => by by_cases e7 : e = i <;> simp [upd, e7]; exact hg3 e (by omega))  (hmo.cv (by rw [upd_uu]; rfl) (bx_uu _ _ _ _).symm) hfr hM hS (lv_sub hl [2, 3, 4, 0] rfl)
    exact loop20 _ 0 (upd x n (34 + 0)) f2 H locs ls (Nat.lt_succ_self _) (Nat.zero_le _) (fun e h9 => by simp [upd, show e ≠ n by omega, show e ≠ n + 1 by omega]) (by simp [upd]) (fun e h9 => absurd h9 (Nat.not_lt_zero _))  (hmo.cv (by rw [upd_uu, show n + 1 + 0 = n + 1 by omega]) (by rw [bx_uu])) hfr hM hS (lv_sub hl [1, 2, 3, 0] rfl)
  · exact absurd h1 (by decide)
set_option maxHeartbeats 4000000 in
set_option maxRecDepth 100000 in
theorem m_c_isForm (l : Launch) (D : va_G) (k : Nat → ClassId) (f : hm) (h : Nat) (ad : Nat → Nat) (sk : Int64) (v : Nat → Int32) (c : Nat → Nat → Int32) (n : Nat) (x : Nat → Int32) (ch : Nat → Nat) (hmo : mo k f h ad sk v c) (hn : v 24 = nI n) (hcx : c 23 = x) (hn9 : n ≤ 120) (hx9 : ∀ j, j < n → x j = nI (ch j) ∧ ch j < 127) (hn11 : 11 ≤ n) : hm_Mi l D vwCl (tyL k) y_GrantServerModel_isForm (Cond.code y_GrantServerModel_isForm b_GrantServerModel_isForm 3 (some .boolean) :: TB) ({ frames := 1, cells := 0, slots := 0, locals := 20 }) [.ref h] f (fun (r : Int32) (f1 : hm) => ((r = 1 ∧ z_form n x) ∨ (r = 0 ∧ ¬ z_form n x)) ∧ f = f1) 0 0 := by
  refine hm_enter (Qc := fun sz => va_Qi _ (hm_R D vwCl (tyL k) f sz) (hm_A f sz)) (by decide) rfl (Nat.le_of_ble_eq_true rfl) ?_
  intro pg e s m below meth cd ls X0 hr hlk hin hK hM hS hA hl Q hQ
  have X : CallFix pg m cd b_GrantServerModel_isForm 3 s ([.ref h] : List Value).toArray TB R_GrantServerModel := ⟨X0.1, X0.2.1, X0.2.2.1, X0.2.2.2.1, fun w h => X0.2.2.2.2 w (List.mem_cons_of_mem _ h)⟩
  have hx := X.1; have hb := X.2.1; have hml := X.2.2.1; have hown := X.2.2.2.1; have hts := X.2.2.2.2
  have hl : lv_has ls 3 [(0, .ref h)] := hl
  have hfr : mo_fr h ad f f := mo_fr.rf
  have hmo : mo k f h ad sk (upd v 24 (nI n)) (va_up c 23 x) := hmo.cv (by rw [upd_id hn]) (by rw [va_up_idE hcx])
  refine lv_aload_n hx hb d_GrantServerModel_isForm_0 rfl (lv_at hl 0 rfl) ?_
  refine hm_get X hK hM hmo.1 fl_GrantServerModel_175 (v := .int (nI n)) rfl d_GrantServerModel_isForm_1 ?_
  refine lv_bipush (v := 11) hx hb d_GrantServerModel_isForm_4 (by decide) ?_
  refine lv_isub hx hb d_GrantServerModel_isForm_6 ?_
  refine hm_top (z := nI (n - 11)) (pk_sub (b := 11) hn11) ?_
  refine lv_istore_n (lv' := [(1, .int (nI (n - 11))), (0, .ref h)]) hx hb d_GrantServerModel_isForm_7 rfl hl (by decide) rfl (fun ls hl => ?_)
  refine lv_iload_n hx hb d_GrantServerModel_isForm_8 rfl (lv_at hl 0 rfl) ?_
  refine lv_if_lt (tgt := 30) hx hb d_GrantServerModel_isForm_9 (by decide) (fun h1 => ?_) (fun h1 => ?_)
  · exact absurd h1 (nI_pos (by omega))
  · refine lv_aload_n hx hb d_GrantServerModel_isForm_12 rfl (lv_at hl 1 rfl) ?_
    refine hm_get X hK hM hmo.1 fl_GrantServerModel_57 (v := .ref (ad 23)) rfl d_GrantServerModel_isForm_13 ?_
    refine lv_iload_n hx hb d_GrantServerModel_isForm_16 rfl (lv_at hl 0 rfl) ?_
    have g2 : f (ad 23) = some (.inl (k 0, 120, .inl x)) := hmo.arr 23 (by decide) (by decide)
    refine hm_iald X hK hM g2 0 rfl (n - 11) rfl (by omega) (by decide) d_GrantServerModel_isForm_17 ?_
    refine lv_bipush (v := 46) hx hb d_GrantServerModel_isForm_18 (by decide) ?_
    refine lv_icmp_ne (tgt := 30) hx hb d_GrantServerModel_isForm_20 (by decide) (fun h3 => ?_) (fun h3 => ?_)
    · refine lv_iconst (v := 0) hx hb d_GrantServerModel_isForm_30 (by decide) ?_
      exact hm_zret X hQ hr hlk hK hM hS rfl d_GrantServerModel_isForm_31 ⟨Or.inr ⟨rfl, fun z => h3 z.2.1⟩, rfl⟩
    · refine lv_iload_n hx hb d_GrantServerModel_isForm_23 rfl (lv_at hl 0 rfl) ?_
      refine lv_iconst (v := 4) hx hb d_GrantServerModel_isForm_24 (by decide) ?_
      refine lv_irem hx hb d_GrantServerModel_isForm_25 (by decide) ?_
      refine hm_top (z := nI ((n - 11) % 4)) (pk_rem (d := 4) (by omega) (by decide) (by decide)) ?_
      refine lv_iconst (v := 1) hx hb d_GrantServerModel_isForm_26 (by decide) ?_
      refine lv_icmp_ne (tgt := 32) hx hb d_GrantServerModel_isForm_27 (by decide) (fun h4 => ?_) (fun h4 => ?_)
      · refine lv_iconst (v := 0) hx hb d_GrantServerModel_isForm_32 (by decide) ?_
        refine lv_istore_n (lv' := [(2, .int 0), (1, .int (nI (n - 11))), (0, .ref h)]) hx hb d_GrantServerModel_isForm_33 rfl hl (by decide) rfl (fun ls hl => ?_)
        have loop34 : ∀ (fu : Nat) (j : Nat) (H : Heap) (locs : List Loc) (ls : Array Slot) (hmu : n - j < fu) (hj : j ≤ n) (hok : ∀ e, e < j → ¬ e = n - 11 → ¬ m_sval (x e) < 0) (hM : hm_W D vwCl (hm_A f s.heap.size) f H) (hS : va_S (hm_A f s.heap.size) s.heap H locs) (hl : lv_has ls 3 [(0, .ref h), (1, .int (nI (n - 11))), (2, .int (nI j))]), W pg l e ({ frames := 1, cells := 0, slots := 0, locals := 20 }) s m ([.ref h] : List Value).toArray below meth cd H locs 0 0 Q (F0 m 34 ls []) := by
          intro fu
          induction fu with
          | zero => intro j H locs ls hmu; exact absurd hmu (Nat.not_lt_zero _)
          | succ fu ih =>
            intro j H locs ls hmu hj hok  hM hS hl
            refine lv_iload_n hx hb d_GrantServerModel_isForm_34 rfl (lv_at hl 2 rfl) ?_
            refine lv_aload_n hx hb d_GrantServerModel_isForm_35 rfl (lv_at hl 0 rfl) ?_
            refine hm_get X hK hM hmo.1 fl_GrantServerModel_175 (v := .int (nI n)) rfl d_GrantServerModel_isForm_36 ?_
            refine lv_icmp_ge (tgt := 67) hx hb d_GrantServerModel_isForm_39 (by decide) (fun h5 => ?_) (fun h5 => ?_)
            · have hge : j = n := by have z := (nI_leI (a := n) (b := j) (by omega) (by omega)).mp h5; omega
              refine lv_iload_n hx hb d_GrantServerModel_isForm_67 rfl (lv_at hl 1 rfl) ?_
              refine lv_if_le (tgt := 85) hx hb d_GrantServerModel_isForm_68 (by decide) (fun h6 => ?_) (fun h6 => ?_)
              · have hn0 : n = 11 := by have z := (nI_leI (a := n - 11) (b := 0) (by omega) (by decide)).mp h6; omega
                refine lv_iconst (v := 0) hx hb d_GrantServerModel_isForm_85 (by decide) ?_
                refine lv_istore_n (lv' := [(2, .int 0), (0, .ref h), (1, .int (nI (n - 11)))]) hx hb d_GrantServerModel_isForm_86 rfl hl (by decide) rfl (fun ls hl => ?_)
                refine lv_iload_n hx hb d_GrantServerModel_isForm_87 rfl (lv_at hl 2 rfl) ?_
                refine lv_iconst (v := 4) hx hb d_GrantServerModel_isForm_88 (by decide) ?_
                refine lv_irem hx hb d_GrantServerModel_isForm_89 (by decide) ?_
                refine hm_top (z := nI ((n - 11) % 4)) (pk_rem (d := 4) (by omega) (by decide) (by decide)) ?_
                refine lv_if_eq (tgt := 113) hx hb d_GrantServerModel_isForm_90 (by decide) (fun h7 => ?_) (fun h7 => ?_)
                · refine lv_iconst (v := 1) hx hb d_GrantServerModel_isForm_113 (by decide) ?_
                  refine lv_goto (tgt := 118) hx hb d_GrantServerModel_isForm_114 (by decide) ?_
                  exact hm_zret X hQ hr hlk hK hM hS rfl d_GrantServerModel_isForm_118 ⟨Or.inl ⟨rfl, hn11, h3, (fun z => h4 ((nI_eq (b := 1) (by omega) (by decide)).mpr z)), (fun k h1 h2 => hok k (by omega) h2), fun z => absurd ((nI_eq (a := (n - 11) % 4) (b := 0) (by omega) (by decide)).mp h7) (by omega), fun z => absurd ((nI_eq (a := (n - 11) % 4) (b := 0) (by omega) (by decide)).mp h7) (by omega)⟩, rfl⟩
                · exact absurd (show nI ((n - 11) % 4) = 0 by rw [hn0]; rfl) h7
              · have hn12 : 12 ≤ n := by have z := mt (nI_leI (a := n - 11) (b := 0) (by omega) (by decide)).mpr h6; omega
                refine lv_aload_n hx hb d_GrantServerModel_isForm_71 rfl (lv_at hl 0 rfl) ?_
                refine hm_get X hK hM hmo.1 fl_GrantServerModel_57 (v := .ref (ad 23)) rfl d_GrantServerModel_isForm_72 ?_
                refine lv_iload_n hx hb d_GrantServerModel_isForm_75 rfl (lv_at hl 1 rfl) ?_
                refine lv_iconst (v := 1) hx hb d_GrantServerModel_isForm_76 (by decide) ?_
                refine lv_isub hx hb d_GrantServerModel_isForm_77 ?_
                refine hm_top (z := nI (n - 12)) ((pk_sub (b := 1) (by omega)).trans (congrArg nI (by omega))) ?_
                have g7 : f (ad 23) = some (.inl (k 0, 120, .inl x)) := hmo.arr 23 (by decide) (by decide)
                refine hm_iald X hK hM g7 0 rfl (n - 12) rfl (by omega) (by decide) d_GrantServerModel_isForm_78 ?_
                refine hm_calli hS hM hA (va_runS (As := [.int (x (n - 12))]) (rest := []) X (m_c_sval l D k f (x (n - 12))  H.size) (hm_cwS hts me_GrantServerModel_signValue wl_GrantServerModel_185 rfl rfl ⟨Nat.le_of_ble_eq_true rfl, Nat.le_of_ble_eq_true rfl⟩) (hm_preS hM hK) rfl rfl hl.1 rfl (lv_room (Nat.le_of_ble_eq_true rfl)) d_GrantServerModel_isForm_79 ⟨Nat.le_of_ble_eq_true rfl, Nat.le_of_ble_eq_true rfl⟩) (fun r10 f8 H locs p9 hM hS => ?_)
                obtain ⟨rfl, rfl⟩ := p9
                have hq9 := z_sg1_eq (ch (n - 12)) (by have := (hx9 (n - 12) (by omega)).2; omega) (by rw [← (hx9 (n - 12) (by omega)).1]; exact hok (n - 12) (by omega) (by omega))
                rw [← (hx9 (n - 12) (by omega)).1] at hq9
                refine hm_top (z := nI (z_sg1 (x (n - 12)))) hq9.1 ?_
                refine lv_goto (tgt := 86) hx hb d_GrantServerModel_isForm_82 (by decide) ?_
                refine lv_istore_n (lv' := [(2, .int (nI (z_sg1 (x (n - 12))))), (0, .ref h), (1, .int (nI (n - 11)))]) hx hb d_GrantServerModel_isForm_86 rfl hl (by decide) rfl (fun ls hl => ?_)
                refine lv_iload_n hx hb d_GrantServerModel_isForm_87 rfl (lv_at hl 2 rfl) ?_
                refine lv_iconst (v := 4) hx hb d_GrantServerModel_isForm_88 (by decide) ?_
                refine lv_irem hx hb d_GrantServerModel_isForm_89 (by decide) ?_
                refine hm_top (z := nI ((n - 11) % 4)) (pk_rem (d := 4) (by omega) (by decide) (by decide)) ?_
                refine lv_if_eq (tgt := 113) hx hb d_GrantServerModel_isForm_90 (by decide) (fun h11 => ?_) (fun h11 => ?_)
                · refine lv_iconst (v := 1) hx hb d_GrantServerModel_isForm_113 (by decide) ?_
                  refine lv_goto (tgt := 118) hx hb d_GrantServerModel_isForm_114 (by decide) ?_
                  exact hm_zret X hQ hr hlk hK hM hS rfl d_GrantServerModel_isForm_118 ⟨Or.inl ⟨rfl, hn11, h3, (fun z => h4 ((nI_eq (b := 1) (by omega) (by decide)).mpr z)), (fun k h1 h2 => hok k (by omega) h2), fun z => absurd ((nI_eq (a := (n - 11) % 4) (b := 0) (by omega) (by decide)).mp h11) (by omega), fun z => absurd ((nI_eq (a := (n - 11) % 4) (b := 0) (by omega) (by decide)).mp h11) (by omega)⟩, rfl⟩
                · refine lv_iload_n hx hb d_GrantServerModel_isForm_93 rfl (lv_at hl 2 rfl) ?_
                  refine lv_iconst (v := 4) hx hb d_GrantServerModel_isForm_94 (by decide) ?_
                  refine lv_irem hx hb d_GrantServerModel_isForm_95 (by decide) ?_
                  refine hm_top (z := nI ((n - 11) % 4)) (pk_rem (d := 4) (by omega) (by decide) (by decide)) ?_
                  refine lv_iconst (v := 2) hx hb d_GrantServerModel_isForm_96 (by decide) ?_
                  refine lv_icmp_ne (tgt := 107) hx hb d_GrantServerModel_isForm_97 (by decide) (fun h12 => ?_) (fun h12 => ?_)
                  · have h3m : (n - 11) % 4 = 3 := by have z0 := mt (nI_eq (a := (n - 11) % 4) (b := 0) (by omega) (by decide)).mpr h11; have z1 := mt (nI_eq (a := (n - 11) % 4) (b := 1) (by omega) (by decide)).mpr h4; have z2 := mt (nI_eq (a := (n - 11) % 4) (b := 2) (by omega) (by decide)).mpr h12; omega
                    refine lv_iload_n hx hb d_GrantServerModel_isForm_107 rfl (lv_at hl 0 rfl) ?_
                    refine lv_iconst (v := 4) hx hb d_GrantServerModel_isForm_108 (by decide) ?_
                    refine lv_irem hx hb d_GrantServerModel_isForm_109 (by decide) ?_
                    refine hm_top (z := nI (z_sg1 (x (n - 12)) % 4)) (pk_rem (d := 4) (by have := hq9.2.1; omega) (by decide) (by decide)) ?_
                    refine lv_if_ne (tgt := 117) hx hb d_GrantServerModel_isForm_110 (by decide) (fun h13 => ?_) (fun h13 => ?_)
                    · refine lv_iconst (v := 0) hx hb d_GrantServerModel_isForm_117 (by decide) ?_
                      exact hm_zret X hQ hr hlk hK hM hS rfl d_GrantServerModel_isForm_118 ⟨Or.inr ⟨rfl, fun z => h13 ((nI_eq (b := 0) (by omega) (by decide)).mpr (z.2.2.2.2.2 h3m))⟩, rfl⟩
                    · refine lv_iconst (v := 1) hx hb d_GrantServerModel_isForm_113 (by decide) ?_
                      refine lv_goto (tgt := 118) hx hb d_GrantServerModel_isForm_114 (by decide) ?_
                      exact hm_zret X hQ hr hlk hK hM hS rfl d_GrantServerModel_isForm_118 ⟨Or.inl ⟨rfl, hn11, h3, (fun z => h4 ((nI_eq (b := 1) (by omega) (by decide)).mpr z)), (fun k h1 h2 => hok k (by omega) h2), fun z => absurd ((nI_eq (a := (n - 11) % 4) (b := 2) (by omega) (by decide)).mpr z) h12, fun _ => (nI_eq (b := 0) (by omega) (by decide)).mp h13⟩, rfl⟩
                  · refine lv_iload_n hx hb d_GrantServerModel_isForm_100 rfl (lv_at hl 0 rfl) ?_
                    refine lv_bipush (v := 16) hx hb d_GrantServerModel_isForm_101 (by decide) ?_
                    refine lv_irem hx hb d_GrantServerModel_isForm_103 (by decide) ?_
                    refine hm_top (z := nI (z_sg1 (x (n - 12)) % 16)) (pk_rem (d := 16) (by have := hq9.2.1; omega) (by decide) (by decide)) ?_
                    refine lv_goto (tgt := 110) hx hb d_GrantServerModel_isForm_104 (by decide) ?_
                    refine lv_if_ne (tgt := 117) hx hb d_GrantServerModel_isForm_110 (by decide) (fun h13 => ?_) (fun h13 => ?_)
                    · refine lv_iconst (v := 0) hx hb d_GrantServerModel_isForm_117 (by decide) ?_
                      exact hm_zret X hQ hr hlk hK hM hS rfl d_GrantServerModel_isForm_118 ⟨Or.inr ⟨rfl, fun z => h13 ((nI_eq (b := 0) (by omega) (by decide)).mpr (z.2.2.2.2.1 ((nI_eq (b := 2) (by omega) (by decide)).mp h12)))⟩, rfl⟩
                    · refine lv_iconst (v := 1) hx hb d_GrantServerModel_isForm_113 (by decide) ?_
                      refine lv_goto (tgt := 118) hx hb d_GrantServerModel_isForm_114 (by decide) ?_
                      exact hm_zret X hQ hr hlk hK hM hS rfl d_GrantServerModel_isForm_118 ⟨Or.inl ⟨rfl, hn11, h3, (fun z => h4 ((nI_eq (b := 1) (by omega) (by decide)).mpr z)), (fun k h1 h2 => hok k (by omega) h2), fun _ => (nI_eq (b := 0) (by omega) (by decide)).mp h13, fun z => absurd ((nI_eq (a := (n - 11) % 4) (b := 2) (by omega) (by decide)).mp h12) (by omega)⟩, rfl⟩
            · have hlt : j < n := by have z := mt (nI_leI (a := n) (b := j) (by omega) (by omega)).mpr h5; omega
              refine lv_iload_n hx hb d_GrantServerModel_isForm_42 rfl (lv_at hl 2 rfl) ?_
              refine lv_iload_n hx hb d_GrantServerModel_isForm_43 rfl (lv_at hl 1 rfl) ?_
              refine lv_icmp_eq (tgt := 61) hx hb d_GrantServerModel_isForm_44 (by decide) (fun h6 => ?_) (fun h6 => ?_)
              · refine lv_iinc (lv' := [(2, .int (nI (j + 1))), (0, .ref h), (1, .int (nI (n - 11)))]) hx hb d_GrantServerModel_isForm_61 hl (k := 2) rfl (hm_inc _) (by decide) rfl (fun ls hl => ?_)
                refine lv_goto (tgt := 34) hx hb d_GrantServerModel_isForm_64 (by decide) ?_
                exact ih (j + 1)  H locs ls (by omega) (by omega) (z_ext hok (fun z => absurd ((nI_eq (by omega) (by omega)).mp h6) z))  hM hS (lv_sub hl [1, 2, 0] rfl)
              · refine lv_aload_n hx hb d_GrantServerModel_isForm_47 rfl (lv_at hl 0 rfl) ?_
                refine hm_get X hK hM hmo.1 fl_GrantServerModel_57 (v := .ref (ad 23)) rfl d_GrantServerModel_isForm_48 ?_
                refine lv_iload_n hx hb d_GrantServerModel_isForm_51 rfl (lv_at hl 2 rfl) ?_
                have g7 : f (ad 23) = some (.inl (k 0, 120, .inl x)) := hmo.arr 23 (by decide) (by decide)
                refine hm_iald X hK hM g7 0 rfl j rfl (by omega) (by decide) d_GrantServerModel_isForm_52 ?_
                refine hm_calli hS hM hA (va_runS (As := [.int (x j)]) (rest := []) X (m_c_sval l D k f (x j)  H.size) (hm_cwS hts me_GrantServerModel_signValue wl_GrantServerModel_185 rfl rfl ⟨Nat.le_of_ble_eq_true rfl, Nat.le_of_ble_eq_true rfl⟩) (hm_preS hM hK) rfl rfl hl.1 rfl (lv_room (Nat.le_of_ble_eq_true rfl)) d_GrantServerModel_isForm_53 ⟨Nat.le_of_ble_eq_true rfl, Nat.le_of_ble_eq_true rfl⟩) (fun r10 f8 H locs p9 hM hS => ?_)
                obtain ⟨rfl, rfl⟩ := p9
                refine lv_if_ge (tgt := 61) hx hb d_GrantServerModel_isForm_56 (by decide) (fun h11 => ?_) (fun h11 => ?_)
                · refine lv_iinc (lv' := [(2, .int (nI (j + 1))), (0, .ref h), (1, .int (nI (n - 11)))]) hx hb d_GrantServerModel_isForm_61 hl (k := 2) rfl (hm_inc _) (by decide) rfl (fun ls hl => ?_)
                  refine lv_goto (tgt := 34) hx hb d_GrantServerModel_isForm_64 (by decide) ?_
                  exact ih (j + 1)  H locs ls (by omega) (by omega) (z_ext hok (fun _ => Int32.not_lt.mpr h11))  hM hS (lv_sub hl [1, 2, 0] rfl)
                · refine lv_iconst (v := 0) hx hb d_GrantServerModel_isForm_59 (by decide) ?_
                  exact hm_zret X hQ hr hlk hK hM hS rfl d_GrantServerModel_isForm_60 ⟨Or.inr ⟨rfl, fun z => z.2.2.2.1 j hlt (fun q => h6 ((nI_eq (by omega) (by omega)).mpr q)) (Int32.not_le.mp h11)⟩, rfl⟩
        exact loop34 _ 0  s.heap [] ls (Nat.lt_succ_self _) (Nat.zero_le _) (fun e h9 => absurd h9 (Nat.not_lt_zero _))  hM hS (lv_sub hl [2, 1, 0] rfl)
      · refine lv_iconst (v := 0) hx hb d_GrantServerModel_isForm_30 (by decide) ?_
        exact hm_zret X hQ hr hlk hK hM hS rfl d_GrantServerModel_isForm_31 ⟨Or.inr ⟨rfl, fun z => z.2.2.1 ((nI_eq (b := 1) (by omega) (by decide)).mp h4)⟩, rfl⟩
set_option maxHeartbeats 4000000 in
set_option maxRecDepth 100000 in
theorem m_c_isSealed (l : Launch) (D : va_G) (k : Nat → ClassId) (f : hm) (h : Nat) (ad : Nat → Nat) (sk : Int64) (v : Nat → Int32) (c : Nat → Nat → Int32) (n : Nat) (x : Nat → Int32) (ch : Nat → Nat) (hmo : mo k f h ad sk v c) (hn : v 24 = nI n) (hcx : c 23 = x) (hn9 : n ≤ 120) (hx9 : ∀ j, j < n → x j = nI (ch j) ∧ ch j < 127) (hn11 : 11 ≤ n) (hs : ∀ j, j < n → ¬ j = n - 11 → ¬ m_sval (x j) < 0) : hm_Mi l D vwCl (tyL k) y_GrantServerModel_isSealed (Cond.code y_GrantServerModel_isSealed b_GrantServerModel_isSealed 5 (some .boolean) :: TB) ({ frames := 1, cells := 0, slots := 0, locals := 24 }) [.ref h] f (fun (r : Int32) (f1 : hm) => ((r = 1 ∧ z_sealed sk n x) ∨ (r = 0 ∧ ¬ z_sealed sk n x)) ∧ f = f1) 0 0 := by
  refine hm_enter (Qc := fun sz => va_Qi _ (hm_R D vwCl (tyL k) f sz) (hm_A f sz)) (by decide) rfl (Nat.le_of_ble_eq_true rfl) ?_
  intro pg e s m below meth cd ls X0 hr hlk hin hK hM hS hA hl Q hQ
  have X : CallFix pg m cd b_GrantServerModel_isSealed 5 s ([.ref h] : List Value).toArray TB R_GrantServerModel := ⟨X0.1, X0.2.1, X0.2.2.1, X0.2.2.2.1, fun w h => X0.2.2.2.2 w (List.mem_cons_of_mem _ h)⟩
  have hx := X.1; have hb := X.2.1; have hml := X.2.2.1; have hown := X.2.2.2.1; have hts := X.2.2.2.2
  have hl : lv_has ls 5 [(0, .ref h)] := hl
  have hfr : mo_fr h ad f f := mo_fr.rf
  have hmo : mo k f h ad sk (upd v 24 (nI n)) (va_up c 23 x) := hmo.cv (by rw [upd_id hn]) (by rw [va_up_idE hcx])
  refine lv_aload_n hx hb d_GrantServerModel_isSealed_0 rfl (lv_at hl 0 rfl) ?_
  refine hm_get X hK hM hmo.1 fl_GrantServerModel_175 (v := .int (nI n)) rfl d_GrantServerModel_isSealed_1 ?_
  refine lv_bipush (v := 11) hx hb d_GrantServerModel_isSealed_4 (by decide) ?_
  refine lv_isub hx hb d_GrantServerModel_isSealed_6 ?_
  refine hm_top (z := nI (n - 11)) (pk_sub (b := 11) hn11) ?_
  refine lv_istore_n (lv' := [(1, .int (nI (n - 11))), (0, .ref h)]) hx hb d_GrantServerModel_isSealed_7 rfl hl (by decide) rfl (fun ls hl => ?_)
  refine lv_aload_n hx hb d_GrantServerModel_isSealed_8 rfl (lv_at hl 1 rfl) ?_
  refine hm_get X hK hM hmo.1 fl_GrantServerModel_69 (v := .long sk) rfl d_GrantServerModel_isSealed_9 ?_
  refine lv_lstore_n (lv' := [(2, .long sk), (1, .int (nI (n - 11))), (0, .ref h)]) hx hb d_GrantServerModel_isSealed_12 rfl hl (by decide) rfl (fun ls hl => ?_)
  refine lv_iconst (v := 0) hx hb d_GrantServerModel_isSealed_13 (by decide) ?_
  refine lv_istore (lv' := [(4, .int 0), (2, .long sk), (1, .int (nI (n - 11))), (0, .ref h)]) hx hb d_GrantServerModel_isSealed_14 hl (by decide) rfl (fun ls hl => ?_)
  have loop16 : ∀ (fu : Nat) (j : Nat) (H : Heap) (locs : List Loc) (ls : Array Slot) (hmu : n - 11 - j < fu) (hj : j ≤ n - 11) (hM : hm_W D vwCl (hm_A f s.heap.size) f H) (hS : va_S (hm_A f s.heap.size) s.heap H locs) (hl : lv_has ls 5 [(0, .ref h), (1, .int (nI (n - 11))), (2, .long (z_seal sk x j)), (4, .int (nI j))]), W pg l e ({ frames := 1, cells := 0, slots := 0, locals := 24 }) s m ([.ref h] : List Value).toArray below meth cd H locs 0 0 Q (F0 m 16 ls []) := by
    intro fu
    induction fu with
    | zero => intro j H locs ls hmu; exact absurd hmu (Nat.not_lt_zero _)
    | succ fu ih =>
      intro j H locs ls hmu hj  hM hS hl
      refine lv_iload hx hb d_GrantServerModel_isSealed_16 (lv_at hl 3 rfl) ?_
      refine lv_iload_n hx hb d_GrantServerModel_isSealed_18 rfl (lv_at hl 1 rfl) ?_
      refine lv_icmp_ge (tgt := 40) hx hb d_GrantServerModel_isSealed_19 (by decide) (fun h1 => ?_) (fun h1 => ?_)
      · have hge : j = n - 11 := by have z := (nI_leI (a := (n - 11)) (b := j) (by omega) (by omega)).mp h1; omega
        subst hge
        refine lv_iconst (v := 0) hx hb d_GrantServerModel_isSealed_40 (by decide) ?_
        refine lv_istore (lv' := [(4, .int 0), (0, .ref h), (1, .int (nI (n - 11))), (2, .long (z_seal sk x (n - 11)))]) hx hb d_GrantServerModel_isSealed_41 hl (by decide) rfl (fun ls hl => ?_)
        have loop43 : ∀ (fu43 : Nat) (j2 : Nat) (H : Heap) (locs : List Loc) (ls : Array Slot) (hmu43 : 10 - j2 < fu43) (hj2 : j2 ≤ 10) (hok : ∀ e, e < j2 → x (n - 10 + e) = nI (st_chr 6 (z_ss (z_seal sk x (n - 11)) e))) (hM : hm_W D vwCl (hm_A f s.heap.size) f H) (hS : va_S (hm_A f s.heap.size) s.heap H locs) (hl : lv_has ls 5 [(0, .ref h), (1, .int (nI (n - 11))), (2, .long (z_seal sk x (n - 11))), (4, .int (nI j2))]), W pg l e ({ frames := 1, cells := 0, slots := 0, locals := 24 }) s m ([.ref h] : List Value).toArray below meth cd H locs 0 0 Q (F0 m 43 ls []) := by
          intro fu43
          induction fu43 with
          | zero => intro j2 H locs ls hmu43; exact absurd hmu43 (Nat.not_lt_zero _)
          | succ fu43 ih43 =>
            intro j2 H locs ls hmu43 hj2 hok  hM hS hl
            refine lv_iload hx hb d_GrantServerModel_isSealed_43 (lv_at hl 3 rfl) ?_
            refine lv_bipush (v := 10) hx hb d_GrantServerModel_isSealed_45 (by decide) ?_
            refine lv_icmp_ge (tgt := 90) hx hb d_GrantServerModel_isSealed_47 (by decide) (fun h2 => ?_) (fun h2 => ?_)
            · have hge2 : j2 = 10 := by have z2 := (nI_leI (a := 10) (b := j2) (by decide) (by omega)).mp h2; omega
              refine lv_iconst (v := 1) hx hb d_GrantServerModel_isSealed_90 (by decide) ?_
              exact hm_zret X hQ hr hlk hK hM hS rfl d_GrantServerModel_isSealed_91 ⟨Or.inl ⟨rfl, fun i h9 => hok i (by omega)⟩, rfl⟩
            · have hlt2 : j2 < 10 := by have z2 := mt (nI_leI (a := 10) (b := j2) (by decide) (by omega)).mpr h2; omega
              have hcv : m_sval (x (n - 10 + j2)) = nI (z_ss (z_seal sk x (n - 11)) j2) ↔ x (n - 10 + j2) = nI (st_chr 6 (z_ss (z_seal sk x (n - 11)) j2)) := m_cv (hx9 _ (by omega)) (hs _ (by omega) (by omega)) (z_ss_lt _ _)
              refine lv_aload_n hx hb d_GrantServerModel_isSealed_50 rfl (lv_at hl 0 rfl) ?_
              refine hm_get X hK hM hmo.1 fl_GrantServerModel_57 (v := .ref (ad 23)) rfl d_GrantServerModel_isSealed_51 ?_
              refine lv_iload_n hx hb d_GrantServerModel_isSealed_54 rfl (lv_at hl 1 rfl) ?_
              refine lv_iconst (v := 1) hx hb d_GrantServerModel_isSealed_55 (by decide) ?_
              refine lv_iadd hx hb d_GrantServerModel_isSealed_56 ?_
              refine hm_top (nI_1 _) ?_
              refine hm_top (z := nI (n - 10)) (congrArg nI (by omega)) ?_
              refine lv_iload hx hb d_GrantServerModel_isSealed_57 (lv_at hl 3 rfl) ?_
              refine lv_iadd hx hb d_GrantServerModel_isSealed_59 ?_
              refine hm_top (z := nI (n - 10 + j2)) (nI_add _ _) ?_
              have g3 : f (ad 23) = some (.inl (k 0, 120, .inl x)) := hmo.arr 23 (by decide) (by decide)
              refine hm_iald X hK hM g3 0 rfl (n - 10 + j2) rfl (by omega) (by decide) d_GrantServerModel_isSealed_60 ?_
              refine hm_calli hS hM hA (va_runS (As := [.int (x (n - 10 + j2))]) (rest := []) X (m_c_sval l D k f (x (n - 10 + j2))  H.size) (hm_cwS hts me_GrantServerModel_signValue wl_GrantServerModel_185 rfl rfl ⟨Nat.le_of_ble_eq_true rfl, Nat.le_of_ble_eq_true rfl⟩) (hm_preS hM hK) rfl rfl hl.1 rfl (lv_room (Nat.le_of_ble_eq_true rfl)) d_GrantServerModel_isSealed_61 ⟨Nat.le_of_ble_eq_true rfl, Nat.le_of_ble_eq_true rfl⟩) (fun r6 f4 H locs p5 hM hS => ?_)
              obtain ⟨rfl, rfl⟩ := p5
              refine lv_lload_n hx hb d_GrantServerModel_isSealed_64 rfl (lv_at hl 2 rfl) ?_
              refine lv_bipush (v := 54) hx hb d_GrantServerModel_isSealed_65 (by decide) ?_
              refine lv_bipush (v := 6) hx hb d_GrantServerModel_isSealed_67 (by decide) ?_
              refine lv_iload hx hb d_GrantServerModel_isSealed_69 (lv_at hl 3 rfl) ?_
              refine lv_imul hx hb d_GrantServerModel_isSealed_71 ?_
              refine lv_isub hx hb d_GrantServerModel_isSealed_72 ?_
              refine lv_lshr hx hb d_GrantServerModel_isSealed_73 rfl ?_
              refine lv_ldc2 (v := 63) hx hb hown (hts _ wc_GrantServerModel_173) d_GrantServerModel_isSealed_74 ?_
              refine lv_land hx hb d_GrantServerModel_isSealed_77 ?_
              refine lv_l2i hx hb d_GrantServerModel_isSealed_78 rfl ?_
              refine hm_top (z := nI (z_ss (z_seal sk x (n - 11)) j2)) (m_ss_54 hlt2) ?_
              refine lv_icmp_eq (tgt := 84) hx hb d_GrantServerModel_isSealed_79 (by decide) (fun h7 => ?_) (fun h7 => ?_)
              · refine lv_iinc (lv' := [(4, .int (nI (j2 + 1))), (0, .ref h), (1, .int (nI (n - 11))), (2, .long (z_seal sk x (n - 11)))]) hx hb d_GrantServerModel_isSealed_84 hl (k := 3) rfl (hm_inc _) (by decide) rfl (fun ls hl => ?_)
                refine lv_goto (tgt := 43) hx hb d_GrantServerModel_isSealed_87 (by decide) ?_
                exact ih43 (j2 + 1)  H locs ls (by omega) (by omega) (z_ext hok (hcv.mp h7))  hM hS (lv_sub hl [1, 2, 3, 0] rfl)
              · refine lv_iconst (v := 0) hx hb d_GrantServerModel_isSealed_82 (by decide) ?_
                exact hm_zret X hQ hr hlk hK hM hS rfl d_GrantServerModel_isSealed_83 ⟨Or.inr ⟨rfl, fun z => h7 (hcv.mpr (z j2 hlt2))⟩, rfl⟩
        exact loop43 _ 0  H locs ls (Nat.lt_succ_self _) (Nat.zero_le _) (fun e h9 => absurd h9 (Nat.not_lt_zero _))  hM hS (lv_sub hl [1, 2, 3, 0] rfl)
      · have hlt : j < (n - 11) := by have z := mt (nI_leI (a := (n - 11)) (b := j) (by omega) (by omega)).mpr h1; omega
        refine lv_lload_n hx hb d_GrantServerModel_isSealed_22 rfl (lv_at hl 2 rfl) ?_
        refine lv_aload_n hx hb d_GrantServerModel_isSealed_23 rfl (lv_at hl 0 rfl) ?_
        refine hm_get X hK hM hmo.1 fl_GrantServerModel_57 (v := .ref (ad 23)) rfl d_GrantServerModel_isSealed_24 ?_
        refine lv_iload hx hb d_GrantServerModel_isSealed_27 (lv_at hl 3 rfl) ?_
        have g2 : f (ad 23) = some (.inl (k 0, 120, .inl x)) := hmo.arr 23 (by decide) (by decide)
        refine hm_iald X hK hM g2 0 rfl j rfl (by omega) (by decide) d_GrantServerModel_isSealed_29 ?_
        refine hm_calll hS hM hA (va_runS (As := [.long (z_seal sk x j), .int (x j)]) (rest := []) X (m_c_mixed l D k f (z_seal sk x j) (x j)  H.size) (hm_cwS hts me_GrantServerModel_mixed wl_GrantServerModel_169 rfl rfl ⟨Nat.le_of_ble_eq_true rfl, Nat.le_of_ble_eq_true rfl⟩) (hm_preS hM hK) rfl rfl hl.1 rfl (lv_room (Nat.le_of_ble_eq_true rfl)) d_GrantServerModel_isSealed_30 ⟨Nat.le_of_ble_eq_true rfl, Nat.le_of_ble_eq_true rfl⟩) (fun r5 f3 H locs p4 hM hS => ?_)
        obtain ⟨rfl, rfl⟩ := p4
        refine lv_lstore_n (lv' := [(2, .long (z_mix (z_seal sk x j) (x j))), (0, .ref h), (1, .int (nI (n - 11))), (4, .int (nI j))]) hx hb d_GrantServerModel_isSealed_33 rfl hl (by decide) rfl (fun ls hl => ?_)
        refine lv_iinc (lv' := [(4, .int (nI (j + 1))), (2, .long (z_mix (z_seal sk x j) (x j))), (0, .ref h), (1, .int (nI (n - 11)))]) hx hb d_GrantServerModel_isSealed_34 hl (k := 3) rfl (hm_inc _) (by decide) rfl (fun ls hl => ?_)
        refine lv_goto (tgt := 16) hx hb d_GrantServerModel_isSealed_37 (by decide) ?_
        exact ih (j + 1)  H locs ls (by omega) (by omega)  hM hS (lv_sub hl [2, 3, 1, 0] rfl)
  exact loop16 _ 0  s.heap [] ls (Nat.lt_succ_self _) (Nat.zero_le _)  hM hS (lv_sub hl [3, 2, 1, 0] rfl)
set_option maxHeartbeats 4000000 in
set_option maxRecDepth 100000 in
theorem m_c_unwrap (l : Launch) (D : va_G) (k : Nat → ClassId) (f : hm) (h : Nat) (ad : Nat → Nat) (sk : Int64) (v : Nat → Int32) (c : Nat → Nat → Int32) (n : Nat) (x : Nat → Int32) (ch : Nat → Nat) (hmo : mo k f h ad sk v c) (hn : v 24 = nI n) (hcx : c 23 = x) (hn9 : n ≤ 120) (hx9 : ∀ j, j < n → x j = nI (ch j) ∧ ch j < 127) (hn11 : 11 ≤ n) (hs : ∀ j, j < n → ¬ j = n - 11 → ¬ m_sval (x j) < 0) : hm_Mv l D vwCl (tyL k) y_GrantServerModel_unwrap (Cond.code y_GrantServerModel_unwrap b_GrantServerModel_unwrap 5 none :: TB) ({ frames := 1, cells := 0, slots := 0, locals := 20 }) [.ref h] f (fun (f1 : hm) => ∃ (g : Nat → Int32), (∀ e, e < (n - 11) * 6 / 8 → g e = nI (z_eight x e)) ∧ mo k f1 h ad sk (upd v 28 (nI ((n - 11) * 6 / 8))) (va_up c 27 g) ∧ mo_fr h ad f f1) 0 0 := by
  refine hm_enter (Qc := fun sz => va_Qv _ (hm_R D vwCl (tyL k) f sz) (hm_A f sz)) (by decide) rfl (Nat.le_of_ble_eq_true rfl) ?_
  intro pg e s m below meth cd ls X0 hr hlk hin hK hM hS hA hl Q hQ
  have X : CallFix pg m cd b_GrantServerModel_unwrap 5 s ([.ref h] : List Value).toArray TB R_GrantServerModel := ⟨X0.1, X0.2.1, X0.2.2.1, X0.2.2.2.1, fun w h => X0.2.2.2.2 w (List.mem_cons_of_mem _ h)⟩
  have hx := X.1; have hb := X.2.1; have hml := X.2.2.1; have hown := X.2.2.2.1; have hts := X.2.2.2.2
  have hl : lv_has ls 5 [(0, .ref h)] := hl
  have hfr : mo_fr h ad f f := mo_fr.rf
  have hmo : mo k f h ad sk (upd v 24 (nI n)) (va_up c 23 x) := hmo.cv (by rw [upd_id hn]) (by rw [va_up_idE hcx])
  refine lv_aload_n hx hb d_GrantServerModel_unwrap_0 rfl (lv_at hl 0 rfl) ?_
  refine hm_get X hK hM hmo.1 fl_GrantServerModel_175 (v := .int (nI n)) rfl d_GrantServerModel_unwrap_1 ?_
  refine lv_bipush (v := 11) hx hb d_GrantServerModel_unwrap_4 (by decide) ?_
  refine lv_isub hx hb d_GrantServerModel_unwrap_6 ?_
  refine hm_top (z := nI (n - 11)) (pk_sub (b := 11) hn11) ?_
  refine lv_istore_n (lv' := [(1, .int (nI (n - 11))), (0, .ref h)]) hx hb d_GrantServerModel_unwrap_7 rfl hl (by decide) rfl (fun ls hl => ?_)
  refine lv_aload_n hx hb d_GrantServerModel_unwrap_8 rfl (lv_at hl 1 rfl) ?_
  refine lv_bipush (v := 6) hx hb d_GrantServerModel_unwrap_9 (by decide) ?_
  refine lv_iload_n hx hb d_GrantServerModel_unwrap_11 rfl (lv_at hl 0 rfl) ?_
  refine lv_imul hx hb d_GrantServerModel_unwrap_12 ?_
  refine hm_top (z := nI (6 * (n - 11))) (pk_mul 6 _) ?_
  refine lv_bipush (v := 8) hx hb d_GrantServerModel_unwrap_13 (by decide) ?_
  refine lv_idiv hx hb d_GrantServerModel_unwrap_15 (by decide) ?_
  refine hm_top (z := nI ((n - 11) * 6 / 8)) ((pk_div (d := 8) (by omega) (by decide) (by decide)).trans (congrArg nI (by omega))) ?_
  refine hm_put X hK hM hS (fs' := moV sk (upd (upd v 24 (nI n)) 28 (nI ((n - 11) * 6 / 8))) ad) hmo.1 fl_GrantServerModel_121 rfl rfl (Nat.le_of_ble_eq_true rfl) rfl d_GrantServerModel_unwrap_16 (fun f1 H locs e2 hM hS => ?_)
  have hfr := hfr.put e2; have hmo : mo k f1 h ad sk (upd (upd v 24 (nI n)) 28 (nI ((n - 11) * 6 / 8))) (va_up c 23 x) := hmo.put e2
  refine lv_iconst (v := 0) hx hb d_GrantServerModel_unwrap_19 (by decide) ?_
  refine lv_istore_n (lv' := [(2, .int 0), (1, .int (nI (n - 11))), (0, .ref h)]) hx hb d_GrantServerModel_unwrap_20 rfl hl (by decide) rfl (fun ls hl => ?_)
  have loop21 : ∀ (fu : Nat) (j : Nat) (g : Nat → Int32) (fL : hm) (H : Heap) (locs : List Loc) (ls : Array Slot) (hmu : (n - 11) * 6 / 8 - j < fu) (hj : j ≤ (n - 11) * 6 / 8) (hg : ∀ e, e < j → g e = nI (z_eight x e)) (hmo : mo k fL h ad sk (upd (upd v 24 (nI n)) 28 (nI ((n - 11) * 6 / 8))) (va_up (va_up c 23 x) 27 g)) (hfr : mo_fr h ad f fL) (hM : hm_W D vwCl (hm_A f s.heap.size) fL H) (hS : va_S (hm_A f s.heap.size) s.heap H locs) (hl : lv_has ls 5 [(0, .ref h), (1, .int (nI (n - 11))), (2, .int (nI j))]), W pg l e ({ frames := 1, cells := 0, slots := 0, locals := 20 }) s m ([.ref h] : List Value).toArray below meth cd H locs 0 0 Q (F0 m 21 ls []) := by
    intro fu
    induction fu with
    | zero => intro j g fL H locs ls hmu; exact absurd hmu (Nat.not_lt_zero _)
    | succ fu ih =>
      intro j g fL H locs ls hmu hj hg  hmo hfr hM hS hl
      refine lv_iload_n hx hb d_GrantServerModel_unwrap_21 rfl (lv_at hl 2 rfl) ?_
      refine lv_aload_n hx hb d_GrantServerModel_unwrap_22 rfl (lv_at hl 0 rfl) ?_
      refine hm_get X hK hM hmo.1 fl_GrantServerModel_121 (v := .int (nI ((n - 11) * 6 / 8))) rfl d_GrantServerModel_unwrap_23 ?_
      refine lv_icmp_ge (tgt := 96) hx hb d_GrantServerModel_unwrap_26 (by decide) (fun h3 => ?_) (fun h3 => ?_)
      · have hge : j = (n - 11) * 6 / 8 := by have z := (nI_leI (a := (n - 11) * 6 / 8) (b := j) (by omega) (by omega)).mp h3; omega
        exact hm_vret X hQ hr hlk hK hM hS d_GrantServerModel_unwrap_96 ⟨g, (fun e h9 => hg e (by omega)), (hmo.cv (by funext z9; by_cases q24 : z9 = 24 <;> by_cases q28 : z9 = 28 <;> simp [upd, q24, q28, hn]) (by funext z9; by_cases q23 : z9 = 23 <;> by_cases q27 : z9 = 27 <;> simp [va_up, q23, q27, hcx])), hfr⟩
      · have hlt : j < (n - 11) * 6 / 8 := by have z := mt (nI_leI (a := (n - 11) * 6 / 8) (b := j) (by omega) (by omega)).mpr h3; omega
        refine lv_iconst (v := 0) hx hb d_GrantServerModel_unwrap_29 (by decide) ?_
        refine lv_istore_n (lv' := [(3, .int 0), (0, .ref h), (1, .int (nI (n - 11))), (2, .int (nI j))]) hx hb d_GrantServerModel_unwrap_30 rfl hl (by decide) rfl (fun ls hl => ?_)
        refine lv_bipush (v := 8) hx hb d_GrantServerModel_unwrap_31 (by decide) ?_
        refine lv_iload_n hx hb d_GrantServerModel_unwrap_33 rfl (lv_at hl 3 rfl) ?_
        refine lv_imul hx hb d_GrantServerModel_unwrap_34 ?_
        refine hm_top (z := nI (8 * j)) (pk_mul 8 j) ?_
        refine lv_istore (lv' := [(4, .int (nI (8 * j))), (3, .int 0), (0, .ref h), (1, .int (nI (n - 11))), (2, .int (nI j))]) hx hb d_GrantServerModel_unwrap_35 hl (by decide) rfl (fun ls hl => ?_)
        have loop37 : ∀ (fu37 : Nat) (t9 : Nat) (H : Heap) (locs : List Loc) (ls : Array Slot) (hmu37 : 8 - t9 < fu37) (ht9 : t9 ≤ 8) (hM : hm_W D vwCl (hm_A f s.heap.size) fL H) (hS : va_S (hm_A f s.heap.size) s.heap H locs) (hl : lv_has ls 5 [(0, .ref h), (1, .int (nI (n - 11))), (2, .int (nI j)), (3, .int (nI (m_e8 x (8 * j) t9))), (4, .int (nI (8 * j + t9)))]), W pg l e ({ frames := 1, cells := 0, slots := 0, locals := 20 }) s m ([.ref h] : List Value).toArray below meth cd H locs 0 0 Q (F0 m 37 ls []) := by
          intro fu37
          induction fu37 with
          | zero => intro t9 H locs ls hmu37; exact absurd hmu37 (Nat.not_lt_zero _)
          | succ fu37 ih37 =>
            intro t9 H locs ls hmu37 ht9  hM hS hl
            refine lv_iload hx hb d_GrantServerModel_unwrap_37 (lv_at hl 4 rfl) ?_
            refine lv_bipush (v := 8) hx hb d_GrantServerModel_unwrap_39 (by decide) ?_
            refine lv_iload_n hx hb d_GrantServerModel_unwrap_41 rfl (lv_at hl 2 rfl) ?_
            refine lv_imul hx hb d_GrantServerModel_unwrap_42 ?_
            refine hm_top (z := nI (8 * j)) (pk_mul 8 j) ?_
            refine lv_bipush (v := 8) hx hb d_GrantServerModel_unwrap_43 (by decide) ?_
            refine lv_iadd hx hb d_GrantServerModel_unwrap_45 ?_
            refine hm_top (z := nI (8 * j + 8)) (nI_add _ 8) ?_
            refine lv_icmp_ge (tgt := 83) hx hb d_GrantServerModel_unwrap_46 (by decide) (fun h4 => ?_) (fun h4 => ?_)
            · have hge8 : t9 = 8 := by have z := (nI_leI (a := 8 * j + 8) (b := 8 * j + t9) (by omega) (by omega)).mp h4; omega
              subst hge8
              have he8 : m_e8 x (8 * j) 8 = z_eight x j := m_e8_eq (by have z := z_sg1_eq (ch (8 * j / 6)) (by have := (hx9 (8 * j / 6) (by omega)).2; omega) (by rw [← (hx9 (8 * j / 6) (by omega)).1]; exact hs (8 * j / 6) (by omega) (by omega)); rw [← (hx9 (8 * j / 6) (by omega)).1] at z; exact z.2.1) (by have z := z_sg1_eq (ch (8 * j / 6 + 1)) (by have := (hx9 (8 * j / 6 + 1) (by omega)).2; omega) (by rw [← (hx9 (8 * j / 6 + 1) (by omega)).1]; exact hs (8 * j / 6 + 1) (by omega) (by omega)); rw [← (hx9 (8 * j / 6 + 1) (by omega)).1] at z; exact z.2.1)
              rw [he8] at hl
              refine lv_aload_n hx hb d_GrantServerModel_unwrap_83 rfl (lv_at hl 0 rfl) ?_
              refine hm_get X hK hM hmo.1 fl_GrantServerModel_63 (v := .ref (ad 27)) rfl d_GrantServerModel_unwrap_84 ?_
              refine lv_iload_n hx hb d_GrantServerModel_unwrap_87 rfl (lv_at hl 2 rfl) ?_
              refine lv_iload_n hx hb d_GrantServerModel_unwrap_88 rfl (lv_at hl 3 rfl) ?_
              have g5 : fL (ad 27) = some (.inl (k 0, 130, .inl g)) := hmo.arr 27 (by decide) (by decide)
              refine hm_iast X hK hM hS g5 0 rfl j rfl (by omega) (by decide) d_GrantServerModel_unwrap_89 (fun f6 H locs e7 hM hS => ?_)
              have hfr := hfr.ast 27 (by decide) (by decide) e7; have hmo : mo k f6 h ad sk (upd (upd v 24 (nI n)) 28 (nI ((n - 11) * 6 / 8))) (va_up (va_up (va_up c 23 x) 27 g) 27 (upd g j (nI (z_eight x j)))) := hmo.ast 27 (by decide) (by decide) e7
              refine lv_iinc (lv' := [(2, .int (nI (j + 1))), (0, .ref h), (1, .int (nI (n - 11))), (3, .int (nI (z_eight x j))), (4, .int (nI (8 * j + 8)))]) hx hb d_GrantServerModel_unwrap_90 hl (k := 2) rfl (hm_inc _) (by decide) rfl (fun ls hl => ?_)
              refine lv_goto (tgt := 21) hx hb d_GrantServerModel_unwrap_93 (by decide) ?_
              exact ih (j + 1) (upd g j (nI (z_eight x j))) f6 H locs ls (by omega) (by omega) (fun e h9 => by by_cases e9 : e = j <;> simp [upd, e9]; exact hg e (by omega))  (hmo.cv rfl (bx_uu _ _ _ _).symm) hfr hM hS (lv_sub hl [1, 2, 0] rfl)
            · have hlt9 : t9 < 8 := by have z := mt (nI_leI (a := 8 * j + 8) (b := 8 * j + t9) (by omega) (by omega)).mpr h4; omega
              refine lv_iconst (v := 2) hx hb d_GrantServerModel_unwrap_49 (by decide) ?_
              refine lv_iload_n hx hb d_GrantServerModel_unwrap_50 rfl (lv_at hl 3 rfl) ?_
              refine lv_imul hx hb d_GrantServerModel_unwrap_51 ?_
              refine hm_top (z := nI (2 * m_e8 x (8 * j) t9)) (pk_mul 2 _) ?_
              refine lv_aload_n hx hb d_GrantServerModel_unwrap_52 rfl (lv_at hl 0 rfl) ?_
              refine hm_get X hK hM hmo.1 fl_GrantServerModel_57 (v := .ref (ad 23)) rfl d_GrantServerModel_unwrap_53 ?_
              refine lv_iload hx hb d_GrantServerModel_unwrap_56 (lv_at hl 4 rfl) ?_
              refine lv_bipush (v := 6) hx hb d_GrantServerModel_unwrap_58 (by decide) ?_
              refine lv_idiv hx hb d_GrantServerModel_unwrap_60 (by decide) ?_
              refine hm_top (z := nI ((8 * j + t9) / 6)) (pk_div (d := 6) (by omega) (by decide) (by decide)) ?_
              have g5 : fL (ad 23) = some (.inl (k 0, 120, .inl x)) := hmo.arr 23 (by decide) (by decide)
              refine hm_iald X hK hM g5 0 rfl ((8 * j + t9) / 6) rfl (by omega) (by decide) d_GrantServerModel_unwrap_61 ?_
              refine hm_calli hS hM hA (va_runS (As := [.int (x ((8 * j + t9) / 6))]) (rest := [.int (nI (2 * m_e8 x (8 * j) t9))]) X (m_c_sval l D k fL (x ((8 * j + t9) / 6))  H.size) (hm_cwS hts me_GrantServerModel_signValue wl_GrantServerModel_185 rfl rfl ⟨Nat.le_of_ble_eq_true rfl, Nat.le_of_ble_eq_true rfl⟩) (hm_preS hM hK) rfl rfl hl.1 rfl (lv_room (Nat.le_of_ble_eq_true rfl)) d_GrantServerModel_unwrap_62 ⟨Nat.le_of_ble_eq_true rfl, Nat.le_of_ble_eq_true rfl⟩) (fun r8 f6 H locs p7 hM hS => ?_)
              obtain ⟨rfl, rfl⟩ := p7
              have hq9 := z_sg1_eq (ch ((8 * j + t9) / 6)) (by have := (hx9 ((8 * j + t9) / 6) (by omega)).2; omega) (by rw [← (hx9 ((8 * j + t9) / 6) (by omega)).1]; exact hs ((8 * j + t9) / 6) (by omega) (by omega))
              rw [← (hx9 ((8 * j + t9) / 6) (by omega)).1] at hq9
              refine hm_top (z := nI (z_sg1 (x ((8 * j + t9) / 6)))) hq9.1 ?_
              refine lv_iconst (v := 5) hx hb d_GrantServerModel_unwrap_65 (by decide) ?_
              refine lv_iload hx hb d_GrantServerModel_unwrap_66 (lv_at hl 4 rfl) ?_
              refine lv_bipush (v := 6) hx hb d_GrantServerModel_unwrap_68 (by decide) ?_
              refine lv_irem hx hb d_GrantServerModel_unwrap_70 (by decide) ?_
              refine hm_top (z := nI ((8 * j + t9) % 6)) (pk_rem (d := 6) (by omega) (by decide) (by decide)) ?_
              refine lv_isub hx hb d_GrantServerModel_unwrap_71 ?_
              refine lv_ishr hx hb d_GrantServerModel_unwrap_72 ?_
              refine lv_iconst (v := 1) hx hb d_GrantServerModel_unwrap_73 (by decide) ?_
              refine lv_iand hx hb d_GrantServerModel_unwrap_74 ?_
              refine hm_top (z := nI (m_b6 x (8 * j + t9))) (m_b6_eq hq9.2.1 (by omega)) ?_
              refine lv_iadd hx hb d_GrantServerModel_unwrap_75 ?_
              refine hm_top (z := nI (m_e8 x (8 * j) (t9 + 1))) (nI_add _ _) ?_
              refine lv_istore_n (lv' := [(3, .int (nI (m_e8 x (8 * j) (t9 + 1)))), (0, .ref h), (1, .int (nI (n - 11))), (2, .int (nI j)), (4, .int (nI (8 * j + t9)))]) hx hb d_GrantServerModel_unwrap_76 rfl hl (by decide) rfl (fun ls hl => ?_)
              refine lv_iinc (lv' := [(4, .int (nI (8 * j + (t9 + 1)))), (3, .int (nI (m_e8 x (8 * j) (t9 + 1)))), (0, .ref h), (1, .int (nI (n - 11))), (2, .int (nI j))]) hx hb d_GrantServerModel_unwrap_77 hl (k := 4) rfl (hm_inc _) (by decide) rfl (fun ls hl => ?_)
              refine lv_goto (tgt := 37) hx hb d_GrantServerModel_unwrap_80 (by decide) ?_
              exact ih37 (t9 + 1)  H locs ls (by omega) (by omega)  hM hS (lv_sub hl [2, 3, 4, 1, 0] rfl)
        exact loop37 _ 0  H locs ls (Nat.lt_succ_self _) (Nat.zero_le _)  hM hS (lv_sub hl [2, 3, 4, 1, 0] rfl)
  exact loop21 _ 0 (c 27) f1 H locs ls (Nat.lt_succ_self _) (Nat.zero_le _) (fun e h9 => absurd h9 (Nat.not_lt_zero _))  (hmo.cv rfl (va_up_idE rfl)) hfr hM hS (lv_sub hl [2, 1, 0] rfl)
