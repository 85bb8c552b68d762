theorem d_ClaimsReader_value_0 : decode b_ClaimsReader_value 0 = .ok (.iload_n 1, 1) := by decide +kernel
theorem d_ClaimsReader_value_1 : decode b_ClaimsReader_value 1 = .ok (.ifCond .lt 17, 3) := by decide +kernel
theorem d_ClaimsReader_value_4 : decode b_ClaimsReader_value 4 = .ok (.iload_n 1, 1) := by decide +kernel
theorem d_ClaimsReader_value_5 : decode b_ClaimsReader_value 5 = .ok (.iconst 5, 1) := by decide +kernel
theorem d_ClaimsReader_value_6 : decode b_ClaimsReader_value 6 = .ok (.if_icmp .ge 12, 3) := by decide +kernel
theorem d_ClaimsReader_value_9 : decode b_ClaimsReader_value 9 = .ok (.aload_n 0, 1) := by decide +kernel
theorem d_ClaimsReader_value_10 : decode b_ClaimsReader_value 10 = .ok (.getfield 11, 3) := by decide +kernel
theorem d_ClaimsReader_value_13 : decode b_ClaimsReader_value 13 = .ok (.iload_n 1, 1) := by decide +kernel
theorem d_ClaimsReader_value_14 : decode b_ClaimsReader_value 14 = .ok (.iaload, 1) := by decide +kernel
theorem d_ClaimsReader_value_15 : decode b_ClaimsReader_value 15 = .ok (.goto 4, 3) := by decide +kernel
theorem d_ClaimsReader_value_18 : decode b_ClaimsReader_value 18 = .ok (.iconst 0, 1) := by decide +kernel
theorem d_ClaimsReader_value_19 : decode b_ClaimsReader_value 19 = .ok (.ireturn, 1) := by decide +kernel
theorem d_ClaimsReader_reads_0 : decode b_ClaimsReader_reads 0 = .ok (.aload_n 0, 1) := by decide +kernel
theorem d_ClaimsReader_reads_1 : decode b_ClaimsReader_reads 1 = .ok (.invokevirtual 23, 3) := by decide +kernel
theorem d_ClaimsReader_reads_4 : decode b_ClaimsReader_reads 4 = .ok (.iconst 0, 1) := by decide +kernel
theorem d_ClaimsReader_reads_5 : decode b_ClaimsReader_reads 5 = .ok (.istore_n 2, 1) := by decide +kernel
theorem d_ClaimsReader_reads_6 : decode b_ClaimsReader_reads 6 = .ok (.iload_n 2, 1) := by decide +kernel
theorem d_ClaimsReader_reads_7 : decode b_ClaimsReader_reads 7 = .ok (.iconst 5, 1) := by decide +kernel
theorem d_ClaimsReader_reads_8 : decode b_ClaimsReader_reads 8 = .ok (.if_icmp .ge 38, 3) := by decide +kernel
theorem d_ClaimsReader_reads_11 : decode b_ClaimsReader_reads 11 = .ok (.aload_n 0, 1) := by decide +kernel
theorem d_ClaimsReader_reads_12 : decode b_ClaimsReader_reads 12 = .ok (.aload_n 1, 1) := by decide +kernel
theorem d_ClaimsReader_reads_13 : decode b_ClaimsReader_reads 13 = .ok (.iload_n 2, 1) := by decide +kernel
theorem d_ClaimsReader_reads_14 : decode b_ClaimsReader_reads 14 = .ok (.ifCond .ne 8, 3) := by decide +kernel
theorem d_ClaimsReader_reads_17 : decode b_ClaimsReader_reads 17 = .ok (.bipush 123, 2) := by decide +kernel
theorem d_ClaimsReader_reads_19 : decode b_ClaimsReader_reads 19 = .ok (.goto 5, 3) := by decide +kernel
theorem d_ClaimsReader_reads_22 : decode b_ClaimsReader_reads 22 = .ok (.bipush 44, 2) := by decide +kernel
theorem d_ClaimsReader_reads_24 : decode b_ClaimsReader_reads 24 = .ok (.invokevirtual 26, 3) := by decide +kernel
theorem d_ClaimsReader_reads_27 : decode b_ClaimsReader_reads 27 = .ok (.ifCond .eq 11, 3) := by decide +kernel
theorem d_ClaimsReader_reads_30 : decode b_ClaimsReader_reads 30 = .ok (.aload_n 0, 1) := by decide +kernel
theorem d_ClaimsReader_reads_31 : decode b_ClaimsReader_reads 31 = .ok (.aload_n 1, 1) := by decide +kernel
theorem d_ClaimsReader_reads_32 : decode b_ClaimsReader_reads 32 = .ok (.invokevirtual 30, 3) := by decide +kernel
theorem d_ClaimsReader_reads_35 : decode b_ClaimsReader_reads 35 = .ok (.ifCond .ne 5, 3) := by decide +kernel
theorem d_ClaimsReader_reads_38 : decode b_ClaimsReader_reads 38 = .ok (.iconst 0, 1) := by decide +kernel
theorem d_ClaimsReader_reads_39 : decode b_ClaimsReader_reads 39 = .ok (.ireturn, 1) := by decide +kernel
theorem d_ClaimsReader_reads_40 : decode b_ClaimsReader_reads 40 = .ok (.iinc 2 1, 3) := by decide +kernel
theorem d_ClaimsReader_reads_43 : decode b_ClaimsReader_reads 43 = .ok (.goto (-37), 3) := by decide +kernel
theorem d_ClaimsReader_reads_46 : decode b_ClaimsReader_reads 46 = .ok (.aload_n 0, 1) := by decide +kernel
theorem d_ClaimsReader_reads_47 : decode b_ClaimsReader_reads 47 = .ok (.aload_n 1, 1) := by decide +kernel
theorem d_ClaimsReader_reads_48 : decode b_ClaimsReader_reads 48 = .ok (.bipush 125, 2) := by decide +kernel
theorem d_ClaimsReader_reads_50 : decode b_ClaimsReader_reads 50 = .ok (.invokevirtual 26, 3) := by decide +kernel
theorem d_ClaimsReader_reads_53 : decode b_ClaimsReader_reads 53 = .ok (.ifCond .eq 18, 3) := by decide +kernel
theorem d_ClaimsReader_reads_56 : decode b_ClaimsReader_reads 56 = .ok (.aload_n 0, 1) := by decide +kernel
theorem d_ClaimsReader_reads_57 : decode b_ClaimsReader_reads 57 = .ok (.getfield 19, 3) := by decide +kernel
theorem d_ClaimsReader_reads_60 : decode b_ClaimsReader_reads 60 = .ok (.aload_n 1, 1) := by decide +kernel
theorem d_ClaimsReader_reads_61 : decode b_ClaimsReader_reads 61 = .ok (.invokevirtual 34, 3) := by decide +kernel
theorem d_ClaimsReader_reads_64 : decode b_ClaimsReader_reads 64 = .ok (.if_icmp .ne 7, 3) := by decide +kernel
theorem d_ClaimsReader_reads_67 : decode b_ClaimsReader_reads 67 = .ok (.iconst 1, 1) := by decide +kernel
theorem d_ClaimsReader_reads_68 : decode b_ClaimsReader_reads 68 = .ok (.goto 4, 3) := by decide +kernel
theorem d_ClaimsReader_reads_71 : decode b_ClaimsReader_reads 71 = .ok (.iconst 0, 1) := by decide +kernel
theorem d_ClaimsReader_reads_72 : decode b_ClaimsReader_reads 72 = .ok (.ireturn, 1) := by decide +kernel
theorem d_ClaimsReader_begin_0 : decode b_ClaimsReader_begin 0 = .ok (.aload_n 0, 1) := by decide +kernel
theorem d_ClaimsReader_begin_1 : decode b_ClaimsReader_begin 1 = .ok (.iconst 0, 1) := by decide +kernel
theorem d_ClaimsReader_begin_2 : decode b_ClaimsReader_begin 2 = .ok (.putfield 19, 3) := by decide +kernel
theorem d_ClaimsReader_begin_5 : decode b_ClaimsReader_begin 5 = .ok (.iconst 0, 1) := by decide +kernel
theorem d_ClaimsReader_begin_6 : decode b_ClaimsReader_begin 6 = .ok (.istore_n 1, 1) := by decide +kernel
theorem d_ClaimsReader_begin_7 : decode b_ClaimsReader_begin 7 = .ok (.iload_n 1, 1) := by decide +kernel
theorem d_ClaimsReader_begin_8 : decode b_ClaimsReader_begin 8 = .ok (.iconst 5, 1) := by decide +kernel
theorem d_ClaimsReader_begin_9 : decode b_ClaimsReader_begin 9 = .ok (.if_icmp .ge 16, 3) := by decide +kernel
theorem d_ClaimsReader_begin_12 : decode b_ClaimsReader_begin 12 = .ok (.aload_n 0, 1) := by decide +kernel
theorem d_ClaimsReader_begin_13 : decode b_ClaimsReader_begin 13 = .ok (.getfield 15, 3) := by decide +kernel
theorem d_ClaimsReader_begin_16 : decode b_ClaimsReader_begin 16 = .ok (.iload_n 1, 1) := by decide +kernel
theorem d_ClaimsReader_begin_17 : decode b_ClaimsReader_begin 17 = .ok (.iconst 0, 1) := by decide +kernel
theorem d_ClaimsReader_begin_18 : decode b_ClaimsReader_begin 18 = .ok (.bastore, 1) := by decide +kernel
theorem d_ClaimsReader_begin_19 : decode b_ClaimsReader_begin 19 = .ok (.iinc 1 1, 3) := by decide +kernel
theorem d_ClaimsReader_begin_22 : decode b_ClaimsReader_begin 22 = .ok (.goto (-15), 3) := by decide +kernel
theorem d_ClaimsReader_begin_25 : decode b_ClaimsReader_begin 25 = .ok (.return_, 1) := by decide +kernel
theorem d_ClaimsReader_readsMember_0 : decode b_ClaimsReader_readsMember 0 = .ok (.aload_n 0, 1) := by decide +kernel
theorem d_ClaimsReader_readsMember_1 : decode b_ClaimsReader_readsMember 1 = .ok (.aload_n 1, 1) := by decide +kernel
theorem d_ClaimsReader_readsMember_2 : decode b_ClaimsReader_readsMember 2 = .ok (.invokevirtual 40, 3) := by decide +kernel
theorem d_ClaimsReader_readsMember_5 : decode b_ClaimsReader_readsMember 5 = .ok (.istore_n 2, 1) := by decide +kernel
theorem d_ClaimsReader_readsMember_6 : decode b_ClaimsReader_readsMember 6 = .ok (.iload_n 2, 1) := by decide +kernel
theorem d_ClaimsReader_readsMember_7 : decode b_ClaimsReader_readsMember 7 = .ok (.ifCond .lt 22, 3) := by decide +kernel
theorem d_ClaimsReader_readsMember_10 : decode b_ClaimsReader_readsMember 10 = .ok (.aload_n 0, 1) := by decide +kernel
theorem d_ClaimsReader_readsMember_11 : decode b_ClaimsReader_readsMember 11 = .ok (.getfield 15, 3) := by decide +kernel
theorem d_ClaimsReader_readsMember_14 : decode b_ClaimsReader_readsMember 14 = .ok (.iload_n 2, 1) := by decide +kernel
theorem d_ClaimsReader_readsMember_15 : decode b_ClaimsReader_readsMember 15 = .ok (.baload, 1) := by decide +kernel
theorem d_ClaimsReader_readsMember_16 : decode b_ClaimsReader_readsMember 16 = .ok (.ifCond .ne 13, 3) := by decide +kernel
theorem d_ClaimsReader_readsMember_19 : decode b_ClaimsReader_readsMember 19 = .ok (.aload_n 0, 1) := by decide +kernel
theorem d_ClaimsReader_readsMember_20 : decode b_ClaimsReader_readsMember 20 = .ok (.aload_n 1, 1) := by decide +kernel
theorem d_ClaimsReader_readsMember_21 : decode b_ClaimsReader_readsMember 21 = .ok (.bipush 58, 2) := by decide +kernel
theorem d_ClaimsReader_readsMember_23 : decode b_ClaimsReader_readsMember 23 = .ok (.invokevirtual 26, 3) := by decide +kernel
theorem d_ClaimsReader_readsMember_26 : decode b_ClaimsReader_readsMember 26 = .ok (.ifCond .ne 5, 3) := by decide +kernel
theorem d_ClaimsReader_readsMember_29 : decode b_ClaimsReader_readsMember 29 = .ok (.iconst 0, 1) := by decide +kernel
theorem d_ClaimsReader_readsMember_30 : decode b_ClaimsReader_readsMember 30 = .ok (.ireturn, 1) := by decide +kernel
theorem d_ClaimsReader_readsMember_31 : decode b_ClaimsReader_readsMember 31 = .ok (.aload_n 0, 1) := by decide +kernel
theorem d_ClaimsReader_readsMember_32 : decode b_ClaimsReader_readsMember 32 = .ok (.getfield 15, 3) := by decide +kernel
theorem d_ClaimsReader_readsMember_35 : decode b_ClaimsReader_readsMember 35 = .ok (.iload_n 2, 1) := by decide +kernel
theorem d_ClaimsReader_readsMember_36 : decode b_ClaimsReader_readsMember 36 = .ok (.iconst 1, 1) := by decide +kernel
theorem d_ClaimsReader_readsMember_37 : decode b_ClaimsReader_readsMember 37 = .ok (.bastore, 1) := by decide +kernel
theorem d_ClaimsReader_readsMember_38 : decode b_ClaimsReader_readsMember 38 = .ok (.aload_n 0, 1) := by decide +kernel
theorem d_ClaimsReader_readsMember_39 : decode b_ClaimsReader_readsMember 39 = .ok (.getfield 11, 3) := by decide +kernel
theorem d_ClaimsReader_readsMember_42 : decode b_ClaimsReader_readsMember 42 = .ok (.iload_n 2, 1) := by decide +kernel
theorem d_ClaimsReader_readsMember_43 : decode b_ClaimsReader_readsMember 43 = .ok (.aload_n 0, 1) := by decide +kernel
theorem d_ClaimsReader_readsMember_44 : decode b_ClaimsReader_readsMember 44 = .ok (.aload_n 1, 1) := by decide +kernel
theorem d_ClaimsReader_readsMember_45 : decode b_ClaimsReader_readsMember 45 = .ok (.invokevirtual 44, 3) := by decide +kernel
theorem d_ClaimsReader_readsMember_48 : decode b_ClaimsReader_readsMember 48 = .ok (.iastore, 1) := by decide +kernel
theorem d_ClaimsReader_readsMember_49 : decode b_ClaimsReader_readsMember 49 = .ok (.aload_n 0, 1) := by decide +kernel
theorem d_ClaimsReader_readsMember_50 : decode b_ClaimsReader_readsMember 50 = .ok (.getfield 11, 3) := by decide +kernel
theorem d_ClaimsReader_readsMember_53 : decode b_ClaimsReader_readsMember 53 = .ok (.iload_n 2, 1) := by decide +kernel
theorem d_ClaimsReader_readsMember_54 : decode b_ClaimsReader_readsMember 54 = .ok (.iaload, 1) := by decide +kernel
theorem d_ClaimsReader_readsMember_55 : decode b_ClaimsReader_readsMember 55 = .ok (.ifCond .lt 7, 3) := by decide +kernel
theorem d_ClaimsReader_readsMember_58 : decode b_ClaimsReader_readsMember 58 = .ok (.iconst 1, 1) := by decide +kernel
theorem d_ClaimsReader_readsMember_59 : decode b_ClaimsReader_readsMember 59 = .ok (.goto 4, 3) := by decide +kernel
theorem d_ClaimsReader_readsMember_62 : decode b_ClaimsReader_readsMember 62 = .ok (.iconst 0, 1) := by decide +kernel
theorem d_ClaimsReader_readsMember_63 : decode b_ClaimsReader_readsMember 63 = .ok (.ireturn, 1) := by decide +kernel
theorem d_ClaimsReader_readsMark_0 : decode b_ClaimsReader_readsMark 0 = .ok (.aload_n 0, 1) := by decide +kernel
theorem d_ClaimsReader_readsMark_1 : decode b_ClaimsReader_readsMark 1 = .ok (.aload_n 1, 1) := by decide +kernel
theorem d_ClaimsReader_readsMark_2 : decode b_ClaimsReader_readsMark 2 = .ok (.invokevirtual 47, 3) := by decide +kernel
theorem d_ClaimsReader_readsMark_5 : decode b_ClaimsReader_readsMark 5 = .ok (.aload_n 1, 1) := by decide +kernel
theorem d_ClaimsReader_readsMark_6 : decode b_ClaimsReader_readsMark 6 = .ok (.aload_n 0, 1) := by decide +kernel
theorem d_ClaimsReader_readsMark_7 : decode b_ClaimsReader_readsMark 7 = .ok (.getfield 19, 3) := by decide +kernel
theorem d_ClaimsReader_readsMark_10 : decode b_ClaimsReader_readsMark 10 = .ok (.invokevirtual 51, 3) := by decide +kernel
theorem d_ClaimsReader_readsMark_13 : decode b_ClaimsReader_readsMark 13 = .ok (.iload_n 2, 1) := by decide +kernel
theorem d_ClaimsReader_readsMark_14 : decode b_ClaimsReader_readsMark 14 = .ok (.if_icmp .eq 5, 3) := by decide +kernel
theorem d_ClaimsReader_readsMark_17 : decode b_ClaimsReader_readsMark 17 = .ok (.iconst 0, 1) := by decide +kernel
theorem d_ClaimsReader_readsMark_18 : decode b_ClaimsReader_readsMark 18 = .ok (.ireturn, 1) := by decide +kernel
theorem d_ClaimsReader_readsMark_19 : decode b_ClaimsReader_readsMark 19 = .ok (.aload_n 0, 1) := by decide +kernel
theorem d_ClaimsReader_readsMark_20 : decode b_ClaimsReader_readsMark 20 = .ok (.dup, 1) := by decide +kernel
theorem d_ClaimsReader_readsMark_21 : decode b_ClaimsReader_readsMark 21 = .ok (.getfield 19, 3) := by decide +kernel
theorem d_ClaimsReader_readsMark_24 : decode b_ClaimsReader_readsMark 24 = .ok (.iconst 1, 1) := by decide +kernel
theorem d_ClaimsReader_readsMark_25 : decode b_ClaimsReader_readsMark 25 = .ok (.iadd, 1) := by decide +kernel
theorem d_ClaimsReader_readsMark_26 : decode b_ClaimsReader_readsMark 26 = .ok (.putfield 19, 3) := by decide +kernel
theorem d_ClaimsReader_readsMark_29 : decode b_ClaimsReader_readsMark 29 = .ok (.aload_n 0, 1) := by decide +kernel
theorem d_ClaimsReader_readsMark_30 : decode b_ClaimsReader_readsMark 30 = .ok (.aload_n 1, 1) := by decide +kernel
theorem d_ClaimsReader_readsMark_31 : decode b_ClaimsReader_readsMark 31 = .ok (.invokevirtual 47, 3) := by decide +kernel
theorem d_ClaimsReader_readsMark_34 : decode b_ClaimsReader_readsMark 34 = .ok (.iconst 1, 1) := by decide +kernel
theorem d_ClaimsReader_readsMark_35 : decode b_ClaimsReader_readsMark 35 = .ok (.ireturn, 1) := by decide +kernel
theorem d_ClaimsReader_readName_0 : decode b_ClaimsReader_readName 0 = .ok (.iconst 0, 1) := by decide +kernel
theorem d_ClaimsReader_readName_1 : decode b_ClaimsReader_readName 1 = .ok (.istore_n 2, 1) := by decide +kernel
theorem d_ClaimsReader_readName_2 : decode b_ClaimsReader_readName 2 = .ok (.iload_n 2, 1) := by decide +kernel
theorem d_ClaimsReader_readName_3 : decode b_ClaimsReader_readName 3 = .ok (.iconst 5, 1) := by decide +kernel
theorem d_ClaimsReader_readName_4 : decode b_ClaimsReader_readName 4 = .ok (.if_icmp .ge 38, 3) := by decide +kernel
theorem d_ClaimsReader_readName_7 : decode b_ClaimsReader_readName 7 = .ok (.iload_n 2, 1) := by decide +kernel
theorem d_ClaimsReader_readName_8 : decode b_ClaimsReader_readName 8 = .ok (.invokestatic 55, 3) := by decide +kernel
theorem d_ClaimsReader_readName_11 : decode b_ClaimsReader_readName 11 = .ok (.astore_n 3, 1) := by decide +kernel
theorem d_ClaimsReader_readName_12 : decode b_ClaimsReader_readName 12 = .ok (.aload_n 0, 1) := by decide +kernel
theorem d_ClaimsReader_readName_13 : decode b_ClaimsReader_readName 13 = .ok (.aload_n 1, 1) := by decide +kernel
theorem d_ClaimsReader_readName_14 : decode b_ClaimsReader_readName 14 = .ok (.aload_n 3, 1) := by decide +kernel
theorem d_ClaimsReader_readName_15 : decode b_ClaimsReader_readName 15 = .ok (.invokevirtual 59, 3) := by decide +kernel
theorem d_ClaimsReader_readName_18 : decode b_ClaimsReader_readName 18 = .ok (.ifCond .eq 18, 3) := by decide +kernel
theorem d_ClaimsReader_readName_21 : decode b_ClaimsReader_readName 21 = .ok (.aload_n 0, 1) := by decide +kernel
theorem d_ClaimsReader_readName_22 : decode b_ClaimsReader_readName 22 = .ok (.dup, 1) := by decide +kernel
theorem d_ClaimsReader_readName_23 : decode b_ClaimsReader_readName 23 = .ok (.getfield 19, 3) := by decide +kernel
theorem d_ClaimsReader_readName_26 : decode b_ClaimsReader_readName 26 = .ok (.aload_n 3, 1) := by decide +kernel
theorem d_ClaimsReader_readName_27 : decode b_ClaimsReader_readName 27 = .ok (.invokevirtual 63, 3) := by decide +kernel
theorem d_ClaimsReader_readName_30 : decode b_ClaimsReader_readName 30 = .ok (.iadd, 1) := by decide +kernel
theorem d_ClaimsReader_readName_31 : decode b_ClaimsReader_readName 31 = .ok (.putfield 19, 3) := by decide +kernel
theorem d_ClaimsReader_readName_34 : decode b_ClaimsReader_readName 34 = .ok (.iload_n 2, 1) := by decide +kernel
theorem d_ClaimsReader_readName_35 : decode b_ClaimsReader_readName 35 = .ok (.ireturn, 1) := by decide +kernel
theorem d_ClaimsReader_readName_36 : decode b_ClaimsReader_readName 36 = .ok (.iinc 2 1, 3) := by decide +kernel
theorem d_ClaimsReader_readName_39 : decode b_ClaimsReader_readName 39 = .ok (.goto (-37), 3) := by decide +kernel
theorem d_ClaimsReader_readName_42 : decode b_ClaimsReader_readName 42 = .ok (.iconst (-1), 1) := by decide +kernel
theorem d_ClaimsReader_readName_43 : decode b_ClaimsReader_readName 43 = .ok (.ireturn, 1) := by decide +kernel
theorem d_ClaimsReader_standsHere_0 : decode b_ClaimsReader_standsHere 0 = .ok (.iconst 0, 1) := by decide +kernel
theorem d_ClaimsReader_standsHere_1 : decode b_ClaimsReader_standsHere 1 = .ok (.istore_n 3, 1) := by decide +kernel
theorem d_ClaimsReader_standsHere_2 : decode b_ClaimsReader_standsHere 2 = .ok (.iload_n 3, 1) := by decide +kernel
theorem d_ClaimsReader_standsHere_3 : decode b_ClaimsReader_standsHere 3 = .ok (.aload_n 2, 1) := by decide +kernel
theorem d_ClaimsReader_standsHere_4 : decode b_ClaimsReader_standsHere 4 = .ok (.invokevirtual 63, 3) := by decide +kernel
theorem d_ClaimsReader_standsHere_7 : decode b_ClaimsReader_standsHere 7 = .ok (.if_icmp .ge 29, 3) := by decide +kernel
theorem d_ClaimsReader_standsHere_10 : decode b_ClaimsReader_standsHere 10 = .ok (.aload_n 1, 1) := by decide +kernel
theorem d_ClaimsReader_standsHere_11 : decode b_ClaimsReader_standsHere 11 = .ok (.aload_n 0, 1) := by decide +kernel
theorem d_ClaimsReader_standsHere_12 : decode b_ClaimsReader_standsHere 12 = .ok (.getfield 19, 3) := by decide +kernel
theorem d_ClaimsReader_standsHere_15 : decode b_ClaimsReader_standsHere 15 = .ok (.iload_n 3, 1) := by decide +kernel
theorem d_ClaimsReader_standsHere_16 : decode b_ClaimsReader_standsHere 16 = .ok (.iadd, 1) := by decide +kernel
theorem d_ClaimsReader_standsHere_17 : decode b_ClaimsReader_standsHere 17 = .ok (.invokevirtual 51, 3) := by decide +kernel
theorem d_ClaimsReader_standsHere_20 : decode b_ClaimsReader_standsHere 20 = .ok (.aload_n 2, 1) := by decide +kernel
theorem d_ClaimsReader_standsHere_21 : decode b_ClaimsReader_standsHere 21 = .ok (.iload_n 3, 1) := by decide +kernel
theorem d_ClaimsReader_standsHere_22 : decode b_ClaimsReader_standsHere 22 = .ok (.invokevirtual 68, 3) := by decide +kernel
theorem d_ClaimsReader_standsHere_25 : decode b_ClaimsReader_standsHere 25 = .ok (.if_icmp .eq 5, 3) := by decide +kernel
theorem d_ClaimsReader_standsHere_28 : decode b_ClaimsReader_standsHere 28 = .ok (.iconst 0, 1) := by decide +kernel
theorem d_ClaimsReader_standsHere_29 : decode b_ClaimsReader_standsHere 29 = .ok (.ireturn, 1) := by decide +kernel
theorem d_ClaimsReader_standsHere_30 : decode b_ClaimsReader_standsHere 30 = .ok (.iinc 3 1, 3) := by decide +kernel
theorem d_ClaimsReader_standsHere_33 : decode b_ClaimsReader_standsHere 33 = .ok (.goto (-31), 3) := by decide +kernel
theorem d_ClaimsReader_standsHere_36 : decode b_ClaimsReader_standsHere 36 = .ok (.iconst 1, 1) := by decide +kernel
theorem d_ClaimsReader_standsHere_37 : decode b_ClaimsReader_standsHere 37 = .ok (.ireturn, 1) := by decide +kernel
theorem d_ClaimsReader_readNumber_0 : decode b_ClaimsReader_readNumber 0 = .ok (.aload_n 1, 1) := by decide +kernel
theorem d_ClaimsReader_readNumber_1 : decode b_ClaimsReader_readNumber 1 = .ok (.aload_n 0, 1) := by decide +kernel
theorem d_ClaimsReader_readNumber_2 : decode b_ClaimsReader_readNumber 2 = .ok (.getfield 19, 3) := by decide +kernel
theorem d_ClaimsReader_readNumber_5 : decode b_ClaimsReader_readNumber 5 = .ok (.invokevirtual 51, 3) := by decide +kernel
theorem d_ClaimsReader_readNumber_8 : decode b_ClaimsReader_readNumber 8 = .ok (.bipush 48, 2) := by decide +kernel
theorem d_ClaimsReader_readNumber_10 : decode b_ClaimsReader_readNumber 10 = .ok (.if_icmp .ne 15, 3) := by decide +kernel
theorem d_ClaimsReader_readNumber_13 : decode b_ClaimsReader_readNumber 13 = .ok (.aload_n 0, 1) := by decide +kernel
theorem d_ClaimsReader_readNumber_14 : decode b_ClaimsReader_readNumber 14 = .ok (.dup, 1) := by decide +kernel
theorem d_ClaimsReader_readNumber_15 : decode b_ClaimsReader_readNumber 15 = .ok (.getfield 19, 3) := by decide +kernel
theorem d_ClaimsReader_readNumber_18 : decode b_ClaimsReader_readNumber 18 = .ok (.iconst 1, 1) := by decide +kernel
theorem d_ClaimsReader_readNumber_19 : decode b_ClaimsReader_readNumber 19 = .ok (.iadd, 1) := by decide +kernel
theorem d_ClaimsReader_readNumber_20 : decode b_ClaimsReader_readNumber 20 = .ok (.putfield 19, 3) := by decide +kernel
theorem d_ClaimsReader_readNumber_23 : decode b_ClaimsReader_readNumber 23 = .ok (.iconst 0, 1) := by decide +kernel
theorem d_ClaimsReader_readNumber_24 : decode b_ClaimsReader_readNumber 24 = .ok (.ireturn, 1) := by decide +kernel
theorem d_ClaimsReader_readNumber_25 : decode b_ClaimsReader_readNumber 25 = .ok (.iconst 0, 1) := by decide +kernel
theorem d_ClaimsReader_readNumber_26 : decode b_ClaimsReader_readNumber 26 = .ok (.istore_n 2, 1) := by decide +kernel
theorem d_ClaimsReader_readNumber_27 : decode b_ClaimsReader_readNumber 27 = .ok (.iconst 0, 1) := by decide +kernel
theorem d_ClaimsReader_readNumber_28 : decode b_ClaimsReader_readNumber 28 = .ok (.istore_n 3, 1) := by decide +kernel
theorem d_ClaimsReader_readNumber_29 : decode b_ClaimsReader_readNumber 29 = .ok (.iload_n 3, 1) := by decide +kernel
theorem d_ClaimsReader_readNumber_30 : decode b_ClaimsReader_readNumber 30 = .ok (.bipush 9, 2) := by decide +kernel
theorem d_ClaimsReader_readNumber_32 : decode b_ClaimsReader_readNumber 32 = .ok (.if_icmp .ge 50, 3) := by decide +kernel
theorem d_ClaimsReader_readNumber_35 : decode b_ClaimsReader_readNumber 35 = .ok (.aload_n 1, 1) := by decide +kernel
theorem d_ClaimsReader_readNumber_36 : decode b_ClaimsReader_readNumber 36 = .ok (.aload_n 0, 1) := by decide +kernel
theorem d_ClaimsReader_readNumber_37 : decode b_ClaimsReader_readNumber 37 = .ok (.getfield 19, 3) := by decide +kernel
theorem d_ClaimsReader_readNumber_40 : decode b_ClaimsReader_readNumber 40 = .ok (.invokevirtual 51, 3) := by decide +kernel
theorem d_ClaimsReader_readNumber_43 : decode b_ClaimsReader_readNumber 43 = .ok (.invokestatic 72, 3) := by decide +kernel
theorem d_ClaimsReader_readNumber_46 : decode b_ClaimsReader_readNumber 46 = .ok (.ifCond .eq 36, 3) := by decide +kernel
theorem d_ClaimsReader_readNumber_49 : decode b_ClaimsReader_readNumber 49 = .ok (.iload_n 2, 1) := by decide +kernel
theorem d_ClaimsReader_readNumber_50 : decode b_ClaimsReader_readNumber 50 = .ok (.bipush 10, 2) := by decide +kernel
theorem d_ClaimsReader_readNumber_52 : decode b_ClaimsReader_readNumber 52 = .ok (.imul, 1) := by decide +kernel
theorem d_ClaimsReader_readNumber_53 : decode b_ClaimsReader_readNumber 53 = .ok (.aload_n 1, 1) := by decide +kernel
theorem d_ClaimsReader_readNumber_54 : decode b_ClaimsReader_readNumber 54 = .ok (.aload_n 0, 1) := by decide +kernel
theorem d_ClaimsReader_readNumber_55 : decode b_ClaimsReader_readNumber 55 = .ok (.getfield 19, 3) := by decide +kernel
theorem d_ClaimsReader_readNumber_58 : decode b_ClaimsReader_readNumber 58 = .ok (.invokevirtual 51, 3) := by decide +kernel
theorem d_ClaimsReader_readNumber_61 : decode b_ClaimsReader_readNumber 61 = .ok (.iadd, 1) := by decide +kernel
theorem d_ClaimsReader_readNumber_62 : decode b_ClaimsReader_readNumber 62 = .ok (.bipush 48, 2) := by decide +kernel
theorem d_ClaimsReader_readNumber_64 : decode b_ClaimsReader_readNumber 64 = .ok (.isub, 1) := by decide +kernel
theorem d_ClaimsReader_readNumber_65 : decode b_ClaimsReader_readNumber 65 = .ok (.istore_n 2, 1) := by decide +kernel
theorem d_ClaimsReader_readNumber_66 : decode b_ClaimsReader_readNumber 66 = .ok (.aload_n 0, 1) := by decide +kernel
theorem d_ClaimsReader_readNumber_67 : decode b_ClaimsReader_readNumber 67 = .ok (.dup, 1) := by decide +kernel
theorem d_ClaimsReader_readNumber_68 : decode b_ClaimsReader_readNumber 68 = .ok (.getfield 19, 3) := by decide +kernel
theorem d_ClaimsReader_readNumber_71 : decode b_ClaimsReader_readNumber 71 = .ok (.iconst 1, 1) := by decide +kernel
theorem d_ClaimsReader_readNumber_72 : decode b_ClaimsReader_readNumber 72 = .ok (.iadd, 1) := by decide +kernel
theorem d_ClaimsReader_readNumber_73 : decode b_ClaimsReader_readNumber 73 = .ok (.putfield 19, 3) := by decide +kernel
theorem d_ClaimsReader_readNumber_76 : decode b_ClaimsReader_readNumber 76 = .ok (.iinc 3 1, 3) := by decide +kernel
theorem d_ClaimsReader_readNumber_79 : decode b_ClaimsReader_readNumber 79 = .ok (.goto (-50), 3) := by decide +kernel
theorem d_ClaimsReader_readNumber_82 : decode b_ClaimsReader_readNumber 82 = .ok (.iload_n 3, 1) := by decide +kernel
theorem d_ClaimsReader_readNumber_83 : decode b_ClaimsReader_readNumber 83 = .ok (.ifCond .ne 7, 3) := by decide +kernel
theorem d_ClaimsReader_readNumber_86 : decode b_ClaimsReader_readNumber 86 = .ok (.iconst (-1), 1) := by decide +kernel
theorem d_ClaimsReader_readNumber_87 : decode b_ClaimsReader_readNumber 87 = .ok (.goto 4, 3) := by decide +kernel
theorem d_ClaimsReader_readNumber_90 : decode b_ClaimsReader_readNumber 90 = .ok (.iload_n 2, 1) := by decide +kernel
theorem d_ClaimsReader_readNumber_91 : decode b_ClaimsReader_readNumber 91 = .ok (.ireturn, 1) := by decide +kernel
theorem d_ClaimsReader_skipSpaces_0 : decode b_ClaimsReader_skipSpaces 0 = .ok (.aload_n 0, 1) := by decide +kernel
theorem d_ClaimsReader_skipSpaces_1 : decode b_ClaimsReader_skipSpaces 1 = .ok (.getfield 19, 3) := by decide +kernel
theorem d_ClaimsReader_skipSpaces_4 : decode b_ClaimsReader_skipSpaces 4 = .ok (.aload_n 1, 1) := by decide +kernel
theorem d_ClaimsReader_skipSpaces_5 : decode b_ClaimsReader_skipSpaces 5 = .ok (.invokevirtual 34, 3) := by decide +kernel
theorem d_ClaimsReader_skipSpaces_8 : decode b_ClaimsReader_skipSpaces 8 = .ok (.if_icmp .ge 29, 3) := by decide +kernel
theorem d_ClaimsReader_skipSpaces_11 : decode b_ClaimsReader_skipSpaces 11 = .ok (.aload_n 1, 1) := by decide +kernel
theorem d_ClaimsReader_skipSpaces_12 : decode b_ClaimsReader_skipSpaces 12 = .ok (.aload_n 0, 1) := by decide +kernel
theorem d_ClaimsReader_skipSpaces_13 : decode b_ClaimsReader_skipSpaces 13 = .ok (.getfield 19, 3) := by decide +kernel
theorem d_ClaimsReader_skipSpaces_16 : decode b_ClaimsReader_skipSpaces 16 = .ok (.invokevirtual 51, 3) := by decide +kernel
theorem d_ClaimsReader_skipSpaces_19 : decode b_ClaimsReader_skipSpaces 19 = .ok (.bipush 32, 2) := by decide +kernel
theorem d_ClaimsReader_skipSpaces_21 : decode b_ClaimsReader_skipSpaces 21 = .ok (.if_icmp .ne 16, 3) := by decide +kernel
theorem d_ClaimsReader_skipSpaces_24 : decode b_ClaimsReader_skipSpaces 24 = .ok (.aload_n 0, 1) := by decide +kernel
theorem d_ClaimsReader_skipSpaces_25 : decode b_ClaimsReader_skipSpaces 25 = .ok (.dup, 1) := by decide +kernel
theorem d_ClaimsReader_skipSpaces_26 : decode b_ClaimsReader_skipSpaces 26 = .ok (.getfield 19, 3) := by decide +kernel
theorem d_ClaimsReader_skipSpaces_29 : decode b_ClaimsReader_skipSpaces 29 = .ok (.iconst 1, 1) := by decide +kernel
theorem d_ClaimsReader_skipSpaces_30 : decode b_ClaimsReader_skipSpaces 30 = .ok (.iadd, 1) := by decide +kernel
theorem d_ClaimsReader_skipSpaces_31 : decode b_ClaimsReader_skipSpaces 31 = .ok (.putfield 19, 3) := by decide +kernel
theorem d_ClaimsReader_skipSpaces_34 : decode b_ClaimsReader_skipSpaces 34 = .ok (.goto (-34), 3) := by decide +kernel
theorem d_ClaimsReader_skipSpaces_37 : decode b_ClaimsReader_skipSpaces 37 = .ok (.return_, 1) := by decide +kernel
theorem d_ClaimsReader_isDigit_0 : decode b_ClaimsReader_isDigit 0 = .ok (.iload_n 0, 1) := by decide +kernel
theorem d_ClaimsReader_isDigit_1 : decode b_ClaimsReader_isDigit 1 = .ok (.bipush 48, 2) := by decide +kernel
theorem d_ClaimsReader_isDigit_3 : decode b_ClaimsReader_isDigit 3 = .ok (.if_icmp .lt 13, 3) := by decide +kernel
theorem d_ClaimsReader_isDigit_6 : decode b_ClaimsReader_isDigit 6 = .ok (.iload_n 0, 1) := by decide +kernel
theorem d_ClaimsReader_isDigit_7 : decode b_ClaimsReader_isDigit 7 = .ok (.bipush 57, 2) := by decide +kernel
theorem d_ClaimsReader_isDigit_9 : decode b_ClaimsReader_isDigit 9 = .ok (.if_icmp .gt 7, 3) := by decide +kernel
theorem d_ClaimsReader_isDigit_12 : decode b_ClaimsReader_isDigit 12 = .ok (.iconst 1, 1) := by decide +kernel
theorem d_ClaimsReader_isDigit_13 : decode b_ClaimsReader_isDigit 13 = .ok (.goto 4, 3) := by decide +kernel
theorem d_ClaimsReader_isDigit_16 : decode b_ClaimsReader_isDigit 16 = .ok (.iconst 0, 1) := by decide +kernel
theorem d_ClaimsReader_isDigit_17 : decode b_ClaimsReader_isDigit 17 = .ok (.ireturn, 1) := by decide +kernel
theorem d_ClaimsReader_quotedName_0 : decode b_ClaimsReader_quotedName 0 = .ok (.iload_n 0, 1) := by decide +kernel
theorem d_ClaimsReader_quotedName_1 : decode b_ClaimsReader_quotedName 1 = .ok (.tableswitch 43 0 3 #[31, 34, 37, 40], 31) := by decide +kernel
theorem d_ClaimsReader_quotedName_32 : decode b_ClaimsReader_quotedName 32 = .ok (.ldc 76, 2) := by decide +kernel
theorem d_ClaimsReader_quotedName_34 : decode b_ClaimsReader_quotedName 34 = .ok (.areturn, 1) := by decide +kernel
theorem d_ClaimsReader_quotedName_35 : decode b_ClaimsReader_quotedName 35 = .ok (.ldc 78, 2) := by decide +kernel
theorem d_ClaimsReader_quotedName_37 : decode b_ClaimsReader_quotedName 37 = .ok (.areturn, 1) := by decide +kernel
theorem d_ClaimsReader_quotedName_38 : decode b_ClaimsReader_quotedName 38 = .ok (.ldc 80, 2) := by decide +kernel
theorem d_ClaimsReader_quotedName_40 : decode b_ClaimsReader_quotedName 40 = .ok (.areturn, 1) := by decide +kernel
theorem d_ClaimsReader_quotedName_41 : decode b_ClaimsReader_quotedName 41 = .ok (.ldc 82, 2) := by decide +kernel
theorem d_ClaimsReader_quotedName_43 : decode b_ClaimsReader_quotedName 43 = .ok (.areturn, 1) := by decide +kernel
theorem d_ClaimsReader_quotedName_44 : decode b_ClaimsReader_quotedName 44 = .ok (.ldc 84, 2) := by decide +kernel
theorem d_ClaimsReader_quotedName_46 : decode b_ClaimsReader_quotedName 46 = .ok (.areturn, 1) := by decide +kernel
set_option maxRecDepth 20000 in
theorem fl_ClaimsReader_11 : hm_fl vwCl TB R_ClaimsReader 11 7 0 true (.array .int) := ⟨_, _, _, _, cl_ClaimsReader, by decide, (TBm 144 (by decide +kernel) rfl), rfl, rfl⟩
set_option maxRecDepth 20000 in
theorem fl_ClaimsReader_15 : hm_fl vwCl TB R_ClaimsReader 15 7 1 true (.array .boolean) := ⟨_, _, _, _, cl_ClaimsReader, by decide, (TBm 145 (by decide +kernel) rfl), rfl, rfl⟩
set_option maxRecDepth 20000 in
theorem me_ClaimsReader_begin : hm_meV y_ClaimsReader_begin b_ClaimsReader_begin 2 none 0 := ⟨⟨(TBm 563 rfl rfl), (TBm 44 (by decide +kernel) rfl), by decide +kernel⟩, (TBm 562 (by decide +kernel) rfl), (TBm 8 (by decide +kernel) rfl)⟩
set_option maxRecDepth 20000 in
theorem me_ClaimsReader_isDigit : hm_meS y_ClaimsReader_isDigit b_ClaimsReader_isDigit 1 (some .boolean) 1 := ⟨⟨(TBm 602 rfl rfl), (TBm 44 (by decide +kernel) rfl), by decide +kernel⟩, (TBm 601 (by decide +kernel) rfl)⟩
set_option maxRecDepth 20000 in
theorem me_ClaimsReader_quotedName : hm_meS y_ClaimsReader_quotedName b_ClaimsReader_quotedName 1 (some (.object "java/lang/String")) 1 := ⟨⟨(TBm 584 rfl rfl), (TBm 44 (by decide +kernel) rfl), by decide +kernel⟩, (TBm 583 (by decide +kernel) rfl)⟩
set_option maxRecDepth 20000 in
theorem me_ClaimsReader_readName : hm_meV y_ClaimsReader_readName b_ClaimsReader_readName 4 (some .int) 1 := ⟨⟨(TBm 581 rfl rfl), (TBm 44 (by decide +kernel) rfl), by decide +kernel⟩, (TBm 580 (by decide +kernel) rfl), (TBm 12 (by decide +kernel) rfl)⟩
set_option maxRecDepth 20000 in
theorem me_ClaimsReader_readNumber : hm_meV y_ClaimsReader_readNumber b_ClaimsReader_readNumber 4 (some .int) 1 := ⟨⟨(TBm 599 rfl rfl), (TBm 44 (by decide +kernel) rfl), by decide +kernel⟩, (TBm 598 (by decide +kernel) rfl), (TBm 14 (by decide +kernel) rfl)⟩
set_option maxRecDepth 20000 in
theorem me_ClaimsReader_readsMark : hm_meV y_ClaimsReader_readsMark b_ClaimsReader_readsMark 3 (some .boolean) 2 := ⟨⟨(TBm 567 rfl rfl), (TBm 44 (by decide +kernel) rfl), by decide +kernel⟩, (TBm 566 (by decide +kernel) rfl), (TBm 9 (by decide +kernel) rfl)⟩
set_option maxRecDepth 20000 in
theorem me_ClaimsReader_readsMember : hm_meV y_ClaimsReader_readsMember b_ClaimsReader_readsMember 3 (some .boolean) 1 := ⟨⟨(TBm 577 rfl rfl), (TBm 44 (by decide +kernel) rfl), by decide +kernel⟩, (TBm 576 (by decide +kernel) rfl), (TBm 11 (by decide +kernel) rfl)⟩
set_option maxRecDepth 20000 in
theorem me_ClaimsReader_skipSpaces : hm_meV y_ClaimsReader_skipSpaces b_ClaimsReader_skipSpaces 2 none 1 := ⟨⟨(TBm 571 rfl rfl), (TBm 44 (by decide +kernel) rfl), by decide +kernel⟩, (TBm 570 (by decide +kernel) rfl), (TBm 10 (by decide +kernel) rfl)⟩
set_option maxRecDepth 20000 in
theorem me_ClaimsReader_standsHere : hm_meV y_ClaimsReader_standsHere b_ClaimsReader_standsHere 4 (some .boolean) 2 := ⟨⟨(TBm 593 rfl rfl), (TBm 44 (by decide +kernel) rfl), by decide +kernel⟩, (TBm 592 (by decide +kernel) rfl), (TBm 13 (by decide +kernel) rfl)⟩
set_option maxRecDepth 20000 in
theorem wl_ClaimsReader_23 : Cond.methodLink R_ClaimsReader 23 y_ClaimsReader_begin ∈ TB := TBm 560 (by decide +kernel) rfl
set_option maxRecDepth 20000 in
theorem wl_ClaimsReader_26 : Cond.methodLink R_ClaimsReader 26 y_ClaimsReader_readsMark ∈ TB := TBm 564 (by decide +kernel) rfl
set_option maxRecDepth 20000 in
theorem wl_ClaimsReader_30 : Cond.methodLink R_ClaimsReader 30 y_ClaimsReader_readsMember ∈ TB := TBm 574 (by decide +kernel) rfl
set_option maxRecDepth 20000 in
theorem wl_ClaimsReader_34 : Cond.methodLink R_ClaimsReader 34 y_Text_size ∈ TB := TBm 572 (by decide +kernel) rfl
set_option maxRecDepth 20000 in
theorem wl_ClaimsReader_40 : Cond.methodLink R_ClaimsReader 40 y_ClaimsReader_readName ∈ TB := TBm 578 (by decide +kernel) rfl
set_option maxRecDepth 20000 in
theorem wl_ClaimsReader_44 : Cond.methodLink R_ClaimsReader 44 y_ClaimsReader_readNumber ∈ TB := TBm 596 (by decide +kernel) rfl
set_option maxRecDepth 20000 in
theorem wl_ClaimsReader_47 : Cond.methodLink R_ClaimsReader 47 y_ClaimsReader_skipSpaces ∈ TB := TBm 568 (by decide +kernel) rfl
set_option maxRecDepth 20000 in
theorem wl_ClaimsReader_51 : Cond.methodLink R_ClaimsReader 51 y_Text_codeAt ∈ TB := TBm 573 (by decide +kernel) rfl
set_option maxRecDepth 20000 in
theorem wl_ClaimsReader_55 : Cond.methodLink R_ClaimsReader 55 y_ClaimsReader_quotedName ∈ TB := TBm 582 (by decide +kernel) rfl
set_option maxRecDepth 20000 in
theorem wl_ClaimsReader_59 : Cond.methodLink R_ClaimsReader 59 y_ClaimsReader_standsHere ∈ TB := TBm 590 (by decide +kernel) rfl
set_option maxRecDepth 20000 in
theorem wl_ClaimsReader_63 : Cond.methodLink R_ClaimsReader 63 y_JString_length ∈ TB := TBm 594 (by decide +kernel) rfl
set_option maxRecDepth 20000 in
theorem wl_ClaimsReader_68 : Cond.methodLink R_ClaimsReader 68 y_JString_charAt ∈ TB := TBm 595 (by decide +kernel) rfl
set_option maxRecDepth 20000 in
theorem wl_ClaimsReader_72 : Cond.methodLink R_ClaimsReader 72 y_ClaimsReader_isDigit ∈ TB := TBm 600 (by decide +kernel) rfl
set_option maxHeartbeats 4000000 in
set_option maxRecDepth 100000 in
theorem c_value (l : Launch) (D : va_G) (k : Nat → ClassId) (f : hm) (h : Nat) (va : Nat) (sa : Nat) (z : Int32) (rd : Nat → Int32) (j : Nat) (hh : f h = some (.inr (7, [.ref va, .ref sa, .int z]))) (hva : f va = some (.inl (k 0, 5, .inl rd))) (hj : j < 5) : hm_Mi l D vwCl (tyL k) y_ClaimsReader_value (Cond.code y_ClaimsReader_value b_ClaimsReader_value 2 (some .int) :: TB) ({ frames := 0, cells := 0, slots := 0, locals := 0 }) [.ref h, .int (nI j)] f (fun (r : Int32) (f1 : hm) => rd j = r ∧ f = f1) 0 0 := by
  refine hm_enter (Qc := fun sz => va_Qi _ (hm_R D vwCl (tyL k) f sz) (hm_A f sz)) (by decide) rfl (Nat.le_of_ble_eq_true rfl) ?_
  intro pg e s m below meth cd ls X0 hr hlk hin hK hM hS hA hl Q hQ
  have X : CallFix pg m cd b_ClaimsReader_value 2 s ([.ref h, .int (nI j)] : List Value).toArray TB R_ClaimsReader := ⟨X0.1, X0.2.1, X0.2.2.1, X0.2.2.2.1, fun w h => X0.2.2.2.2 w (List.mem_cons_of_mem _ h)⟩
  have hx := X.1; have hb := X.2.1; have hml := X.2.2.1; have hown := X.2.2.2.1; have hts := X.2.2.2.2
  have hl : lv_has ls 2 [(0, .ref h), (1, .int (nI j))] := hl
  refine lv_iload_n hx hb d_ClaimsReader_value_0 rfl (lv_at hl 1 rfl) ?_
  refine lv_if_lt (tgt := 18) hx hb d_ClaimsReader_value_1 (by decide) (fun h1 => ?_) (fun h1 => ?_)
  · exact absurd h1 (nI_pos (by omega))
  · refine lv_iload_n hx hb d_ClaimsReader_value_4 rfl (lv_at hl 1 rfl) ?_
    refine lv_iconst (v := 5) hx hb d_ClaimsReader_value_5 (by decide) ?_
    refine lv_icmp_ge (tgt := 18) hx hb d_ClaimsReader_value_6 (by decide) (fun h2 => ?_) (fun h2 => ?_)
    · exact absurd h2 (nI_ge (b := 5) hj (by decide))
    · refine lv_aload_n hx hb d_ClaimsReader_value_9 rfl (lv_at hl 0 rfl) ?_
      refine hm_get X hK hM hh fl_ClaimsReader_11 (v := .ref va) rfl d_ClaimsReader_value_10 ?_
      refine lv_iload_n hx hb d_ClaimsReader_value_13 rfl (lv_at hl 1 rfl) ?_
      refine hm_iald X hK hM hva 0 rfl j rfl hj (by decide) d_ClaimsReader_value_14 ?_
      refine lv_goto (tgt := 19) hx hb d_ClaimsReader_value_15 (by decide) ?_
      exact hm_iret X hQ hr hlk hK hM hS d_ClaimsReader_value_19 ⟨rfl, rfl⟩
set_option maxHeartbeats 4000000 in
set_option maxRecDepth 100000 in
theorem c_begin (l : Launch) (D : va_G) (k : Nat → ClassId) (f : hm) (h : Nat) (va : Nat) (sa : Nat) (z : Int32) (rs : Nat → Int32) (hh : f h = some (.inr (7, [.ref va, .ref sa, .int z]))) (hsa : f sa = some (.inl (k 1, 5, .inl rs))) : hm_Mv l D vwCl (tyL k) y_ClaimsReader_begin (Cond.code y_ClaimsReader_begin b_ClaimsReader_begin 2 none :: TB) ({ frames := 0, cells := 0, slots := 0, locals := 0 }) [.ref h] f (fun (f1 : hm) => f1 h = some (.inr (7, [.ref va, .ref sa, .int (nI 0)])) ∧ f1 sa = some (.inl (k 1, 5, .inl (z_clr rs 5))) ∧ ∀ (zq : Nat) (zx : va_E), zq ≠ h → zq ≠ sa → f zq = some zx → f1 zq = some zx) 0 0 := by
  refine hm_enter (Qc := fun sz => va_Qv _ (hm_R D vwCl (tyL k) f sz) (hm_A f sz)) (by decide) rfl (Nat.le_of_ble_eq_true rfl) ?_
  intro pg e s m below meth cd ls X0 hr hlk hin hK hM hS hA hl Q hQ
  have X : CallFix pg m cd b_ClaimsReader_begin 2 s ([.ref h] : List Value).toArray TB R_ClaimsReader := ⟨X0.1, X0.2.1, X0.2.2.1, X0.2.2.2.1, fun w h => X0.2.2.2.2 w (List.mem_cons_of_mem _ h)⟩
  have hx := X.1; have hb := X.2.1; have hml := X.2.2.1; have hown := X.2.2.2.1; have hts := X.2.2.2.2
  have hl : lv_has ls 2 [(0, .ref h)] := hl
  refine lv_aload_n hx hb d_ClaimsReader_begin_0 rfl (lv_at hl 0 rfl) ?_
  refine lv_iconst (v := 0) hx hb d_ClaimsReader_begin_1 (by decide) ?_
  refine hm_put X hK hM hS (fs' := [.ref va, .ref sa, .int 0]) hh fl_ClaimsReader_19 rfl rfl (Nat.le_of_ble_eq_true rfl) rfl d_ClaimsReader_begin_2 (fun f1 H locs e2 hM hS => ?_)
  refine lv_iconst (v := 0) hx hb d_ClaimsReader_begin_5 (by decide) ?_
  refine lv_istore_n (lv' := [(1, .int 0), (0, .ref h)]) hx hb d_ClaimsReader_begin_6 rfl hl (by decide) rfl (fun ls hl => ?_)
  have g3 : f1 h = some (.inr (7, [.ref va, .ref sa, .int 0])) := by rw [e2, hm_up_s]
  have g4 : f1 sa = some (.inl (k 1, 5, .inl rs)) := by rw [e2, hm_up_n ((hm_neA hh hsa).symm)]; exact hsa
  have loop7 : ∀ (fu : Nat) (j : Nat) (fL : hm) (H : Heap) (locs : List Loc) (ls : Array Slot) (hmu : 5 - j < fu) (hj : j ≤ 5) (hh : fL h = some (.inr (7, [.ref va, .ref sa, .int (nI 0)]))) (hsa : fL sa = some (.inl (k 1, 5, .inl (z_clr rs j)))) (hfr : ∀ (q : Nat) (x : va_E), q ≠ h → q ≠ sa → f q = some x → fL q = some x) (hM : hm_W D vwCl (hm_A f s.heap.size) fL H) (hS : va_S (hm_A f s.heap.size) s.heap H locs) (hl : lv_has ls 2 [(0, .ref h), (1, .int (nI j))]), W pg l e ({ frames := 0, cells := 0, slots := 0, locals := 0 }) s m ([.ref h] : List Value).toArray below meth cd H locs 0 0 Q (F0 m 7 ls []) := by
    intro fu
    induction fu with
    | zero => intro j fL H locs ls hmu; exact absurd hmu (Nat.not_lt_zero _)
    | succ fu ih =>
      intro j fL H locs ls hmu hj hh hsa hfr hM hS hl
      refine lv_iload_n hx hb d_ClaimsReader_begin_7 rfl (lv_at hl 1 rfl) ?_
      refine lv_iconst (v := 5) hx hb d_ClaimsReader_begin_8 (by decide) ?_
      refine lv_icmp_ge (tgt := 25) hx hb d_ClaimsReader_begin_9 (by decide) (fun h5 => ?_) (fun h5 => ?_)
      · have hge : j = 5 := by have z2 := (nI_leI (a := 5) (b := j) (by decide) (by omega)).mp h5; omega
        subst hge
        exact hm_vret X hQ hr hlk hK hM hS d_ClaimsReader_begin_25 ⟨hh, hsa, hfr⟩
      · have hlt : j < 5 := by have z2 := mt (nI_leI (a := 5) (b := j) (by decide) (by omega)).mpr h5; omega
        refine lv_aload_n hx hb d_ClaimsReader_begin_12 rfl (lv_at hl 0 rfl) ?_
        refine hm_get X hK hM hh fl_ClaimsReader_15 (v := .ref sa) rfl d_ClaimsReader_begin_13 ?_
        refine lv_iload_n hx hb d_ClaimsReader_begin_16 rfl (lv_at hl 1 rfl) ?_
        refine lv_iconst (v := 0) hx hb d_ClaimsReader_begin_17 (by decide) ?_
        refine hm_zast X hK hM hS hsa 1 rfl j rfl hlt (by decide) (y := 0) rfl d_ClaimsReader_begin_18 (fun f6 H locs e7 hM hS => ?_)
        refine lv_iinc (lv' := [(1, .int (nI (j + 1))), (0, .ref h)]) hx hb d_ClaimsReader_begin_19 hl (k := 1) rfl (hm_inc _) (by decide) rfl (fun ls hl => ?_)
        refine lv_goto (tgt := 7) hx hb d_ClaimsReader_begin_22 (by decide) ?_
        have g8 : f6 sa = some (.inl (k 1, 5, .inl (upd (z_clr rs j) j 0))) := by rw [e7, hm_up_s]
        have hsa9 : f6 sa = some (.inl (k 1, 5, .inl (z_clr rs (j + 1)))) := by rw [← z_clr_1]; exact g8
        have g9 : f6 h = some (.inr (7, [.ref va, .ref sa, .int (nI 0)])) := by rw [e7, hm_up_n (hm_neA hh hsa)]; exact hh
        exact ih (j + 1) f6 H locs ls (by omega) (by omega) g9 hsa9 (fun zq zx n0 n1 hq => by have t0 := hfr _ _ n0 n1 hq; have t1 := hm_keep e7 n1 t0; exact t1) hM hS (lv_sub hl [1, 0] rfl)
  have hsa0 : f1 sa = some (.inl (k 1, 5, .inl (z_clr rs 0))) := by rw [z_clr_0]; exact g4
  exact loop7 _ 0 f1 H locs ls (Nat.lt_succ_self _) (Nat.zero_le _) g3 hsa0 (fun zq zx n0 n1 hq => by have t0 := hq; have t1 := hm_keep e2 n0 t0; exact t1) hM hS (lv_sub hl [1, 0] rfl)
set_option maxHeartbeats 4000000 in
set_option maxRecDepth 100000 in
theorem c_skipSpaces (l : Launch) (D : va_G) (k : Nat → ClassId) (f : hm) (h : Nat) (va : Nat) (sa : Nat) (p : Nat) (t : Nat) (a : Nat) (n : Nat) (x : Nat → Int32) (hh : f h = some (.inr (7, [.ref va, .ref sa, .int (nI p)]))) (ht : f t = some (.inr (5, [.ref a, .int (nI n)]))) (ha : f a = some (.inl (k 2, 120, .inl x))) (hn : n ≤ 120) (hp : p ≤ n) : hm_Mv l D vwCl (tyL k) y_ClaimsReader_skipSpaces (Cond.code y_ClaimsReader_skipSpaces b_ClaimsReader_skipSpaces 2 none :: TB) ({ frames := 1, cells := 0, slots := 0, locals := 21 }) [.ref h, .ref t] f (fun (f1 : hm) => f1 h = some (.inr (7, [.ref va, .ref sa, .int (nI (z_sk n x p))])) ∧ ∀ (zq : Nat) (zx : va_E), zq ≠ h → f zq = some zx → f1 zq = some zx) 0 0 := by
  refine hm_enter (Qc := fun sz => va_Qv _ (hm_R D vwCl (tyL k) f sz) (hm_A f sz)) (by decide) rfl (Nat.le_of_ble_eq_true rfl) ?_
  intro pg e s m below meth cd ls X0 hr hlk hin hK hM hS hA hl Q hQ
  have X : CallFix pg m cd b_ClaimsReader_skipSpaces 2 s ([.ref h, .ref t] : List Value).toArray TB R_ClaimsReader := ⟨X0.1, X0.2.1, X0.2.2.1, X0.2.2.2.1, fun w h => X0.2.2.2.2 w (List.mem_cons_of_mem _ h)⟩
  have hx := X.1; have hb := X.2.1; have hml := X.2.2.1; have hown := X.2.2.2.1; have hts := X.2.2.2.2
  have hl : lv_has ls 2 [(0, .ref h), (1, .ref t)] := hl
  have loop0 : ∀ (fu : Nat) (p1 : Nat) (fL : hm) (H : Heap) (locs : List Loc) (ls : Array Slot) (hmu : n - p1 < fu) (hp1 : p1 ≤ n) (hsk : z_sk n x p = z_sk n x p1) (hh : fL h = some (.inr (7, [.ref va, .ref sa, .int (nI p1)]))) (ht : fL t = some (.inr (5, [.ref a, .int (nI n)]))) (ha : fL a = some (.inl (k 2, 120, .inl x))) (hfr : ∀ (q : Nat) (x : va_E), q ≠ h → f q = some x → fL q = some x) (hM : hm_W D vwCl (hm_A f s.heap.size) fL H) (hS : va_S (hm_A f s.heap.size) s.heap H locs) (hl : lv_has ls 2 [(0, .ref h), (1, .ref t)]), W pg l e ({ frames := 1, cells := 0, slots := 0, locals := 21 }) s m ([.ref h, .ref t] : List Value).toArray below meth cd H locs 0 0 Q (F0 m 0 ls []) := by
    intro fu
    induction fu with
    | zero => intro p1 fL H locs ls hmu; exact absurd hmu (Nat.not_lt_zero _)
    | succ fu ih =>
      intro p1 fL H locs ls hmu hp1 hsk hh ht ha hfr hM hS hl
      refine lv_aload_n hx hb d_ClaimsReader_skipSpaces_0 rfl (lv_at hl 0 rfl) ?_
      refine hm_get X hK hM hh fl_ClaimsReader_19 (v := .int (nI p1)) rfl d_ClaimsReader_skipSpaces_1 ?_
      refine lv_aload_n hx hb d_ClaimsReader_skipSpaces_4 rfl (lv_at hl 1 rfl) ?_
      refine hm_calli hS hM hA (va_runV (As := []) (rest := [.int (nI p1)]) X (c_Text_size l D k fL t a (nI n) ht  H.size) (hm_cwV hts me_Text_size wl_ClaimsReader_34 rfl rfl ⟨Nat.le_of_ble_eq_true rfl, Nat.le_of_ble_eq_true rfl⟩) (hm_preV hM hK ht rfl) rfl rfl hl.1 rfl (lv_room (Nat.le_of_ble_eq_true rfl)) d_ClaimsReader_skipSpaces_5 ⟨Nat.le_of_ble_eq_true rfl, Nat.le_of_ble_eq_true rfl⟩) (fun r3 f1 H locs p2 hM hS => ?_)
      obtain ⟨rfl, rfl⟩ := p2
      refine lv_icmp_ge (tgt := 37) hx hb d_ClaimsReader_skipSpaces_8 (by decide) (fun h4 => ?_) (fun h4 => ?_)
      · have hend : z_sk n x p = p1 := hsk.trans (z_sk_n (fun z => by have z2 := (nI_leI (a := n) (b := p1) (by omega) (by omega)).mp h4; omega))
        exact hm_vret X hQ hr hlk hK hM hS d_ClaimsReader_skipSpaces_37 ⟨hend ▸ hh, hfr⟩
      · have hlt : p1 < n := by have z := mt (nI_leI (a := n) (b := p1) (by omega) (by omega)).mpr h4; omega
        refine lv_aload_n hx hb d_ClaimsReader_skipSpaces_11 rfl (lv_at hl 1 rfl) ?_
        refine lv_aload_n hx hb d_ClaimsReader_skipSpaces_12 rfl (lv_at hl 0 rfl) ?_
        refine hm_get X hK hM hh fl_ClaimsReader_19 (v := .int (nI p1)) rfl d_ClaimsReader_skipSpaces_13 ?_
        refine hm_calli hS hM hA (va_runV (As := [.int (nI p1)]) (rest := []) X (c_Text_codeAt l D k fL t a n x (nI p1) ht ha hn H.size) (hm_cwV hts me_Text_codeAt wl_ClaimsReader_51 rfl rfl ⟨Nat.le_of_ble_eq_true rfl, Nat.le_of_ble_eq_true rfl⟩) (hm_preV hM hK ht rfl) rfl rfl hl.1 rfl (lv_room (Nat.le_of_ble_eq_true rfl)) d_ClaimsReader_skipSpaces_16 ⟨Nat.le_of_ble_eq_true rfl, Nat.le_of_ble_eq_true rfl⟩) (fun r7 f5 H locs p6 hM hS => ?_)
        obtain ⟨rfl, rfl⟩ := p6
        refine lv_bipush (v := 32) hx hb d_ClaimsReader_skipSpaces_19 (by decide) ?_
        refine lv_icmp_ne (tgt := 37) hx hb d_ClaimsReader_skipSpaces_21 (by decide) (fun h8 => ?_) (fun h8 => ?_)
        · have hend : z_sk n x p = p1 := hsk.trans (z_sk_n (fun z => h8 ((z_at_eq (by decide) (by omega) (by omega)).mpr z)))
          exact hm_vret X hQ hr hlk hK hM hS d_ClaimsReader_skipSpaces_37 ⟨hend ▸ hh, hfr⟩
        · have hsp : x p1 = 32 := ((z_at_eq (by decide) (by omega) (by omega)).mp h8).2
          refine lv_aload_n hx hb d_ClaimsReader_skipSpaces_24 rfl (lv_at hl 0 rfl) ?_
          refine lv_dup hx hb d_ClaimsReader_skipSpaces_25 rfl ?_
          refine hm_get X hK hM hh fl_ClaimsReader_19 (v := .int (nI p1)) rfl d_ClaimsReader_skipSpaces_26 ?_
          refine lv_iconst (v := 1) hx hb d_ClaimsReader_skipSpaces_29 (by decide) ?_
          refine lv_iadd hx hb d_ClaimsReader_skipSpaces_30 ?_
          refine hm_top (nI_1 _) ?_
          refine hm_put X hK hM hS (fs' := [.ref va, .ref sa, .int (nI (p1 + 1))]) hh fl_ClaimsReader_19 rfl rfl (Nat.le_of_ble_eq_true rfl) rfl d_ClaimsReader_skipSpaces_31 (fun f9 H locs e10 hM hS => ?_)
          refine lv_goto (tgt := 0) hx hb d_ClaimsReader_skipSpaces_34 (by decide) ?_
          have g11 : f9 h = some (.inr (7, [.ref va, .ref sa, .int (nI (p1 + 1))])) := by rw [e10, hm_up_s]
          have g12 : f9 t = some (.inr (5, [.ref a, .int (nI n)])) := by rw [e10, hm_up_n (hm_neI ht hh (by decide))]; exact ht
          have g13 : f9 a = some (.inl (k 2, 120, .inl x)) := by rw [e10, hm_up_n ((hm_neA hh ha).symm)]; exact ha
          exact ih (p1 + 1) f9 H locs ls (by omega) (by omega) (hsk.trans (z_sk_y hlt hsp)) g11 g12 g13 (fun zq zx n0 hq => by have t0 := hfr _ _ n0 hq; have t1 := hm_keep e10 n0 t0; exact t1) hM hS (lv_sub hl [0, 1] rfl)
  exact loop0 _ p f s.heap [] ls (Nat.lt_succ_self _) hp rfl hh ht ha (fun q x n0 hq => hq) hM hS (lv_sub hl [0, 1] rfl)
set_option maxHeartbeats 4000000 in
set_option maxRecDepth 100000 in
theorem c_readsMark (l : Launch) (D : va_G) (k : Nat → ClassId) (f : hm) (h : Nat) (va : Nat) (sa : Nat) (p : Nat) (t : Nat) (a : Nat) (n : Nat) (x : Nat → Int32) (y : Int32) (hh : f h = some (.inr (7, [.ref va, .ref sa, .int (nI p)]))) (ht : f t = some (.inr (5, [.ref a, .int (nI n)]))) (ha : f a = some (.inl (k 2, 120, .inl x))) (hn : n ≤ 120) (hp : p ≤ n) (hy : ¬ y < 0) : hm_Mi l D vwCl (tyL k) y_ClaimsReader_readsMark (Cond.code y_ClaimsReader_readsMark b_ClaimsReader_readsMark 3 (some .boolean) :: TB) ({ frames := 2, cells := 0, slots := 0, locals := 42 }) [.ref h, .ref t, .int y] f (fun (r : Int32) (f1 : hm) => z_b (z_mk n x p y) = r ∧ f1 h = some (.inr (7, [.ref va, .ref sa, .int (nI (z_mkA n x p y))])) ∧ ∀ (zq : Nat) (zx : va_E), zq ≠ h → f zq = some zx → f1 zq = some zx) 0 0 := by
  refine hm_enter (Qc := fun sz => va_Qi _ (hm_R D vwCl (tyL k) f sz) (hm_A f sz)) (by decide) rfl (Nat.le_of_ble_eq_true rfl) ?_
  intro pg e s m below meth cd ls X0 hr hlk hin hK hM hS hA hl Q hQ
  have X : CallFix pg m cd b_ClaimsReader_readsMark 3 s ([.ref h, .ref t, .int y] : List Value).toArray TB R_ClaimsReader := ⟨X0.1, X0.2.1, X0.2.2.1, X0.2.2.2.1, fun w h => X0.2.2.2.2 w (List.mem_cons_of_mem _ h)⟩
  have hx := X.1; have hb := X.2.1; have hml := X.2.2.1; have hown := X.2.2.2.1; have hts := X.2.2.2.2
  have hl : lv_has ls 3 [(0, .ref h), (1, .ref t), (2, .int y)] := hl
  refine lv_aload_n hx hb d_ClaimsReader_readsMark_0 rfl (lv_at hl 0 rfl) ?_
  refine lv_aload_n hx hb d_ClaimsReader_readsMark_1 rfl (lv_at hl 1 rfl) ?_
  refine hm_callv hS hM hA (va_runV (As := [.ref t]) (rest := []) X (c_skipSpaces l D k f h va sa p t a n x hh ht ha hn hp s.heap.size) (hm_cwV hts me_ClaimsReader_skipSpaces wl_ClaimsReader_47 rfl rfl ⟨Nat.le_of_ble_eq_true rfl, Nat.le_of_ble_eq_true rfl⟩) (hm_preV hM hK hh rfl) rfl rfl hl.1 rfl (lv_room (Nat.le_of_ble_eq_true rfl)) d_ClaimsReader_readsMark_2 ⟨Nat.le_of_ble_eq_true rfl, Nat.le_of_ble_eq_true rfl⟩) (fun f1 H locs p2 hM hS => ?_)
  obtain ⟨g3, hfr4⟩ := p2
  refine lv_aload_n hx hb d_ClaimsReader_readsMark_5 rfl (lv_at hl 1 rfl) ?_
  refine lv_aload_n hx hb d_ClaimsReader_readsMark_6 rfl (lv_at hl 0 rfl) ?_
  refine hm_get X hK hM g3 fl_ClaimsReader_19 (v := .int (nI (z_sk n x p))) rfl d_ClaimsReader_readsMark_7 ?_
  have g5 : f1 t = some (.inr (5, [.ref a, .int (nI n)])) := hfr4 _ _ (hm_neI ht hh (by decide)) ht
  have g6 : f1 a = some (.inl (k 2, 120, .inl x)) := hfr4 _ _ ((hm_neA hh ha).symm) ha
  refine hm_calli hS hM hA (va_runV (As := [.int (nI (z_sk n x p))]) (rest := []) X (c_Text_codeAt l D k f1 t a n x (nI (z_sk n x p)) g5 g6 hn H.size) (hm_cwV hts me_Text_codeAt wl_ClaimsReader_51 rfl rfl ⟨Nat.le_of_ble_eq_true rfl, Nat.le_of_ble_eq_true rfl⟩) (hm_preV hM hK g5 rfl) rfl rfl hl.1 rfl (lv_room (Nat.le_of_ble_eq_true rfl)) d_ClaimsReader_readsMark_10 ⟨Nat.le_of_ble_eq_true rfl, Nat.le_of_ble_eq_true rfl⟩) (fun r9 f7 H locs p8 hM hS => ?_)
  obtain ⟨rfl, rfl⟩ := p8
  refine lv_iload_n hx hb d_ClaimsReader_readsMark_13 rfl (lv_at hl 2 rfl) ?_
  refine lv_icmp_eq (tgt := 19) hx hb d_ClaimsReader_readsMark_14 (by decide) (fun h10 => ?_) (fun h10 => ?_)
  · have hy9 := (z_at_eq hy (by omega) (by have := z_sk_le (x := x) hp; omega)).mp h10
    refine lv_aload_n hx hb d_ClaimsReader_readsMark_19 rfl (lv_at hl 0 rfl) ?_
    refine lv_dup hx hb d_ClaimsReader_readsMark_20 rfl ?_
    refine hm_get X hK hM g3 fl_ClaimsReader_19 (v := .int (nI (z_sk n x p))) rfl d_ClaimsReader_readsMark_21 ?_
    refine lv_iconst (v := 1) hx hb d_ClaimsReader_readsMark_24 (by decide) ?_
    refine lv_iadd hx hb d_ClaimsReader_readsMark_25 ?_
    refine hm_top (nI_1 _) ?_
    refine hm_put X hK hM hS (fs' := [.ref va, .ref sa, .int (nI ((z_sk n x p) + 1))]) g3 fl_ClaimsReader_19 rfl rfl (Nat.le_of_ble_eq_true rfl) rfl d_ClaimsReader_readsMark_26 (fun f11 H locs e12 hM hS => ?_)
    refine lv_aload_n hx hb d_ClaimsReader_readsMark_29 rfl (lv_at hl 0 rfl) ?_
    refine lv_aload_n hx hb d_ClaimsReader_readsMark_30 rfl (lv_at hl 1 rfl) ?_
    have g13 : f11 h = some (.inr (7, [.ref va, .ref sa, .int (nI ((z_sk n x p) + 1))])) := by rw [e12, hm_up_s]
    have g14 : f11 t = some (.inr (5, [.ref a, .int (nI n)])) := by rw [e12, hm_up_n (hm_neI g5 g3 (by decide))]; exact g5
    have g15 : f11 a = some (.inl (k 2, 120, .inl x)) := by rw [e12, hm_up_n ((hm_neA g3 g6).symm)]; exact g6
    refine hm_callv hS hM hA (va_runV (As := [.ref t]) (rest := []) X (c_skipSpaces l D k f11 h va sa ((z_sk n x p) + 1) t a n x g13 g14 g15 hn (by have := hy9.1; omega) H.size) (hm_cwV hts me_ClaimsReader_skipSpaces wl_ClaimsReader_47 rfl rfl ⟨Nat.le_of_ble_eq_true rfl, Nat.le_of_ble_eq_true rfl⟩) (hm_preV hM hK g13 rfl) rfl rfl hl.1 rfl (lv_room (Nat.le_of_ble_eq_true rfl)) d_ClaimsReader_readsMark_31 ⟨Nat.le_of_ble_eq_true rfl, Nat.le_of_ble_eq_true rfl⟩) (fun f16 H locs p17 hM hS => ?_)
    obtain ⟨g18, hfr19⟩ := p17
    refine lv_iconst (v := 1) hx hb d_ClaimsReader_readsMark_34 (by decide) ?_
    have g20 : f16 t = some (.inr (5, [.ref a, .int (nI n)])) := hfr19 _ _ (hm_neI g14 g13 (by decide)) g14
    have g21 : f16 a = some (.inl (k 2, 120, .inl x)) := hfr19 _ _ ((hm_neA g13 g15).symm) g15
    exact hm_zret X hQ hr hlk hK hM hS rfl d_ClaimsReader_readsMark_35 ⟨by unfold z_mk; rw [if_pos hy9]; rfl, (show z_mkA n x p y = _ by unfold z_mkA; exact if_pos hy9) ▸ g18, (fun zq zx n0 hq => by have t0 := hq; have t1 := hfr4 _ _ n0 t0; have t2 := hm_keep e12 n0 t1; have t3 := hfr19 _ _ n0 t2; exact t3)⟩
  · have hy9 := mt (z_at_eq hy (by omega) (by have := z_sk_le (x := x) hp; omega)).mpr h10
    refine lv_iconst (v := 0) hx hb d_ClaimsReader_readsMark_17 (by decide) ?_
    exact hm_zret X hQ hr hlk hK hM hS rfl d_ClaimsReader_readsMark_18 ⟨by unfold z_mk; rw [if_neg hy9]; rfl, (show z_mkA n x p y = _ by unfold z_mkA; exact if_neg hy9) ▸ g3, (fun zq zx n0 hq => by have t0 := hq; have t1 := hfr4 _ _ n0 t0; exact t1)⟩
set_option maxHeartbeats 4000000 in
set_option maxRecDepth 100000 in
theorem c_quotedName (l : Launch) (D : va_G) (k : Nat → ClassId) (sA sV : Nat → Nat) (f : hm) (j : Nat) (hj : j < 5) : hm_MqZ l sA sV D vwCl (tyL k) y_ClaimsReader_quotedName (Cond.code y_ClaimsReader_quotedName b_ClaimsReader_quotedName 1 (some (.object "java/lang/String")) :: TB) ({ frames := 0, cells := 0, slots := 0, locals := 0 }) [.int (nI j)] f (fun (r : Option Nat) (f1 : hm) => some (sA (7 + j)) = r ∧ f = f1) 0 0 := by
  refine hm_enterZ (Qc := fun sz => va_Qq _ (hm_R D vwCl (tyL k) f sz) (hm_A f sz)) (by decide) rfl (Nat.le_of_ble_eq_true rfl) ?_
  intro pg e s m below meth cd ls hZ X0 hr hlk hin hK hM hS hA hl Q hQ
  have X : CallFix pg m cd b_ClaimsReader_quotedName 1 s ([.int (nI j)] : List Value).toArray TB R_ClaimsReader := ⟨X0.1, X0.2.1, X0.2.2.1, X0.2.2.2.1, fun w h => X0.2.2.2.2 w (List.mem_cons_of_mem _ h)⟩
  have hx := X.1; have hb := X.2.1; have hml := X.2.2.1; have hown := X.2.2.2.1; have hts := X.2.2.2.2
  have hl : lv_has ls 1 [(0, .int (nI j))] := hl
  refine lv_iload_n hx hb d_ClaimsReader_quotedName_0 rfl (lv_at hl 0 rfl) ?_
  by_cases h1 : (nI j) = 0
  · refine lv_tableIn (tgt := 32) hx hb d_ClaimsReader_quotedName_1 (by rw [h1]; decide) (by rw [h1]; decide) (by rw [h1]; rfl) (by decide) ?_
    refine va_ldcS hx hb hown (hZ.2.2.1 7 (by decide)) d_ClaimsReader_quotedName_32 ?_
    exact hm_aret X hQ hr (Or.inl ⟨_, rfl⟩) hlk hK hM hS (some (sA 7)) d_ClaimsReader_quotedName_34 ⟨(by rw [show j = 0 by exact (nI_eq (by omega) (by decide)).mp h1]), rfl⟩
  by_cases h2 : (nI j) = 1
  · refine lv_tableIn (tgt := 35) hx hb d_ClaimsReader_quotedName_1 (by rw [h2]; decide) (by rw [h2]; decide) (by rw [h2]; rfl) (by decide) ?_
    refine va_ldcS hx hb hown (hZ.2.2.1 8 (by decide)) d_ClaimsReader_quotedName_35 ?_
    exact hm_aret X hQ hr (Or.inl ⟨_, rfl⟩) hlk hK hM hS (some (sA 8)) d_ClaimsReader_quotedName_37 ⟨(by rw [show j = 1 by exact (nI_eq (by omega) (by decide)).mp h2]), rfl⟩
  by_cases h3 : (nI j) = 2
  · refine lv_tableIn (tgt := 38) hx hb d_ClaimsReader_quotedName_1 (by rw [h3]; decide) (by rw [h3]; decide) (by rw [h3]; rfl) (by decide) ?_
    refine va_ldcS hx hb hown (hZ.2.2.1 9 (by decide)) d_ClaimsReader_quotedName_38 ?_
    exact hm_aret X hQ hr (Or.inl ⟨_, rfl⟩) hlk hK hM hS (some (sA 9)) d_ClaimsReader_quotedName_40 ⟨(by rw [show j = 2 by exact (nI_eq (by omega) (by decide)).mp h3]), rfl⟩
  by_cases h4 : (nI j) = 3
  · refine lv_tableIn (tgt := 41) hx hb d_ClaimsReader_quotedName_1 (by rw [h4]; decide) (by rw [h4]; decide) (by rw [h4]; rfl) (by decide) ?_
    refine va_ldcS hx hb hown (hZ.2.2.1 10 (by decide)) d_ClaimsReader_quotedName_41 ?_
    exact hm_aret X hQ hr (Or.inl ⟨_, rfl⟩) hlk hK hM hS (some (sA 10)) d_ClaimsReader_quotedName_43 ⟨(by rw [show j = 3 by exact (nI_eq (by omega) (by decide)).mp h4]), rfl⟩
  refine lv_tableOut (tgt := 44) hx hb d_ClaimsReader_quotedName_1 (hm_sw4 h1 h2 h3 h4) (by decide) ?_
  refine va_ldcS hx hb hown (hZ.2.2.1 11 (by decide)) d_ClaimsReader_quotedName_44 ?_
  exact hm_aret X hQ hr (Or.inl ⟨_, rfl⟩) hlk hK hM hS (some (sA 11)) d_ClaimsReader_quotedName_46 ⟨(by rw [show j = 4 by have z0 := mt (nI_eq (a := j) (b := 0) (by omega) (by decide)).mpr h1; have z1 := mt (nI_eq (a := j) (b := 1) (by omega) (by decide)).mpr h2; have z2 := mt (nI_eq (a := j) (b := 2) (by omega) (by decide)).mpr h3; have z3 := mt (nI_eq (a := j) (b := 3) (by omega) (by decide)).mpr h4; omega]), rfl⟩
set_option maxHeartbeats 4000000 in
set_option maxRecDepth 100000 in
theorem c_standsHere (l : Launch) (D : va_G) (k : Nat → ClassId) (sA sV : Nat → Nat) (f : hm) (h : Nat) (va : Nat) (sa : Nat) (p : Nat) (t : Nat) (a : Nat) (n : Nat) (x : Nat → Int32) (i : Nat) (hh : f h = some (.inr (7, [.ref va, .ref sa, .int (nI p)]))) (ht : f t = some (.inr (5, [.ref a, .int (nI n)]))) (ha : f a = some (.inl (k 2, 120, .inl x))) (hn : n ≤ 120) (hp : p ≤ n) (hi : i < 12) : hm_MiZ l sA sV D vwCl (tyL k) y_ClaimsReader_standsHere (Cond.code y_ClaimsReader_standsHere b_ClaimsReader_standsHere 4 (some .boolean) :: TB) ({ frames := 4, cells := 0, slots := 0, locals := 85 }) [.ref h, .ref t, .ref (sA i)] f (fun (r : Int32) (f1 : hm) => z_bb (z_st n x p i) = r ∧ f = f1) 0 0 := by
  refine hm_enterZ (Qc := fun sz => va_Qi _ (hm_R D vwCl (tyL k) f sz) (hm_A f sz)) (by decide) rfl (Nat.le_of_ble_eq_true rfl) ?_
  intro pg e s m below meth cd ls hZ X0 hr hlk hin hK hM hS hA hl Q hQ
  have X : CallFix pg m cd b_ClaimsReader_standsHere 4 s ([.ref h, .ref t, .ref (sA i)] : List Value).toArray TB R_ClaimsReader := ⟨X0.1, X0.2.1, X0.2.2.1, X0.2.2.2.1, fun w h => X0.2.2.2.2 w (List.mem_cons_of_mem _ h)⟩
  have hx := X.1; have hb := X.2.1; have hml := X.2.2.1; have hown := X.2.2.2.1; have hts := X.2.2.2.2
  have hl : lv_has ls 4 [(0, .ref h), (1, .ref t), (2, .ref (sA i))] := hl
  have hln := st_ln i hi
  refine lv_iconst (v := 0) hx hb d_ClaimsReader_standsHere_0 (by decide) ?_
  refine lv_istore_n (lv' := [(3, .int 0), (0, .ref h), (1, .ref t), (2, .ref (sA i))]) hx hb d_ClaimsReader_standsHere_1 rfl hl (by decide) rfl (fun ls hl => ?_)
  have loop2 : ∀ (fu : Nat) (j : Nat) (H : Heap) (locs : List Loc) (ls : Array Slot) (hmu : st_len.getD i 0 - j < fu) (hj : j ≤ st_len.getD i 0) (hinv : z_st n x p i = z_stF n x p i (st_len.getD i 0 - j) j) (hM : hm_W D vwCl (hm_A f s.heap.size) f H) (hS : va_S (hm_A f s.heap.size) s.heap H locs) (hl : lv_has ls 4 [(0, .ref h), (1, .ref t), (2, .ref (sA i)), (3, .int (nI j))]), W pg l e ({ frames := 4, cells := 0, slots := 0, locals := 85 }) s m ([.ref h, .ref t, .ref (sA i)] : List Value).toArray below meth cd H locs 0 0 Q (F0 m 2 ls []) := by
    intro fu
    induction fu with
    | zero => intro j H locs ls hmu; exact absurd hmu (Nat.not_lt_zero _)
    | succ fu ih =>
      intro j H locs ls hmu hj hinv  hM hS hl
      refine lv_iload_n hx hb d_ClaimsReader_standsHere_2 rfl (lv_at hl 3 rfl) ?_
      refine lv_aload_n hx hb d_ClaimsReader_standsHere_3 rfl (lv_at hl 2 rfl) ?_
      refine hm_calli hS hM hA (va_runV (As := []) (rest := [.int (nI j)]) X (j_length l D k sA sV f i  hi H.size) (hm_cwV hts me_JString_length wl_ClaimsReader_63 rfl rfl ⟨Nat.le_of_ble_eq_true rfl, Nat.le_of_ble_eq_true rfl⟩) (hm_preVT hZ hS hA hM hK (i := i) hi) rfl rfl hl.1 rfl (lv_room (Nat.le_of_ble_eq_true rfl)) d_ClaimsReader_standsHere_4 ⟨Nat.le_of_ble_eq_true rfl, Nat.le_of_ble_eq_true rfl⟩) (fun r3 f1 H locs p2 hM hS => ?_)
      obtain ⟨rfl, rfl⟩ := p2
      refine lv_icmp_ge (tgt := 36) hx hb d_ClaimsReader_standsHere_7 (by decide) (fun h4 => ?_) (fun h4 => ?_)
      · have hge : st_len.getD i 0 - j = 0 := by have z := (nI_leI (a := st_len.getD i 0) (b := j) (by omega) (by omega)).mp h4; omega
        refine lv_iconst (v := 1) hx hb d_ClaimsReader_standsHere_36 (by decide) ?_
        exact hm_zret X hQ hr hlk hK hM hS rfl d_ClaimsReader_standsHere_37 ⟨(by rw [hinv, hge]; rfl), rfl⟩
      · have hlt : j < st_len.getD i 0 := by have z := mt (nI_leI (a := st_len.getD i 0) (b := j) (by omega) (by omega)).mpr h4; omega
        refine lv_aload_n hx hb d_ClaimsReader_standsHere_10 rfl (lv_at hl 1 rfl) ?_
        refine lv_aload_n hx hb d_ClaimsReader_standsHere_11 rfl (lv_at hl 0 rfl) ?_
        refine hm_get X hK hM hh fl_ClaimsReader_19 (v := .int (nI p)) rfl d_ClaimsReader_standsHere_12 ?_
        refine lv_iload_n hx hb d_ClaimsReader_standsHere_15 rfl (lv_at hl 3 rfl) ?_
        refine lv_iadd hx hb d_ClaimsReader_standsHere_16 ?_
        refine hm_top (z := nI (p + j)) (nI_add _ _) ?_
        refine hm_calli hS hM hA (va_runV (As := [.int (nI (p + j))]) (rest := []) X (c_Text_codeAt l D k f t a n x (nI (p + j)) ht ha hn H.size) (hm_cwV hts me_Text_codeAt wl_ClaimsReader_51 rfl rfl ⟨Nat.le_of_ble_eq_true rfl, Nat.le_of_ble_eq_true rfl⟩) (hm_preV hM hK ht rfl) rfl rfl hl.1 rfl (lv_room (Nat.le_of_ble_eq_true rfl)) d_ClaimsReader_standsHere_17 ⟨Nat.le_of_ble_eq_true rfl, Nat.le_of_ble_eq_true rfl⟩) (fun r7 f5 H locs p6 hM hS => ?_)
        obtain ⟨rfl, rfl⟩ := p6
        refine lv_aload_n hx hb d_ClaimsReader_standsHere_20 rfl (lv_at hl 2 rfl) ?_
        refine lv_iload_n hx hb d_ClaimsReader_standsHere_21 rfl (lv_at hl 3 rfl) ?_
        refine hm_calli hS hM hA (va_runV (As := [.int (nI j)]) (rest := [.int (z_at n x (nI (p + j)))]) X (j_charAt l D k sA sV f i j  hi hlt H.size) (hm_cwV hts me_JString_charAt wl_ClaimsReader_68 rfl rfl ⟨Nat.le_of_ble_eq_true rfl, Nat.le_of_ble_eq_true rfl⟩) (hm_preVT hZ hS hA hM hK (i := i) hi) rfl rfl hl.1 rfl (lv_room (Nat.le_of_ble_eq_true rfl)) d_ClaimsReader_standsHere_22 ⟨Nat.le_of_ble_eq_true rfl, Nat.le_of_ble_eq_true rfl⟩) (fun r10 f8 H locs p9 hM hS => ?_)
        obtain ⟨rfl, rfl⟩ := p9
        refine lv_icmp_eq (tgt := 30) hx hb d_ClaimsReader_standsHere_25 (by decide) (fun h11 => ?_) (fun h11 => ?_)
        · have hy9 := (z_at_eq (nI_pos (by have := (st_ok i hi j hlt).2.1; omega)) (by omega) (by omega)).mp h11
          refine lv_iinc (lv' := [(3, .int (nI (j + 1))), (0, .ref h), (1, .ref t), (2, .ref (sA i))]) hx hb d_ClaimsReader_standsHere_30 hl (k := 3) rfl (hm_inc _) (by decide) rfl (fun ls hl => ?_)
          refine lv_goto (tgt := 2) hx hb d_ClaimsReader_standsHere_33 (by decide) ?_
          exact ih (j + 1)  H locs ls (by omega) (by omega) (by rw [hinv, show st_len.getD i 0 - j = (st_len.getD i 0 - (j + 1)) + 1 by omega]; exact if_pos hy9)  hM hS (lv_sub hl [1, 2, 3, 0] rfl)
        · have hy9 := mt (z_at_eq (nI_pos (by have := (st_ok i hi j hlt).2.1; omega)) (by omega) (by omega)).mpr h11
          refine lv_iconst (v := 0) hx hb d_ClaimsReader_standsHere_28 (by decide) ?_
          exact hm_zret X hQ hr hlk hK hM hS rfl d_ClaimsReader_standsHere_29 ⟨(by rw [hinv, show st_len.getD i 0 - j = (st_len.getD i 0 - (j + 1)) + 1 by omega]; show z_bb (if p + j < n ∧ x (p + j) = nI (st_chr i j) then _ else false) = 0; rw [if_neg hy9]; rfl), rfl⟩
  exact loop2 _ 0  s.heap [] ls (Nat.lt_succ_self _) (Nat.zero_le _) rfl  hM hS (lv_sub hl [1, 2, 3, 0] rfl)
set_option maxHeartbeats 4000000 in
set_option maxRecDepth 100000 in
theorem c_readName (l : Launch) (D : va_G) (k : Nat → ClassId) (sA sV : Nat → Nat) (f : hm) (h : Nat) (va : Nat) (sa : Nat) (p : Nat) (t : Nat) (a : Nat) (n : Nat) (x : Nat → Int32) (hh : f h = some (.inr (7, [.ref va, .ref sa, .int (nI p)]))) (ht : f t = some (.inr (5, [.ref a, .int (nI n)]))) (ha : f a = some (.inl (k 2, 120, .inl x))) (hn : n ≤ 120) (hp : p ≤ n) : hm_MiZ l sA sV D vwCl (tyL k) y_ClaimsReader_readName (Cond.code y_ClaimsReader_readName b_ClaimsReader_readName 4 (some .int) :: TB) ({ frames := 5, cells := 0, slots := 0, locals := 108 }) [.ref h, .ref t] f (fun (r : Int32) (f1 : hm) => z_ni (z_nm n x p) = r ∧ f1 h = some (.inr (7, [.ref va, .ref sa, .int (nI (p + z_nl (z_nm n x p)))])) ∧ ∀ (zq : Nat) (zx : va_E), zq ≠ h → f zq = some zx → f1 zq = some zx) 0 0 := by
  refine hm_enterZ (Qc := fun sz => va_Qi _ (hm_R D vwCl (tyL k) f sz) (hm_A f sz)) (by decide) rfl (Nat.le_of_ble_eq_true rfl) ?_
  intro pg e s m below meth cd ls hZ X0 hr hlk hin hK hM hS hA hl Q hQ
  have X : CallFix pg m cd b_ClaimsReader_readName 4 s ([.ref h, .ref t] : List Value).toArray TB R_ClaimsReader := ⟨X0.1, X0.2.1, X0.2.2.1, X0.2.2.2.1, fun w h => X0.2.2.2.2 w (List.mem_cons_of_mem _ h)⟩
  have hx := X.1; have hb := X.2.1; have hml := X.2.2.1; have hown := X.2.2.2.1; have hts := X.2.2.2.2
  have hl : lv_has ls 4 [(0, .ref h), (1, .ref t)] := hl
  refine lv_iconst (v := 0) hx hb d_ClaimsReader_readName_0 (by decide) ?_
  refine lv_istore_n (lv' := [(2, .int 0), (0, .ref h), (1, .ref t)]) hx hb d_ClaimsReader_readName_1 rfl hl (by decide) rfl (fun ls hl => ?_)
  have loop2 : ∀ (fu : Nat) (j : Nat) (H : Heap) (locs : List Loc) (ls : Array Slot) (hmu : 5 - j < fu) (hj : j ≤ 5) (hinv : z_nm n x p = z_nmF n x p (5 - j) j) (hM : hm_W D vwCl (hm_A f s.heap.size) f H) (hS : va_S (hm_A f s.heap.size) s.heap H locs) (hl : lv_has ls 4 [(0, .ref h), (1, .ref t), (2, .int (nI j))]), W pg l e ({ frames := 5, cells := 0, slots := 0, locals := 108 }) s m ([.ref h, .ref t] : List Value).toArray below meth cd H locs 0 0 Q (F0 m 2 ls []) := by
    intro fu
    induction fu with
    | zero => intro j H locs ls hmu; exact absurd hmu (Nat.not_lt_zero _)
    | succ fu ih =>
      intro j H locs ls hmu hj hinv  hM hS hl
      refine lv_iload_n hx hb d_ClaimsReader_readName_2 rfl (lv_at hl 2 rfl) ?_
      refine lv_iconst (v := 5) hx hb d_ClaimsReader_readName_3 (by decide) ?_
      refine lv_icmp_ge (tgt := 42) hx hb d_ClaimsReader_readName_4 (by decide) (fun h1 => ?_) (fun h1 => ?_)
      · have hnm : z_nm n x p = none := by rw [hinv, show 5 - j = 0 by have z2 := (nI_leI (a := 5) (b := j) (by decide) (by omega)).mp h1; omega]; rfl
        refine lv_iconst (v := (-1)) hx hb d_ClaimsReader_readName_42 (by decide) ?_
        exact hm_iret X hQ hr hlk hK hM hS d_ClaimsReader_readName_43 ⟨congrArg z_ni hnm, (by rw [hnm]; exact hh), (fun q x n0 hq => hq)⟩
      · have hlt : j < 5 := by have z2 := mt (nI_leI (a := 5) (b := j) (by decide) (by omega)).mpr h1; omega
        refine lv_iload_n hx hb d_ClaimsReader_readName_7 rfl (lv_at hl 2 rfl) ?_
        refine hm_callq hS hM hA (va_runS (As := [.int (nI j)]) (rest := []) X (c_quotedName l D k sA sV f j  hlt H.size) (hm_cwS hts me_ClaimsReader_quotedName wl_ClaimsReader_55 rfl rfl ⟨Nat.le_of_ble_eq_true rfl, Nat.le_of_ble_eq_true rfl⟩) (hm_preSZ hZ hS hA hM hK) rfl rfl hl.1 rfl (lv_room (Nat.le_of_ble_eq_true rfl)) d_ClaimsReader_readName_8 ⟨Nat.le_of_ble_eq_true rfl, Nat.le_of_ble_eq_true rfl⟩) (fun r4 f2 H locs p3 hM hS => ?_)
        obtain ⟨rfl, rfl⟩ := p3
        refine lv_astore_n (lv' := [(3, .ref (sA (7 + j))), (0, .ref h), (1, .ref t), (2, .int (nI j))]) hx hb d_ClaimsReader_readName_11 rfl hl (by decide) rfl (fun ls hl => ?_)
        refine lv_aload_n hx hb d_ClaimsReader_readName_12 rfl (lv_at hl 1 rfl) ?_
        refine lv_aload_n hx hb d_ClaimsReader_readName_13 rfl (lv_at hl 2 rfl) ?_
        refine lv_aload_n hx hb d_ClaimsReader_readName_14 rfl (lv_at hl 0 rfl) ?_
        refine hm_calli hS hM hA (va_runV (As := [.ref t, .ref (sA (7 + j))]) (rest := []) X (c_standsHere l D k sA sV f h va sa p t a n x (7 + j) hh ht ha hn hp (by omega) H.size) (hm_cwV hts me_ClaimsReader_standsHere wl_ClaimsReader_59 rfl rfl ⟨Nat.le_of_ble_eq_true rfl, Nat.le_of_ble_eq_true rfl⟩) (hm_preVZ hZ hS hA hM hK hh rfl) rfl rfl hl.1 rfl (lv_room (Nat.le_of_ble_eq_true rfl)) d_ClaimsReader_readName_15 ⟨Nat.le_of_ble_eq_true rfl, Nat.le_of_ble_eq_true rfl⟩) (fun r7 f5 H locs p6 hM hS => ?_)
        obtain ⟨rfl, rfl⟩ := p6
        refine lv_if_eq (tgt := 36) hx hb d_ClaimsReader_readName_18 (by decide) (fun h8 => ?_) (fun h8 => ?_)
        · refine lv_iinc (lv' := [(2, .int (nI (j + 1))), (3, .ref (sA (7 + j))), (0, .ref h), (1, .ref t)]) hx hb d_ClaimsReader_readName_36 hl (k := 3) rfl (hm_inc _) (by decide) rfl (fun ls hl => ?_)
          refine lv_goto (tgt := 2) hx hb d_ClaimsReader_readName_39 (by decide) ?_
          exact ih (j + 1)  H locs ls (by omega) (by omega) (by rw [hinv, show 5 - j = (5 - (j + 1)) + 1 by omega]; exact if_neg (fun z => by rw [z] at h8; exact absurd h8 (by decide)))  hM hS (lv_sub hl [2, 3, 0] rfl)
        · have hst : z_st n x p (7 + j) = true := by cases z : z_st n x p (7 + j) with | true => rfl | false => rw [z] at h8; exact absurd rfl h8
          have hnm : z_nm n x p = some j := by rw [hinv, show 5 - j = (5 - (j + 1)) + 1 by omega]; exact if_pos hst
          refine lv_aload_n hx hb d_ClaimsReader_readName_21 rfl (lv_at hl 1 rfl) ?_
          refine lv_dup hx hb d_ClaimsReader_readName_22 rfl ?_
          refine hm_get X hK hM hh fl_ClaimsReader_19 (v := .int (nI p)) rfl d_ClaimsReader_readName_23 ?_
          refine lv_aload_n hx hb d_ClaimsReader_readName_26 rfl (lv_at hl 0 rfl) ?_
          refine hm_calli hS hM hA (va_runV (As := []) (rest := [.int (nI p), .ref h]) X (j_length l D k sA sV f (7 + j)  (by omega) H.size) (hm_cwV hts me_JString_length wl_ClaimsReader_63 rfl rfl ⟨Nat.le_of_ble_eq_true rfl, Nat.le_of_ble_eq_true rfl⟩) (hm_preVT hZ hS hA hM hK (i := (7 + j)) (by omega)) rfl rfl hl.1 rfl (lv_room (Nat.le_of_ble_eq_true rfl)) d_ClaimsReader_readName_27 ⟨Nat.le_of_ble_eq_true rfl, Nat.le_of_ble_eq_true rfl⟩) (fun r11 f9 H locs p10 hM hS => ?_)
          obtain ⟨rfl, rfl⟩ := p10
          refine lv_iadd hx hb d_ClaimsReader_readName_30 ?_
          refine hm_top (z := nI (p + st_len.getD (7 + j) 0)) (nI_add _ _) ?_
          refine hm_put X hK hM hS (fs' := [.ref va, .ref sa, .int (nI (p + st_len.getD (7 + j) 0))]) hh fl_ClaimsReader_19 rfl rfl (Nat.le_of_ble_eq_true rfl) rfl d_ClaimsReader_readName_31 (fun f12 H locs e13 hM hS => ?_)
          refine lv_iload_n hx hb d_ClaimsReader_readName_34 rfl (lv_at hl 3 rfl) ?_
          have g14 : f12 h = some (.inr (7, [.ref va, .ref sa, .int (nI (p + st_len.getD (7 + j) 0))])) := by rw [e13, hm_up_s]
          exact hm_iret X hQ hr hlk hK hM hS d_ClaimsReader_readName_35 ⟨congrArg z_ni hnm, (by rw [hnm]; exact g14), (fun zq zx n0 hq => by have t0 := hq; have t1 := hm_keep e13 n0 t0; exact t1)⟩
  exact loop2 _ 0  s.heap [] ls (Nat.lt_succ_self _) (Nat.zero_le _) rfl  hM hS (lv_sub hl [1, 2, 0] rfl)
set_option maxHeartbeats 4000000 in
set_option maxRecDepth 100000 in
theorem c_isDigit (l : Launch) (D : va_G) (k : Nat → ClassId) (f : hm) (x : Int32) : hm_Mi l D vwCl (tyL k) y_ClaimsReader_isDigit (Cond.code y_ClaimsReader_isDigit b_ClaimsReader_isDigit 1 (some .boolean) :: TB) ({ frames := 0, cells := 0, slots := 0, locals := 0 }) [.int x] f (fun (r : Int32) (f1 : hm) => z_dig x = r ∧ f = f1) 0 0 := by
  refine hm_enter (Qc := fun sz => va_Qi _ (hm_R D vwCl (tyL k) f sz) (hm_A f sz)) (by decide) rfl (Nat.le_of_ble_eq_true rfl) ?_
  intro pg e s m below meth cd ls X0 hr hlk hin hK hM hS hA hl Q hQ
  have X : CallFix pg m cd b_ClaimsReader_isDigit 1 s ([.int x] : List Value).toArray TB R_ClaimsReader := ⟨X0.1, X0.2.1, X0.2.2.1, X0.2.2.2.1, fun w h => X0.2.2.2.2 w (List.mem_cons_of_mem _ h)⟩
  have hx := X.1; have hb := X.2.1; have hml := X.2.2.1; have hown := X.2.2.2.1; have hts := X.2.2.2.2
  have hl : lv_has ls 1 [(0, .int x)] := hl
  refine lv_iload_n hx hb d_ClaimsReader_isDigit_0 rfl (lv_at hl 0 rfl) ?_
  refine lv_bipush (v := 48) hx hb d_ClaimsReader_isDigit_1 (by decide) ?_
  refine lv_icmp_lt (tgt := 16) hx hb d_ClaimsReader_isDigit_3 (by decide) (fun h1 => ?_) (fun h1 => ?_)
  · refine lv_iconst (v := 0) hx hb d_ClaimsReader_isDigit_16 (by decide) ?_
    exact hm_zret X hQ hr hlk hK hM hS rfl d_ClaimsReader_isDigit_17 ⟨(by simp [z_dig, h1, Int32.not_le.mpr h1]), rfl⟩
  · refine lv_iload_n hx hb d_ClaimsReader_isDigit_6 rfl (lv_at hl 0 rfl) ?_
    refine lv_bipush (v := 57) hx hb d_ClaimsReader_isDigit_7 (by decide) ?_
    refine lv_icmp_gt (tgt := 16) hx hb d_ClaimsReader_isDigit_9 (by decide) (fun h2 => ?_) (fun h2 => ?_)
    · refine lv_iconst (v := 0) hx hb d_ClaimsReader_isDigit_16 (by decide) ?_
      exact hm_zret X hQ hr hlk hK hM hS rfl d_ClaimsReader_isDigit_17 ⟨(by simp [z_dig, h1, Int32.not_lt.mp h1, h2, Int32.not_le.mpr h2]), rfl⟩
    · refine lv_iconst (v := 1) hx hb d_ClaimsReader_isDigit_12 (by decide) ?_
      refine lv_goto (tgt := 17) hx hb d_ClaimsReader_isDigit_13 (by decide) ?_
      exact hm_zret X hQ hr hlk hK hM hS rfl d_ClaimsReader_isDigit_17 ⟨(by simp [z_dig, h1, Int32.not_lt.mp h1, h2, Int32.not_lt.mp h2]), rfl⟩
set_option maxHeartbeats 4000000 in
set_option maxRecDepth 100000 in
theorem c_readNumber (l : Launch) (D : va_G) (k : Nat → ClassId) (f : hm) (h : Nat) (va : Nat) (sa : Nat) (p : Nat) (t : Nat) (a : Nat) (n : Nat) (x : Nat → Int32) (hh : f h = some (.inr (7, [.ref va, .ref sa, .int (nI p)]))) (ht : f t = some (.inr (5, [.ref a, .int (nI n)]))) (ha : f a = some (.inl (k 2, 120, .inl x))) (hn : n ≤ 120) (hp : p ≤ n) : hm_Mi l D vwCl (tyL k) y_ClaimsReader_readNumber (Cond.code y_ClaimsReader_readNumber b_ClaimsReader_readNumber 4 (some .int) :: TB) ({ frames := 1, cells := 0, slots := 0, locals := 21 }) [.ref h, .ref t] f (fun (r : Int32) (f1 : hm) => z_nr n x p = r ∧ f1 h = some (.inr (7, [.ref va, .ref sa, .int (nI (z_na n x p))])) ∧ ∀ (zq : Nat) (zx : va_E), zq ≠ h → f zq = some zx → f1 zq = some zx) 0 0 := by
  refine hm_enter (Qc := fun sz => va_Qi _ (hm_R D vwCl (tyL k) f sz) (hm_A f sz)) (by decide) rfl (Nat.le_of_ble_eq_true rfl) ?_
  intro pg e s m below meth cd ls X0 hr hlk hin hK hM hS hA hl Q hQ
  have X : CallFix pg m cd b_ClaimsReader_readNumber 4 s ([.ref h, .ref t] : List Value).toArray TB R_ClaimsReader := ⟨X0.1, X0.2.1, X0.2.2.1, X0.2.2.2.1, fun w h => X0.2.2.2.2 w (List.mem_cons_of_mem _ h)⟩
  have hx := X.1; have hb := X.2.1; have hml := X.2.2.1; have hown := X.2.2.2.1; have hts := X.2.2.2.2
  have hl : lv_has ls 4 [(0, .ref h), (1, .ref t)] := hl
  refine lv_aload_n hx hb d_ClaimsReader_readNumber_0 rfl (lv_at hl 1 rfl) ?_
  refine lv_aload_n hx hb d_ClaimsReader_readNumber_1 rfl (lv_at hl 0 rfl) ?_
  refine hm_get X hK hM hh fl_ClaimsReader_19 (v := .int (nI p)) rfl d_ClaimsReader_readNumber_2 ?_
  refine hm_calli hS hM hA (va_runV (As := [.int (nI p)]) (rest := []) X (c_Text_codeAt l D k f t a n x (nI p) ht ha hn s.heap.size) (hm_cwV hts me_Text_codeAt wl_ClaimsReader_51 rfl rfl ⟨Nat.le_of_ble_eq_true rfl, Nat.le_of_ble_eq_true rfl⟩) (hm_preV hM hK ht rfl) rfl rfl hl.1 rfl (lv_room (Nat.le_of_ble_eq_true rfl)) d_ClaimsReader_readNumber_5 ⟨Nat.le_of_ble_eq_true rfl, Nat.le_of_ble_eq_true rfl⟩) (fun r3 f1 H locs p2 hM hS => ?_)
  obtain ⟨rfl, rfl⟩ := p2
  refine lv_bipush (v := 48) hx hb d_ClaimsReader_readNumber_8 (by decide) ?_
  refine lv_icmp_ne (tgt := 25) hx hb d_ClaimsReader_readNumber_10 (by decide) (fun h4 => ?_) (fun h4 => ?_)
  · have h48 := mt (z_at_eq (by decide) (by omega) (by omega)).mpr h4
    refine lv_iconst (v := 0) hx hb d_ClaimsReader_readNumber_25 (by decide) ?_
    refine lv_istore_n (lv' := [(2, .int 0), (0, .ref h), (1, .ref t)]) hx hb d_ClaimsReader_readNumber_26 rfl hl (by decide) rfl (fun ls hl => ?_)
    refine lv_iconst (v := 0) hx hb d_ClaimsReader_readNumber_27 (by decide) ?_
    refine lv_istore_n (lv' := [(3, .int 0), (2, .int 0), (0, .ref h), (1, .ref t)]) hx hb d_ClaimsReader_readNumber_28 rfl hl (by decide) rfl (fun ls hl => ?_)
    have loop29 : ∀ (fu : Nat) (d : Nat) (v : Int32) (fL : hm) (H : Heap) (locs : List Loc) (ls : Array Slot) (hmu : 9 - d < fu) (hd : d ≤ 9) (hpd : p + d ≤ n) (hinv : z_num n x 9 p 0 = z_num n x (9 - d) (p + d) v) (hh : fL h = some (.inr (7, [.ref va, .ref sa, .int (nI (p + d))]))) (ht : fL t = some (.inr (5, [.ref a, .int (nI n)]))) (ha : fL a = some (.inl (k 2, 120, .inl x))) (hfr : ∀ (q : Nat) (x : va_E), q ≠ h → f q = some x → fL q = some x) (hM : hm_W D vwCl (hm_A f s.heap.size) fL H) (hS : va_S (hm_A f s.heap.size) s.heap H locs) (hl : lv_has ls 4 [(0, .ref h), (1, .ref t), (2, .int v), (3, .int (nI d))]), W pg l e ({ frames := 1, cells := 0, slots := 0, locals := 21 }) s m ([.ref h, .ref t] : List Value).toArray below meth cd H locs 0 0 Q (F0 m 29 ls []) := by
      intro fu
      induction fu with
      | zero => intro d v fL H locs ls hmu; exact absurd hmu (Nat.not_lt_zero _)
      | succ fu ih =>
        intro d v fL H locs ls hmu hd hpd hinv hh ht ha hfr hM hS hl
        refine lv_iload_n hx hb d_ClaimsReader_readNumber_29 rfl (lv_at hl 3 rfl) ?_
        refine lv_bipush (v := 9) hx hb d_ClaimsReader_readNumber_30 (by decide) ?_
        refine lv_icmp_ge (tgt := 82) hx hb d_ClaimsReader_readNumber_32 (by decide) (fun h5 => ?_) (fun h5 => ?_)
        · have hnum : z_num n x 9 p 0 = (p + d, v) := by rw [hinv, show 9 - d = 0 by have z2 := (nI_leI (a := 9) (b := d) (by decide) (by omega)).mp h5; omega]; rfl
          refine lv_iload_n hx hb d_ClaimsReader_readNumber_82 rfl (lv_at hl 3 rfl) ?_
          refine lv_if_ne (tgt := 90) hx hb d_ClaimsReader_readNumber_83 (by decide) (fun h6 => ?_) (fun h6 => ?_)
          · refine lv_iload_n hx hb d_ClaimsReader_readNumber_90 rfl (lv_at hl 2 rfl) ?_
            exact hm_iret X hQ hr hlk hK hM hS d_ClaimsReader_readNumber_91 ⟨by unfold z_nr; rw [if_neg h48, hnum, if_neg (fun z => h6 ((nI_eq (a := d) (b := 0) (by omega) (by decide)).mpr (by have z2 : p + d = p := z; omega)))], (show z_na n x p = p + d by unfold z_na; rw [if_neg h48, hnum]) ▸ hh, hfr⟩
          · refine lv_iconst (v := (-1)) hx hb d_ClaimsReader_readNumber_86 (by decide) ?_
            refine lv_goto (tgt := 91) hx hb d_ClaimsReader_readNumber_87 (by decide) ?_
            exact hm_iret X hQ hr hlk hK hM hS d_ClaimsReader_readNumber_91 ⟨by unfold z_nr; rw [if_neg h48, hnum, if_pos (by have z := (nI_eq (a := d) (b := 0) (by omega) (by decide)).mp h6; show p + d = p; omega)], (show z_na n x p = p + d by unfold z_na; rw [if_neg h48, hnum]) ▸ hh, hfr⟩
        · have hlt : d < 9 := by have z2 := mt (nI_leI (a := 9) (b := d) (by decide) (by omega)).mpr h5; omega
          refine lv_aload_n hx hb d_ClaimsReader_readNumber_35 rfl (lv_at hl 1 rfl) ?_
          refine lv_aload_n hx hb d_ClaimsReader_readNumber_36 rfl (lv_at hl 0 rfl) ?_
          refine hm_get X hK hM hh fl_ClaimsReader_19 (v := .int (nI (p + d))) rfl d_ClaimsReader_readNumber_37 ?_
          refine hm_calli hS hM hA (va_runV (As := [.int (nI (p + d))]) (rest := []) X (c_Text_codeAt l D k fL t a n x (nI (p + d)) ht ha hn H.size) (hm_cwV hts me_Text_codeAt wl_ClaimsReader_51 rfl rfl ⟨Nat.le_of_ble_eq_true rfl, Nat.le_of_ble_eq_true rfl⟩) (hm_preV hM hK ht rfl) rfl rfl hl.1 rfl (lv_room (Nat.le_of_ble_eq_true rfl)) d_ClaimsReader_readNumber_40 ⟨Nat.le_of_ble_eq_true rfl, Nat.le_of_ble_eq_true rfl⟩) (fun r8 f6 H locs p7 hM hS => ?_)
          obtain ⟨rfl, rfl⟩ := p7
          refine hm_calli hS hM hA (va_runS (As := [.int (z_at n x (nI (p + d)))]) (rest := []) X (c_isDigit l D k fL (z_at n x (nI (p + d)))   H.size) (hm_cwS hts me_ClaimsReader_isDigit wl_ClaimsReader_72 rfl rfl ⟨Nat.le_of_ble_eq_true rfl, Nat.le_of_ble_eq_true rfl⟩) (hm_preS hM hK) rfl rfl hl.1 rfl (lv_room (Nat.le_of_ble_eq_true rfl)) d_ClaimsReader_readNumber_43 ⟨Nat.le_of_ble_eq_true rfl, Nat.le_of_ble_eq_true rfl⟩) (fun r11 f9 H locs p10 hM hS => ?_)
          obtain ⟨rfl, rfl⟩ := p10
          refine lv_if_eq (tgt := 82) hx hb d_ClaimsReader_readNumber_46 (by decide) (fun h12 => ?_) (fun h12 => ?_)
          · have hnum : z_num n x 9 p 0 = (p + d, v) := by rw [hinv, show 9 - d = (9 - (d + 1)) + 1 by omega]; exact if_neg (fun z => (z_dig_at (by omega) (by omega)).mpr z h12)
            refine lv_iload_n hx hb d_ClaimsReader_readNumber_82 rfl (lv_at hl 3 rfl) ?_
            refine lv_if_ne (tgt := 90) hx hb d_ClaimsReader_readNumber_83 (by decide) (fun h13 => ?_) (fun h13 => ?_)
            · refine lv_iload_n hx hb d_ClaimsReader_readNumber_90 rfl (lv_at hl 2 rfl) ?_
              exact hm_iret X hQ hr hlk hK hM hS d_ClaimsReader_readNumber_91 ⟨by unfold z_nr; rw [if_neg h48, hnum, if_neg (fun z => h13 ((nI_eq (a := d) (b := 0) (by omega) (by decide)).mpr (by have z2 : p + d = p := z; omega)))], (show z_na n x p = p + d by unfold z_na; rw [if_neg h48, hnum]) ▸ hh, hfr⟩
            · refine lv_iconst (v := (-1)) hx hb d_ClaimsReader_readNumber_86 (by decide) ?_
              refine lv_goto (tgt := 91) hx hb d_ClaimsReader_readNumber_87 (by decide) ?_
              exact hm_iret X hQ hr hlk hK hM hS d_ClaimsReader_readNumber_91 ⟨by unfold z_nr; rw [if_neg h48, hnum, if_pos (by have z := (nI_eq (a := d) (b := 0) (by omega) (by decide)).mp h13; show p + d = p; omega)], (show z_na n x p = p + d by unfold z_na; rw [if_neg h48, hnum]) ▸ hh, hfr⟩
          · have hdg := (z_dig_at (by omega) (by omega)).mp h12
            refine lv_iload_n hx hb d_ClaimsReader_readNumber_49 rfl (lv_at hl 2 rfl) ?_
            refine lv_bipush (v := 10) hx hb d_ClaimsReader_readNumber_50 (by decide) ?_
            refine lv_imul hx hb d_ClaimsReader_readNumber_52 ?_
            refine lv_aload_n hx hb d_ClaimsReader_readNumber_53 rfl (lv_at hl 1 rfl) ?_
            refine lv_aload_n hx hb d_ClaimsReader_readNumber_54 rfl (lv_at hl 0 rfl) ?_
            refine hm_get X hK hM hh fl_ClaimsReader_19 (v := .int (nI (p + d))) rfl d_ClaimsReader_readNumber_55 ?_
            refine hm_calli hS hM hA (va_runV (As := [.int (nI (p + d))]) (rest := [.int (v * 10)]) X (c_Text_codeAt l D k fL t a n x (nI (p + d)) ht ha hn H.size) (hm_cwV hts me_Text_codeAt wl_ClaimsReader_51 rfl rfl ⟨Nat.le_of_ble_eq_true rfl, Nat.le_of_ble_eq_true rfl⟩) (hm_preV hM hK ht rfl) rfl rfl hl.1 rfl (lv_room (Nat.le_of_ble_eq_true rfl)) d_ClaimsReader_readNumber_58 ⟨Nat.le_of_ble_eq_true rfl, Nat.le_of_ble_eq_true rfl⟩) (fun r15 f13 H locs p14 hM hS => ?_)
            obtain ⟨rfl, rfl⟩ := p14
            refine hm_top (z := x (p + d)) (z_at_in hdg.1 (by omega)) ?_
            refine lv_iadd hx hb d_ClaimsReader_readNumber_61 ?_
            refine lv_bipush (v := 48) hx hb d_ClaimsReader_readNumber_62 (by decide) ?_
            refine lv_isub hx hb d_ClaimsReader_readNumber_64 ?_
            refine lv_istore_n (lv' := [(2, .int (((v * 10) + (x (p + d))) - 48)), (0, .ref h), (1, .ref t), (3, .int (nI d))]) hx hb d_ClaimsReader_readNumber_65 rfl hl (by decide) rfl (fun ls hl => ?_)
            refine lv_aload_n hx hb d_ClaimsReader_readNumber_66 rfl (lv_at hl 1 rfl) ?_
            refine lv_dup hx hb d_ClaimsReader_readNumber_67 rfl ?_
            refine hm_get X hK hM hh fl_ClaimsReader_19 (v := .int (nI (p + d))) rfl d_ClaimsReader_readNumber_68 ?_
            refine lv_iconst (v := 1) hx hb d_ClaimsReader_readNumber_71 (by decide) ?_
            refine lv_iadd hx hb d_ClaimsReader_readNumber_72 ?_
            refine hm_top (nI_1 _) ?_
            refine hm_put X hK hM hS (fs' := [.ref va, .ref sa, .int (nI ((p + d) + 1))]) hh fl_ClaimsReader_19 rfl rfl (Nat.le_of_ble_eq_true rfl) rfl d_ClaimsReader_readNumber_73 (fun f16 H locs e17 hM hS => ?_)
            refine lv_iinc (lv' := [(3, .int (nI (d + 1))), (2, .int (((v * 10) + (x (p + d))) - 48)), (0, .ref h), (1, .ref t)]) hx hb d_ClaimsReader_readNumber_76 hl (k := 3) rfl (hm_inc _) (by decide) rfl (fun ls hl => ?_)
            refine lv_goto (tgt := 29) hx hb d_ClaimsReader_readNumber_79 (by decide) ?_
            have g18 : f16 h = some (.inr (7, [.ref va, .ref sa, .int (nI ((p + d) + 1))])) := by rw [e17, hm_up_s]
            have g19 : f16 t = some (.inr (5, [.ref a, .int (nI n)])) := by rw [e17, hm_up_n (hm_neI ht hh (by decide))]; exact ht
            have g20 : f16 a = some (.inl (k 2, 120, .inl x)) := by rw [e17, hm_up_n ((hm_neA hh ha).symm)]; exact ha
            exact ih (d + 1) (v * 10 + x (p + d) - 48) f16 H locs ls (by omega) (by omega) (by have := hdg.1; omega) (by rw [hinv, show 9 - d = (9 - (d + 1)) + 1 by omega]; exact if_pos hdg) g18 g19 g20 (fun zq zx n0 hq => by have t0 := hfr _ _ n0 hq; have t1 := hm_keep e17 n0 t0; exact t1) hM hS (lv_sub hl [2, 3, 1, 0] rfl)
    exact loop29 _ 0 0 f H locs ls (Nat.lt_succ_self _) (Nat.zero_le _) hp rfl hh ht ha (fun q x n0 hq => hq) hM hS (lv_sub hl [2, 3, 1, 0] rfl)
  · have h48 := (z_at_eq (by decide) (by omega) (by omega)).mp h4
    refine lv_aload_n hx hb d_ClaimsReader_readNumber_13 rfl (lv_at hl 0 rfl) ?_
    refine lv_dup hx hb d_ClaimsReader_readNumber_14 rfl ?_
    refine hm_get X hK hM hh fl_ClaimsReader_19 (v := .int (nI p)) rfl d_ClaimsReader_readNumber_15 ?_
    refine lv_iconst (v := 1) hx hb d_ClaimsReader_readNumber_18 (by decide) ?_
    refine lv_iadd hx hb d_ClaimsReader_readNumber_19 ?_
    refine hm_top (nI_1 _) ?_
    refine hm_put X hK hM hS (fs' := [.ref va, .ref sa, .int (nI (p + 1))]) hh fl_ClaimsReader_19 rfl rfl (Nat.le_of_ble_eq_true rfl) rfl d_ClaimsReader_readNumber_20 (fun f5 H locs e6 hM hS => ?_)
    refine lv_iconst (v := 0) hx hb d_ClaimsReader_readNumber_23 (by decide) ?_
    have g7 : f5 h = some (.inr (7, [.ref va, .ref sa, .int (nI (p + 1))])) := by rw [e6, hm_up_s]
    exact hm_iret X hQ hr hlk hK hM hS d_ClaimsReader_readNumber_24 ⟨by unfold z_nr; rw [if_pos h48], (show z_na n x p = p + 1 by unfold z_na; rw [if_pos h48]) ▸ g7, (fun zq zx n0 hq => by have t0 := hq; have t1 := hm_keep e6 n0 t0; exact t1)⟩
set_option maxHeartbeats 4000000 in
set_option maxRecDepth 100000 in
theorem c_readsMember (l : Launch) (D : va_G) (k : Nat → ClassId) (sA sV : Nat → Nat) (f : hm) (h : Nat) (va : Nat) (sa : Nat) (p : Nat) (t : Nat) (a : Nat) (n : Nat) (x : Nat → Int32) (rd : Nat → Int32) (rs : Nat → Int32) (hh : f h = some (.inr (7, [.ref va, .ref sa, .int (nI p)]))) (ht : f t = some (.inr (5, [.ref a, .int (nI n)]))) (ha : f a = some (.inl (k 2, 120, .inl x))) (hva : f va = some (.inl (k 0, 5, .inl rd))) (hsa : f sa = some (.inl (k 1, 5, .inl rs))) (hn : n ≤ 120) (hp : p ≤ n) (hvs : va ≠ sa) : hm_MiZ l sA sV D vwCl (tyL k) y_ClaimsReader_readsMember (Cond.code y_ClaimsReader_readsMember b_ClaimsReader_readsMember 3 (some .boolean) :: TB) ({ frames := 6, cells := 0, slots := 0, locals := 131 }) [.ref h, .ref t] f (fun (r : Int32) (f1 : hm) => ∃ (p' : Nat) (rd' : Nat → Int32) (rs' : Nat → Int32), ((r = 1 ∧ z_mem n x p rs rd = some (p', rs', rd')) ∨ (r = 0 ∧ z_mem n x p rs rd = none)) ∧ f1 h = some (.inr (7, [.ref va, .ref sa, .int (nI p')])) ∧ f1 va = some (.inl (k 0, 5, .inl rd')) ∧ f1 sa = some (.inl (k 1, 5, .inl rs')) ∧ ∀ (zq : Nat) (zx : va_E), zq ≠ h → zq ≠ va → zq ≠ sa → f zq = some zx → f1 zq = some zx) 0 0 := by
  refine hm_enterZ (Qc := fun sz => va_Qi _ (hm_R D vwCl (tyL k) f sz) (hm_A f sz)) (by decide) rfl (Nat.le_of_ble_eq_true rfl) ?_
  intro pg e s m below meth cd ls hZ X0 hr hlk hin hK hM hS hA hl Q hQ
  have X : CallFix pg m cd b_ClaimsReader_readsMember 3 s ([.ref h, .ref t] : List Value).toArray TB R_ClaimsReader := ⟨X0.1, X0.2.1, X0.2.2.1, X0.2.2.2.1, fun w h => X0.2.2.2.2 w (List.mem_cons_of_mem _ h)⟩
  have hx := X.1; have hb := X.2.1; have hml := X.2.2.1; have hown := X.2.2.2.1; have hts := X.2.2.2.2
  have hl : lv_has ls 3 [(0, .ref h), (1, .ref t)] := hl
  refine lv_aload_n hx hb d_ClaimsReader_readsMember_0 rfl (lv_at hl 0 rfl) ?_
  refine lv_aload_n hx hb d_ClaimsReader_readsMember_1 rfl (lv_at hl 1 rfl) ?_
  refine hm_calli hS hM hA (va_runV (As := [.ref t]) (rest := []) X (c_readName l D k sA sV f h va sa p t a n x hh ht ha hn hp s.heap.size) (hm_cwV hts me_ClaimsReader_readName wl_ClaimsReader_40 rfl rfl ⟨Nat.le_of_ble_eq_true rfl, Nat.le_of_ble_eq_true rfl⟩) (hm_preVZ hZ hS hA hM hK hh rfl) rfl rfl hl.1 rfl (lv_room (Nat.le_of_ble_eq_true rfl)) d_ClaimsReader_readsMember_2 ⟨Nat.le_of_ble_eq_true rfl, Nat.le_of_ble_eq_true rfl⟩) (fun r3 f1 H locs p2 hM hS => ?_)
  obtain ⟨rfl, g4, hfr5⟩ := p2
  refine lv_istore_n (lv' := [(2, .int (z_ni (z_nm n x p))), (0, .ref h), (1, .ref t)]) hx hb d_ClaimsReader_readsMember_5 rfl hl (by decide) rfl (fun ls hl => ?_)
  refine lv_iload_n hx hb d_ClaimsReader_readsMember_6 rfl (lv_at hl 0 rfl) ?_
  refine lv_if_lt (tgt := 29) hx hb d_ClaimsReader_readsMember_7 (by decide) (fun h6 => ?_) (fun h6 => ?_)
  · refine lv_iconst (v := 0) hx hb d_ClaimsReader_readsMember_29 (by decide) ?_
    have g7 : f1 va = some (.inl (k 0, 5, .inl rd)) := hfr5 _ _ ((hm_neA hh hva).symm) hva
    have g8 : f1 sa = some (.inl (k 1, 5, .inl rs)) := hfr5 _ _ ((hm_neA hh hsa).symm) hsa
    exact hm_zret X hQ hr hlk hK hM hS rfl d_ClaimsReader_readsMember_30 ⟨(p + z_nl (z_nm n x p)), rd, rs, Or.inr ⟨rfl, (by unfold z_mem; rw [z_ni_neg h6 (fun j hj => (z_nm_some hj).1)])⟩, g4, g7, g8, (fun zq zx n0 n1 n2 hq => by have t0 := hq; have t1 := hfr5 _ _ n0 t0; exact t1)⟩
  · obtain ⟨j, hnm⟩ := z_ni_pos h6
    have hj := z_nm_some hnm
    have g7 : f1 h = some (.inr (7, [.ref va, .ref sa, .int (nI (p + st_len.getD (7 + j) 0))])) := (show nI (p + z_nl (z_nm n x p)) = nI (p + st_len.getD (7 + j) 0) from by rw [hnm]; rfl) ▸ g4
    refine lv_aload_n hx hb d_ClaimsReader_readsMember_10 rfl (lv_at hl 1 rfl) ?_
    refine hm_get X hK hM g7 fl_ClaimsReader_15 (v := .ref sa) rfl d_ClaimsReader_readsMember_11 ?_
    refine lv_iload_n hx hb d_ClaimsReader_readsMember_14 rfl (lv_at hl 0 rfl) ?_
    have g8 : f1 sa = some (.inl (k 1, 5, .inl rs)) := hfr5 _ _ ((hm_neA hh hsa).symm) hsa
    refine hm_zald X hK hM g8 1 rfl j (by rw [hnm]; rfl) hj.1 (by decide) d_ClaimsReader_readsMember_15 ?_
    refine lv_if_ne (tgt := 29) hx hb d_ClaimsReader_readsMember_16 (by decide) (fun h9 => ?_) (fun h9 => ?_)
    · refine lv_iconst (v := 0) hx hb d_ClaimsReader_readsMember_29 (by decide) ?_
      have g10 : f1 va = some (.inl (k 0, 5, .inl rd)) := hfr5 _ _ ((hm_neA hh hva).symm) hva
      exact hm_zret X hQ hr hlk hK hM hS rfl d_ClaimsReader_readsMember_30 ⟨(p + st_len.getD (7 + j) 0), rd, rs, Or.inr ⟨rfl, (by unfold z_mem; rw [hnm]; exact if_pos h9)⟩, g7, g10, g8, (fun zq zx n0 n1 n2 hq => by have t0 := hq; have t1 := hfr5 _ _ n0 t0; exact t1)⟩
    · refine lv_aload_n hx hb d_ClaimsReader_readsMember_19 rfl (lv_at hl 1 rfl) ?_
      refine lv_aload_n hx hb d_ClaimsReader_readsMember_20 rfl (lv_at hl 2 rfl) ?_
      refine lv_bipush (v := 58) hx hb d_ClaimsReader_readsMember_21 (by decide) ?_
      have g10 : f1 t = some (.inr (5, [.ref a, .int (nI n)])) := hfr5 _ _ (hm_neI ht hh (by decide)) ht
      have g11 : f1 a = some (.inl (k 2, 120, .inl x)) := hfr5 _ _ ((hm_neA hh ha).symm) ha
      have g12 : f1 va = some (.inl (k 0, 5, .inl rd)) := hfr5 _ _ ((hm_neA hh hva).symm) hva
      refine hm_calli hS hM hA (va_runV (As := [.ref t, .int 58]) (rest := []) X (c_readsMark l D k f1 h va sa (p + st_len.getD (7 + j) 0) t a n x 58 g7 g10 g11 hn hj.2.2 (by decide) H.size) (hm_cwV hts me_ClaimsReader_readsMark wl_ClaimsReader_26 rfl rfl ⟨Nat.le_of_ble_eq_true rfl, Nat.le_of_ble_eq_true rfl⟩) (hm_preV hM hK g7 rfl) rfl rfl hl.1 rfl (lv_room (Nat.le_of_ble_eq_true rfl)) d_ClaimsReader_readsMember_23 ⟨Nat.le_of_ble_eq_true rfl, Nat.le_of_ble_eq_true rfl⟩) (fun r15 f13 H locs p14 hM hS => ?_)
      obtain ⟨rfl, g16, hfr17⟩ := p14
      refine lv_if_ne (tgt := 31) hx hb d_ClaimsReader_readsMember_26 (by decide) (fun h18 => ?_) (fun h18 => ?_)
      · obtain ⟨p2, hp2⟩ := z_b_some h18
        have hp3 := z_mk_le hj.2.2 hp2
        have g19 : f13 h = some (.inr (7, [.ref va, .ref sa, .int (nI p2)])) := (show nI (z_mkA n x (p + st_len.getD (7 + j) 0) 58) = nI p2 from by rw [z_mk_A hp2]) ▸ g16
        refine lv_aload_n hx hb d_ClaimsReader_readsMember_31 rfl (lv_at hl 1 rfl) ?_
        refine hm_get X hK hM g19 fl_ClaimsReader_15 (v := .ref sa) rfl d_ClaimsReader_readsMember_32 ?_
        refine lv_iload_n hx hb d_ClaimsReader_readsMember_35 rfl (lv_at hl 0 rfl) ?_
        refine lv_iconst (v := 1) hx hb d_ClaimsReader_readsMember_36 (by decide) ?_
        have g20 : f13 sa = some (.inl (k 1, 5, .inl rs)) := hfr17 _ _ ((hm_neA g7 g8).symm) g8
        refine hm_zast X hK hM hS g20 1 rfl j (by rw [hnm]; rfl) hj.1 (by decide) (y := 1) rfl d_ClaimsReader_readsMember_37 (fun f21 H locs e22 hM hS => ?_)
        refine lv_aload_n hx hb d_ClaimsReader_readsMember_38 rfl (lv_at hl 1 rfl) ?_
        have g23 : f21 h = some (.inr (7, [.ref va, .ref sa, .int (nI p2)])) := by rw [e22, hm_up_n (hm_neA g19 g20)]; exact g19
        refine hm_get X hK hM g23 fl_ClaimsReader_11 (v := .ref va) rfl d_ClaimsReader_readsMember_39 ?_
        refine lv_iload_n hx hb d_ClaimsReader_readsMember_42 rfl (lv_at hl 0 rfl) ?_
        refine lv_aload_n hx hb d_ClaimsReader_readsMember_43 rfl (lv_at hl 1 rfl) ?_
        refine lv_aload_n hx hb d_ClaimsReader_readsMember_44 rfl (lv_at hl 2 rfl) ?_
        have g24 : f13 t = some (.inr (5, [.ref a, .int (nI n)])) := hfr17 _ _ (hm_neI g10 g7 (by decide)) g10
        have g25 : f21 t = some (.inr (5, [.ref a, .int (nI n)])) := by rw [e22, hm_up_n (hm_neA g24 g20)]; exact g24
        have g26 : f13 a = some (.inl (k 2, 120, .inl x)) := hfr17 _ _ ((hm_neA g7 g11).symm) g11
        have g27 : f21 a = some (.inl (k 2, 120, .inl x)) := by rw [e22, hm_up_n (hm_neL g26 g20 (by decide))]; exact g26
        have g28 : f13 va = some (.inl (k 0, 5, .inl rd)) := hfr17 _ _ ((hm_neA g7 g12).symm) g12
        have g29 : f21 va = some (.inl (k 0, 5, .inl rd)) := by rw [e22, hm_up_n hvs]; exact g28
        have g30 : f21 sa = some (.inl (k 1, 5, .inl (upd rs j 1))) := by rw [e22, hm_up_s]
        refine hm_calli hS hM hA (va_runV (As := [.ref t]) (rest := [.int (z_ni (z_nm n x p)), .ref va]) X (c_readNumber l D k f21 h va sa p2 t a n x g23 g25 g27 hn hp3.1 H.size) (hm_cwV hts me_ClaimsReader_readNumber wl_ClaimsReader_44 rfl rfl ⟨Nat.le_of_ble_eq_true rfl, Nat.le_of_ble_eq_true rfl⟩) (hm_preV hM hK g23 rfl) rfl rfl hl.1 rfl (lv_room (Nat.le_of_ble_eq_true rfl)) d_ClaimsReader_readsMember_45 ⟨Nat.le_of_ble_eq_true rfl, Nat.le_of_ble_eq_true rfl⟩) (fun r33 f31 H locs p32 hM hS => ?_)
        obtain ⟨rfl, g34, hfr35⟩ := p32
        have g36 : f31 va = some (.inl (k 0, 5, .inl rd)) := hfr35 _ _ ((hm_neA g23 g29).symm) g29
        refine hm_iast X hK hM hS g36 0 rfl j (by rw [hnm]; rfl) hj.1 (by decide) d_ClaimsReader_readsMember_48 (fun f37 H locs e38 hM hS => ?_)
        refine lv_aload_n hx hb d_ClaimsReader_readsMember_49 rfl (lv_at hl 1 rfl) ?_
        have g39 : f37 h = some (.inr (7, [.ref va, .ref sa, .int (nI (z_na n x p2))])) := by rw [e38, hm_up_n (hm_neA g34 g36)]; exact g34
        refine hm_get X hK hM g39 fl_ClaimsReader_11 (v := .ref va) rfl d_ClaimsReader_readsMember_50 ?_
        refine lv_iload_n hx hb d_ClaimsReader_readsMember_53 rfl (lv_at hl 0 rfl) ?_
        have g40 : f37 va = some (.inl (k 0, 5, .inl (upd rd j (z_nr n x p2)))) := by rw [e38, hm_up_s]
        refine hm_iald X hK hM g40 0 rfl j (by rw [hnm]; rfl) hj.1 (by decide) d_ClaimsReader_readsMember_54 ?_
        refine lv_if_lt (tgt := 62) hx hb d_ClaimsReader_readsMember_55 (by decide) (fun h41 => ?_) (fun h41 => ?_)
        · have hneg : z_nr n x p2 < 0 := by have z := h41; simpa [upd] using z
          refine lv_iconst (v := 0) hx hb d_ClaimsReader_readsMember_62 (by decide) ?_
          have g42 : f31 sa = some (.inl (k 1, 5, .inl (upd rs j 1))) := hfr35 _ _ ((hm_neA g23 g30).symm) g30
          have g43 : f37 sa = some (.inl (k 1, 5, .inl (upd rs j 1))) := by rw [e38, hm_up_n hvs.symm]; exact g42
          exact hm_zret X hQ hr hlk hK hM hS rfl d_ClaimsReader_readsMember_63 ⟨(z_na n x p2), (upd rd j (z_nr n x p2)), (upd rs j 1), Or.inr ⟨rfl, (by unfold z_mem; rw [hnm]; show (if ¬ rs j = 0 then none else _) = _; rw [if_neg (fun z => z h9), hp2]; exact if_pos hneg)⟩, g39, g40, g43, (fun zq zx n0 n1 n2 hq => by have t0 := hq; have t1 := hfr5 _ _ n0 t0; have t2 := hfr17 _ _ n0 t1; have t3 := hm_keep e22 n2 t2; have t4 := hfr35 _ _ n0 t3; have t5 := hm_keep e38 n1 t4; exact t5)⟩
        · have hneg : ¬ z_nr n x p2 < 0 := by have z := h41; simpa [upd] using z
          refine lv_iconst (v := 1) hx hb d_ClaimsReader_readsMember_58 (by decide) ?_
          refine lv_goto (tgt := 63) hx hb d_ClaimsReader_readsMember_59 (by decide) ?_
          have g42 : f31 sa = some (.inl (k 1, 5, .inl (upd rs j 1))) := hfr35 _ _ ((hm_neA g23 g30).symm) g30
          have g43 : f37 sa = some (.inl (k 1, 5, .inl (upd rs j 1))) := by rw [e38, hm_up_n hvs.symm]; exact g42
          exact hm_zret X hQ hr hlk hK hM hS rfl d_ClaimsReader_readsMember_63 ⟨(z_na n x p2), (upd rd j (z_nr n x p2)), (upd rs j 1), Or.inl ⟨rfl, (by unfold z_mem; rw [hnm]; show (if ¬ rs j = 0 then none else _) = _; rw [if_neg (fun z => z h9), hp2]; exact if_neg hneg)⟩, g39, g40, g43, (fun zq zx n0 n1 n2 hq => by have t0 := hq; have t1 := hfr5 _ _ n0 t0; have t2 := hfr17 _ _ n0 t1; have t3 := hm_keep e22 n2 t2; have t4 := hfr35 _ _ n0 t3; have t5 := hm_keep e38 n1 t4; exact t5)⟩
      · refine lv_iconst (v := 0) hx hb d_ClaimsReader_readsMember_29 (by decide) ?_
        have g19 : f13 va = some (.inl (k 0, 5, .inl rd)) := hfr17 _ _ ((hm_neA g7 g12).symm) g12
        have g20 : f13 sa = some (.inl (k 1, 5, .inl rs)) := hfr17 _ _ ((hm_neA g7 g8).symm) g8
        exact hm_zret X hQ hr hlk hK hM hS rfl d_ClaimsReader_readsMember_30 ⟨(z_mkA n x (p + st_len.getD (7 + j) 0) 58), rd, rs, Or.inr ⟨rfl, (by unfold z_mem; rw [hnm]; show (if ¬ rs j = 0 then none else _) = none; rw [if_neg (fun z => z h9), z_b_none h18])⟩, g16, g19, g20, (fun zq zx n0 n1 n2 hq => by have t0 := hq; have t1 := hfr5 _ _ n0 t0; have t2 := hfr17 _ _ n0 t1; exact t2)⟩
set_option maxHeartbeats 4000000 in
set_option maxRecDepth 100000 in
theorem c_reads (l : Launch) (D : va_G) (k : Nat → ClassId) (sA sV : Nat → Nat) (f : hm) (h : Nat) (va : Nat) (sa : Nat) (z : Int32) (t : Nat) (a : Nat) (n : Nat) (x : Nat → Int32) (rd : Nat → Int32) (rs : Nat → Int32) (hh : f h = some (.inr (7, [.ref va, .ref sa, .int z]))) (ht : f t = some (.inr (5, [.ref a, .int (nI n)]))) (ha : f a = some (.inl (k 2, 120, .inl x))) (hva : f va = some (.inl (k 0, 5, .inl rd))) (hsa : f sa = some (.inl (k 1, 5, .inl rs))) (hn : n ≤ 120) (hvs : va ≠ sa) : hm_MiZ l sA sV D vwCl (tyL k) y_ClaimsReader_reads (Cond.code y_ClaimsReader_reads b_ClaimsReader_reads 3 (some .boolean) :: TB) ({ frames := 7, cells := 0, slots := 0, locals := 153 }) [.ref h, .ref t] f (fun (r : Int32) (f1 : hm) => ∃ (p' : Nat) (rd' : Nat → Int32) (rs' : Nat → Int32), ((r = 1 ∧ z_read n x rs rd = some rd') ∨ (r = 0 ∧ z_read n x rs rd = none)) ∧ f1 h = some (.inr (7, [.ref va, .ref sa, .int (nI p')])) ∧ f1 va = some (.inl (k 0, 5, .inl rd')) ∧ f1 sa = some (.inl (k 1, 5, .inl rs')) ∧ ∀ (zq : Nat) (zx : va_E), zq ≠ h → zq ≠ va → zq ≠ sa → f zq = some zx → f1 zq = some zx) 0 0 := by
  refine hm_enterZ (Qc := fun sz => va_Qi _ (hm_R D vwCl (tyL k) f sz) (hm_A f sz)) (by decide) rfl (Nat.le_of_ble_eq_true rfl) ?_
  intro pg e s m below meth cd ls hZ X0 hr hlk hin hK hM hS hA hl Q hQ
  have X : CallFix pg m cd b_ClaimsReader_reads 3 s ([.ref h, .ref t] : List Value).toArray TB R_ClaimsReader := ⟨X0.1, X0.2.1, X0.2.2.1, X0.2.2.2.1, fun w h => X0.2.2.2.2 w (List.mem_cons_of_mem _ h)⟩
  have hx := X.1; have hb := X.2.1; have hml := X.2.2.1; have hown := X.2.2.2.1; have hts := X.2.2.2.2
  have hl : lv_has ls 3 [(0, .ref h), (1, .ref t)] := hl
  refine lv_aload_n hx hb d_ClaimsReader_reads_0 rfl (lv_at hl 0 rfl) ?_
  refine hm_callv hS hM hA (va_runV (As := []) (rest := []) X (c_begin l D k f h va sa z rs hh hsa  s.heap.size) (hm_cwV hts me_ClaimsReader_begin wl_ClaimsReader_23 rfl rfl ⟨Nat.le_of_ble_eq_true rfl, Nat.le_of_ble_eq_true rfl⟩) (hm_preV hM hK hh rfl) rfl rfl hl.1 rfl (lv_room (Nat.le_of_ble_eq_true rfl)) d_ClaimsReader_reads_1 ⟨Nat.le_of_ble_eq_true rfl, Nat.le_of_ble_eq_true rfl⟩) (fun f1 H locs p2 hM hS => ?_)
  obtain ⟨g3, g4, hfr5⟩ := p2
  refine lv_iconst (v := 0) hx hb d_ClaimsReader_reads_4 (by decide) ?_
  refine lv_istore_n (lv' := [(2, .int 0), (0, .ref h), (1, .ref t)]) hx hb d_ClaimsReader_reads_5 rfl hl (by decide) rfl (fun ls hl => ?_)
  have g6 : f1 t = some (.inr (5, [.ref a, .int (nI n)])) := hfr5 _ _ (hm_neI ht hh (by decide)) (hm_neA ht hsa) ht
  have g7 : f1 a = some (.inl (k 2, 120, .inl x)) := hfr5 _ _ ((hm_neA hh ha).symm) (hm_neL ha hsa (by decide)) ha
  have g8 : f1 va = some (.inl (k 0, 5, .inl rd)) := hfr5 _ _ ((hm_neA hh hva).symm) hvs hva
  have loop6 : ∀ (fu : Nat) (j : Nat) (p1 : Nat) (rs1 : Nat → Int32) (rd1 : Nat → Int32) (fL : hm) (H : Heap) (locs : List Loc) (ls : Array Slot) (hmu : 5 - j < fu) (hj : j ≤ 5) (hp1 : p1 ≤ n) (hinv : z_run n x 5 0 0 (z_clr rs 5) rd = z_run n x (5 - j) j p1 rs1 rd1) (hh : fL h = some (.inr (7, [.ref va, .ref sa, .int (nI p1)]))) (ht : fL t = some (.inr (5, [.ref a, .int (nI n)]))) (ha : fL a = some (.inl (k 2, 120, .inl x))) (hva : fL va = some (.inl (k 0, 5, .inl rd1))) (hsa : fL sa = some (.inl (k 1, 5, .inl rs1))) (hfr : ∀ (q : Nat) (x : va_E), q ≠ h → q ≠ va → q ≠ sa → f q = some x → fL q = some x) (hM : hm_W D vwCl (hm_A f s.heap.size) fL H) (hS : va_S (hm_A f s.heap.size) s.heap H locs) (hl : lv_has ls 3 [(0, .ref h), (1, .ref t), (2, .int (nI j))]), W pg l e ({ frames := 7, cells := 0, slots := 0, locals := 153 }) s m ([.ref h, .ref t] : List Value).toArray below meth cd H locs 0 0 Q (F0 m 6 ls []) := by
    intro fu
    induction fu with
    | zero => intro j p1 rs1 rd1 fL H locs ls hmu; exact absurd hmu (Nat.not_lt_zero _)
    | succ fu ih =>
      intro j p1 rs1 rd1 fL H locs ls hmu hj hp1 hinv hh ht ha hva hsa hfr hM hS hl
      refine lv_iload_n hx hb d_ClaimsReader_reads_6 rfl (lv_at hl 2 rfl) ?_
      refine lv_iconst (v := 5) hx hb d_ClaimsReader_reads_7 (by decide) ?_
      refine lv_icmp_ge (tgt := 46) hx hb d_ClaimsReader_reads_8 (by decide) (fun h9 => ?_) (fun h9 => ?_)
      · have hge : 5 - j = 0 := by have z2 := (nI_leI (a := 5) (b := j) (by decide) (by omega)).mp h9; omega
        refine lv_aload_n hx hb d_ClaimsReader_reads_46 rfl (lv_at hl 0 rfl) ?_
        refine lv_aload_n hx hb d_ClaimsReader_reads_47 rfl (lv_at hl 1 rfl) ?_
        refine lv_bipush (v := 125) hx hb d_ClaimsReader_reads_48 (by decide) ?_
        refine hm_calli hS hM hA (va_runV (As := [.ref t, .int 125]) (rest := []) X (c_readsMark l D k fL h va sa p1 t a n x 125 hh ht ha hn hp1 (by decide) H.size) (hm_cwV hts me_ClaimsReader_readsMark wl_ClaimsReader_26 rfl rfl ⟨Nat.le_of_ble_eq_true rfl, Nat.le_of_ble_eq_true rfl⟩) (hm_preV hM hK hh rfl) rfl rfl hl.1 rfl (lv_room (Nat.le_of_ble_eq_true rfl)) d_ClaimsReader_reads_50 ⟨Nat.le_of_ble_eq_true rfl, Nat.le_of_ble_eq_true rfl⟩) (fun r12 f10 H locs p11 hM hS => ?_)
        obtain ⟨rfl, g13, hfr14⟩ := p11
        refine lv_if_eq (tgt := 71) hx hb d_ClaimsReader_reads_53 (by decide) (fun h15 => ?_) (fun h15 => ?_)
        · refine lv_iconst (v := 0) hx hb d_ClaimsReader_reads_71 (by decide) ?_
          have g16 : f10 va = some (.inl (k 0, 5, .inl rd1)) := hfr14 _ _ ((hm_neA hh hva).symm) hva
          have g17 : f10 sa = some (.inl (k 1, 5, .inl rs1)) := hfr14 _ _ ((hm_neA hh hsa).symm) hsa
          exact hm_zret X hQ hr hlk hK hM hS rfl d_ClaimsReader_reads_72 ⟨(z_mkA n x p1 125), rd1, rs1, Or.inr ⟨rfl, (by unfold z_read; rw [hinv, hge]; exact if_neg (fun z => by rw [z_b_none h15] at z; cases z))⟩, g13, g16, g17, (fun zq zx n0 n1 n2 hq => by have t0 := hfr _ _ n0 n1 n2 hq; have t1 := hfr14 _ _ n0 t0; exact t1)⟩
        · obtain ⟨q9, hq9⟩ := z_b_some h15
          have hq8 := z_mk_le hp1 hq9
          have g16 : f10 h = some (.inr (7, [.ref va, .ref sa, .int (nI q9)])) := (show nI (z_mkA n x p1 125) = nI q9 from by rw [z_mk_A hq9]) ▸ g13
          refine lv_aload_n hx hb d_ClaimsReader_reads_56 rfl (lv_at hl 0 rfl) ?_
          refine hm_get X hK hM g16 fl_ClaimsReader_19 (v := .int (nI q9)) rfl d_ClaimsReader_reads_57 ?_
          refine lv_aload_n hx hb d_ClaimsReader_reads_60 rfl (lv_at hl 1 rfl) ?_
          have g17 : f10 t = some (.inr (5, [.ref a, .int (nI n)])) := hfr14 _ _ (hm_neI ht hh (by decide)) ht
          have g18 : f10 a = some (.inl (k 2, 120, .inl x)) := hfr14 _ _ ((hm_neA hh ha).symm) ha
          have g19 : f10 va = some (.inl (k 0, 5, .inl rd1)) := hfr14 _ _ ((hm_neA hh hva).symm) hva
          have g20 : f10 sa = some (.inl (k 1, 5, .inl rs1)) := hfr14 _ _ ((hm_neA hh hsa).symm) hsa
          refine hm_calli hS hM hA (va_runV (As := []) (rest := [.int (nI q9)]) X (c_Text_size l D k f10 t a (nI n) g17  H.size) (hm_cwV hts me_Text_size wl_ClaimsReader_34 rfl rfl ⟨Nat.le_of_ble_eq_true rfl, Nat.le_of_ble_eq_true rfl⟩) (hm_preV hM hK g17 rfl) rfl rfl hl.1 rfl (lv_room (Nat.le_of_ble_eq_true rfl)) d_ClaimsReader_reads_61 ⟨Nat.le_of_ble_eq_true rfl, Nat.le_of_ble_eq_true rfl⟩) (fun r23 f21 H locs p22 hM hS => ?_)
          obtain ⟨rfl, rfl⟩ := p22
          refine lv_icmp_ne (tgt := 71) hx hb d_ClaimsReader_reads_64 (by decide) (fun h24 => ?_) (fun h24 => ?_)
          · have hat : ¬ q9 = n := fun z => h24 ((nI_eq (by omega) (by omega)).mpr z)
            refine lv_iconst (v := 0) hx hb d_ClaimsReader_reads_71 (by decide) ?_
            exact hm_zret X hQ hr hlk hK hM hS rfl d_ClaimsReader_reads_72 ⟨q9, rd1, rs1, Or.inr ⟨rfl, (by unfold z_read; rw [hinv, hge]; exact if_neg (fun z => hat (Option.some.inj (hq9.symm.trans z))))⟩, g16, g19, g20, (fun zq zx n0 n1 n2 hq => by have t0 := hfr _ _ n0 n1 n2 hq; have t1 := hfr14 _ _ n0 t0; exact t1)⟩
          · have hat : q9 = n := (nI_eq (by omega) (by omega)).mp h24
            refine lv_iconst (v := 1) hx hb d_ClaimsReader_reads_67 (by decide) ?_
            refine lv_goto (tgt := 72) hx hb d_ClaimsReader_reads_68 (by decide) ?_
            exact hm_zret X hQ hr hlk hK hM hS rfl d_ClaimsReader_reads_72 ⟨q9, rd1, rs1, Or.inl ⟨rfl, (by unfold z_read; rw [hinv, hge]; exact if_pos (hq9.trans (congrArg some hat)))⟩, g16, g19, g20, (fun zq zx n0 n1 n2 hq => by have t0 := hfr _ _ n0 n1 n2 hq; have t1 := hfr14 _ _ n0 t0; exact t1)⟩
      · have hlt : j < 5 := by have z2 := mt (nI_leI (a := 5) (b := j) (by decide) (by omega)).mpr h9; omega
        refine lv_aload_n hx hb d_ClaimsReader_reads_11 rfl (lv_at hl 0 rfl) ?_
        refine lv_aload_n hx hb d_ClaimsReader_reads_12 rfl (lv_at hl 1 rfl) ?_
        refine lv_iload_n hx hb d_ClaimsReader_reads_13 rfl (lv_at hl 2 rfl) ?_
        refine lv_if_ne (tgt := 22) hx hb d_ClaimsReader_reads_14 (by decide) (fun h10 => ?_) (fun h10 => ?_)
        · have hY : (if j = 0 then (123 : Int32) else 44) = 44 := if_neg (fun z => h10 ((nI_eq (a := j) (b := 0) (by omega) (by decide)).mpr z))
          refine lv_bipush (v := 44) hx hb d_ClaimsReader_reads_22 (by decide) ?_
          refine hm_calli hS hM hA (va_runV (As := [.ref t, .int 44]) (rest := []) X (c_readsMark l D k fL h va sa p1 t a n x 44 hh ht ha hn hp1 (by decide) H.size) (hm_cwV hts me_ClaimsReader_readsMark wl_ClaimsReader_26 rfl rfl ⟨Nat.le_of_ble_eq_true rfl, Nat.le_of_ble_eq_true rfl⟩) (hm_preV hM hK hh rfl) rfl rfl hl.1 rfl (lv_room (Nat.le_of_ble_eq_true rfl)) d_ClaimsReader_reads_24 ⟨Nat.le_of_ble_eq_true rfl, Nat.le_of_ble_eq_true rfl⟩) (fun r13 f11 H locs p12 hM hS => ?_)
          obtain ⟨rfl, g14, hfr15⟩ := p12
          refine lv_if_eq (tgt := 38) hx hb d_ClaimsReader_reads_27 (by decide) (fun h16 => ?_) (fun h16 => ?_)
          · refine lv_iconst (v := 0) hx hb d_ClaimsReader_reads_38 (by decide) ?_
            have g17 : f11 va = some (.inl (k 0, 5, .inl rd1)) := hfr15 _ _ ((hm_neA hh hva).symm) hva
            have g18 : f11 sa = some (.inl (k 1, 5, .inl rs1)) := hfr15 _ _ ((hm_neA hh hsa).symm) hsa
            exact hm_zret X hQ hr hlk hK hM hS rfl d_ClaimsReader_reads_39 ⟨(z_mkA n x p1 44), rd1, rs1, Or.inr ⟨rfl, (by unfold z_read; rw [hinv, show 5 - j = (5 - (j + 1)) + 1 by omega]; rw [z_run_n1 (by rw [hY]; exact z_b_none h16)])⟩, g14, g17, g18, (fun zq zx n0 n1 n2 hq => by have t0 := hfr _ _ n0 n1 n2 hq; have t1 := hfr15 _ _ n0 t0; exact t1)⟩
          · obtain ⟨q1, hq1⟩ := z_b_some h16
            have g17 : f11 h = some (.inr (7, [.ref va, .ref sa, .int (nI q1)])) := (show nI (z_mkA n x p1 44) = nI q1 from by rw [z_mk_A hq1]) ▸ g14
            refine lv_aload_n hx hb d_ClaimsReader_reads_30 rfl (lv_at hl 0 rfl) ?_
            refine lv_aload_n hx hb d_ClaimsReader_reads_31 rfl (lv_at hl 1 rfl) ?_
            have g18 : f11 t = some (.inr (5, [.ref a, .int (nI n)])) := hfr15 _ _ (hm_neI ht hh (by decide)) ht
            have g19 : f11 a = some (.inl (k 2, 120, .inl x)) := hfr15 _ _ ((hm_neA hh ha).symm) ha
            have g20 : f11 va = some (.inl (k 0, 5, .inl rd1)) := hfr15 _ _ ((hm_neA hh hva).symm) hva
            have g21 : f11 sa = some (.inl (k 1, 5, .inl rs1)) := hfr15 _ _ ((hm_neA hh hsa).symm) hsa
            refine hm_calli hS hM hA (va_runV (As := [.ref t]) (rest := []) X (c_readsMember l D k sA sV f11 h va sa q1 t a n x rd1 rs1 g17 g18 g19 g20 g21 hn (z_mk_le hp1 hq1).1 hvs H.size) (hm_cwV hts me_ClaimsReader_readsMember wl_ClaimsReader_30 rfl rfl ⟨Nat.le_of_ble_eq_true rfl, Nat.le_of_ble_eq_true rfl⟩) (hm_preVZ hZ hS hA hM hK g17 rfl) rfl rfl hl.1 rfl (lv_room (Nat.le_of_ble_eq_true rfl)) d_ClaimsReader_reads_32 ⟨Nat.le_of_ble_eq_true rfl, Nat.le_of_ble_eq_true rfl⟩) (fun r24 f22 H locs p23 hM hS => ?_)
            obtain ⟨x25, x26, x27, h28, g29, g30, g31, hfr32⟩ := p23
            rcases h28 with ⟨hr1, hmem⟩ | ⟨hr1, hmem⟩
            · refine hm_top (z := 1) hr1 ?_
              refine lv_if_ne (tgt := 40) hx hb d_ClaimsReader_reads_35 (by decide) (fun h33 => ?_) (fun h33 => ?_)
              · refine lv_iinc (lv' := [(2, .int (nI (j + 1))), (0, .ref h), (1, .ref t)]) hx hb d_ClaimsReader_reads_40 hl (k := 2) rfl (hm_inc _) (by decide) rfl (fun ls hl => ?_)
                refine lv_goto (tgt := 6) hx hb d_ClaimsReader_reads_43 (by decide) ?_
                have g34 : f22 t = some (.inr (5, [.ref a, .int (nI n)])) := hfr32 _ _ (hm_neI g18 g17 (by decide)) (hm_neA g18 g20) (hm_neA g18 g21) g18
                have g35 : f22 a = some (.inl (k 2, 120, .inl x)) := hfr32 _ _ ((hm_neA g17 g19).symm) (hm_neL g19 g20 (by decide)) (hm_neL g19 g21 (by decide)) g19
                exact ih (j + 1) x25 x27 x26 f22 H locs ls (by omega) (by omega) (z_mem_le hmem (z_mk_le hp1 hq1).1) (by rw [hinv, show 5 - j = (5 - (j + 1)) + 1 by omega]; exact z_run_s (by rw [hY]; exact hq1) hmem) g29 g34 g35 g30 g31 (fun zq zx n0 n1 n2 hq => by have t0 := hfr _ _ n0 n1 n2 hq; have t1 := hfr15 _ _ n0 t0; have t2 := hfr32 _ _ n0 n1 n2 t1; exact t2) hM hS (lv_sub hl [1, 2, 0] rfl)
              · exact absurd h33 (by decide)
            · refine hm_top (z := 0) hr1 ?_
              refine lv_if_ne (tgt := 40) hx hb d_ClaimsReader_reads_35 (by decide) (fun h33 => ?_) (fun h33 => ?_)
              · exact absurd h33 (by decide)
              · refine lv_iconst (v := 0) hx hb d_ClaimsReader_reads_38 (by decide) ?_
                exact hm_zret X hQ hr hlk hK hM hS rfl d_ClaimsReader_reads_39 ⟨x25, x26, x27, Or.inr ⟨rfl, (by unfold z_read; rw [hinv, show 5 - j = (5 - (j + 1)) + 1 by omega]; rw [z_run_n2 (by rw [hY]; exact hq1) hmem])⟩, g29, g30, g31, (fun zq zx n0 n1 n2 hq => by have t0 := hfr _ _ n0 n1 n2 hq; have t1 := hfr15 _ _ n0 t0; have t2 := hfr32 _ _ n0 n1 n2 t1; exact t2)⟩
        · have hY : (if j = 0 then (123 : Int32) else 44) = 123 := if_pos ((nI_eq (a := j) (b := 0) (by omega) (by decide)).mp h10)
          refine lv_bipush (v := 123) hx hb d_ClaimsReader_reads_17 (by decide) ?_
          refine lv_goto (tgt := 24) hx hb d_ClaimsReader_reads_19 (by decide) ?_
          refine hm_calli hS hM hA (va_runV (As := [.ref t, .int 123]) (rest := []) X (c_readsMark l D k fL h va sa p1 t a n x 123 hh ht ha hn hp1 (by decide) H.size) (hm_cwV hts me_ClaimsReader_readsMark wl_ClaimsReader_26 rfl rfl ⟨Nat.le_of_ble_eq_true rfl, Nat.le_of_ble_eq_true rfl⟩) (hm_preV hM hK hh rfl) rfl rfl hl.1 rfl (lv_room (Nat.le_of_ble_eq_true rfl)) d_ClaimsReader_reads_24 ⟨Nat.le_of_ble_eq_true rfl, Nat.le_of_ble_eq_true rfl⟩) (fun r13 f11 H locs p12 hM hS => ?_)
          obtain ⟨rfl, g14, hfr15⟩ := p12
          refine lv_if_eq (tgt := 38) hx hb d_ClaimsReader_reads_27 (by decide) (fun h16 => ?_) (fun h16 => ?_)
          · refine lv_iconst (v := 0) hx hb d_ClaimsReader_reads_38 (by decide) ?_
            have g17 : f11 va = some (.inl (k 0, 5, .inl rd1)) := hfr15 _ _ ((hm_neA hh hva).symm) hva
            have g18 : f11 sa = some (.inl (k 1, 5, .inl rs1)) := hfr15 _ _ ((hm_neA hh hsa).symm) hsa
            exact hm_zret X hQ hr hlk hK hM hS rfl d_ClaimsReader_reads_39 ⟨(z_mkA n x p1 123), rd1, rs1, Or.inr ⟨rfl, (by unfold z_read; rw [hinv, show 5 - j = (5 - (j + 1)) + 1 by omega]; rw [z_run_n1 (by rw [hY]; exact z_b_none h16)])⟩, g14, g17, g18, (fun zq zx n0 n1 n2 hq => by have t0 := hfr _ _ n0 n1 n2 hq; have t1 := hfr15 _ _ n0 t0; exact t1)⟩
          · obtain ⟨q1, hq1⟩ := z_b_some h16
            have g17 : f11 h = some (.inr (7, [.ref va, .ref sa, .int (nI q1)])) := (show nI (z_mkA n x p1 123) = nI q1 from by rw [z_mk_A hq1]) ▸ g14
            refine lv_aload_n hx hb d_ClaimsReader_reads_30 rfl (lv_at hl 0 rfl) ?_
            refine lv_aload_n hx hb d_ClaimsReader_reads_31 rfl (lv_at hl 1 rfl) ?_
            have g18 : f11 t = some (.inr (5, [.ref a, .int (nI n)])) := hfr15 _ _ (hm_neI ht hh (by decide)) ht
            have g19 : f11 a = some (.inl (k 2, 120, .inl x)) := hfr15 _ _ ((hm_neA hh ha).symm) ha
            have g20 : f11 va = some (.inl (k 0, 5, .inl rd1)) := hfr15 _ _ ((hm_neA hh hva).symm) hva
            have g21 : f11 sa = some (.inl (k 1, 5, .inl rs1)) := hfr15 _ _ ((hm_neA hh hsa).symm) hsa
            refine hm_calli hS hM hA (va_runV (As := [.ref t]) (rest := []) X (c_readsMember l D k sA sV f11 h va sa q1 t a n x rd1 rs1 g17 g18 g19 g20 g21 hn (z_mk_le hp1 hq1).1 hvs H.size) (hm_cwV hts me_ClaimsReader_readsMember wl_ClaimsReader_30 rfl rfl ⟨Nat.le_of_ble_eq_true rfl, Nat.le_of_ble_eq_true rfl⟩) (hm_preVZ hZ hS hA hM hK g17 rfl) rfl rfl hl.1 rfl (lv_room (Nat.le_of_ble_eq_true rfl)) d_ClaimsReader_reads_32 ⟨Nat.le_of_ble_eq_true rfl, Nat.le_of_ble_eq_true rfl⟩) (fun r24 f22 H locs p23 hM hS => ?_)
            obtain ⟨x25, x26, x27, h28, g29, g30, g31, hfr32⟩ := p23
            rcases h28 with ⟨hr1, hmem⟩ | ⟨hr1, hmem⟩
            · refine hm_top (z := 1) hr1 ?_
              refine lv_if_ne (tgt := 40) hx hb d_ClaimsReader_reads_35 (by decide) (fun h33 => ?_) (fun h33 => ?_)
              · refine lv_iinc (lv' := [(2, .int (nI (j + 1))), (0, .ref h), (1, .ref t)]) hx hb d_ClaimsReader_reads_40 hl (k := 2) rfl (hm_inc _) (by decide) rfl (fun ls hl => ?_)
                refine lv_goto (tgt := 6) hx hb d_ClaimsReader_reads_43 (by decide) ?_
                have g34 : f22 t = some (.inr (5, [.ref a, .int (nI n)])) := hfr32 _ _ (hm_neI g18 g17 (by decide)) (hm_neA g18 g20) (hm_neA g18 g21) g18
                have g35 : f22 a = some (.inl (k 2, 120, .inl x)) := hfr32 _ _ ((hm_neA g17 g19).symm) (hm_neL g19 g20 (by decide)) (hm_neL g19 g21 (by decide)) g19
                exact ih (j + 1) x25 x27 x26 f22 H locs ls (by omega) (by omega) (z_mem_le hmem (z_mk_le hp1 hq1).1) (by rw [hinv, show 5 - j = (5 - (j + 1)) + 1 by omega]; exact z_run_s (by rw [hY]; exact hq1) hmem) g29 g34 g35 g30 g31 (fun zq zx n0 n1 n2 hq => by have t0 := hfr _ _ n0 n1 n2 hq; have t1 := hfr15 _ _ n0 t0; have t2 := hfr32 _ _ n0 n1 n2 t1; exact t2) hM hS (lv_sub hl [1, 2, 0] rfl)
              · exact absurd h33 (by decide)
            · refine hm_top (z := 0) hr1 ?_
              refine lv_if_ne (tgt := 40) hx hb d_ClaimsReader_reads_35 (by decide) (fun h33 => ?_) (fun h33 => ?_)
              · exact absurd h33 (by decide)
              · refine lv_iconst (v := 0) hx hb d_ClaimsReader_reads_38 (by decide) ?_
                exact hm_zret X hQ hr hlk hK hM hS rfl d_ClaimsReader_reads_39 ⟨x25, x26, x27, Or.inr ⟨rfl, (by unfold z_read; rw [hinv, show 5 - j = (5 - (j + 1)) + 1 by omega]; rw [z_run_n2 (by rw [hY]; exact hq1) hmem])⟩, g29, g30, g31, (fun zq zx n0 n1 n2 hq => by have t0 := hfr _ _ n0 n1 n2 hq; have t1 := hfr15 _ _ n0 t0; have t2 := hfr32 _ _ n0 n1 n2 t1; exact t2)⟩
  exact loop6 _ 0 0 (z_clr rs 5) rd f1 H locs ls (Nat.lt_succ_self _) (Nat.zero_le _) (Nat.zero_le _) rfl g3 g6 g7 g8 g4 (fun zq zx n0 n1 n2 hq => by have t0 := hq; have t1 := hfr5 _ _ n0 n2 t0; exact t1) hM hS (lv_sub hl [1, 2, 0] rfl)
