theorem d_GrantServerModel_put_0 : decode b_GrantServerModel_put 0 = .ok (.aload_n 0, 1) := by decide +kernel
theorem d_GrantServerModel_put_1 : decode b_GrantServerModel_put 1 = .ok (.getfield 23, 3) := by decide +kernel
theorem d_GrantServerModel_put_4 : decode b_GrantServerModel_put 4 = .ok (.iload_n 1, 1) := by decide +kernel
theorem d_GrantServerModel_put_5 : decode b_GrantServerModel_put 5 = .ok (.iload_n 2, 1) := by decide +kernel
theorem d_GrantServerModel_put_6 : decode b_GrantServerModel_put 6 = .ok (.iastore, 1) := by decide +kernel
theorem d_GrantServerModel_put_7 : decode b_GrantServerModel_put 7 = .ok (.aload_n 0, 1) := by decide +kernel
theorem d_GrantServerModel_put_8 : decode b_GrantServerModel_put 8 = .ok (.getfield 26, 3) := by decide +kernel
theorem d_GrantServerModel_put_11 : decode b_GrantServerModel_put 11 = .ok (.iload_n 1, 1) := by decide +kernel
theorem d_GrantServerModel_put_12 : decode b_GrantServerModel_put 12 = .ok (.iload_n 3, 1) := by decide +kernel
theorem d_GrantServerModel_put_13 : decode b_GrantServerModel_put 13 = .ok (.iastore, 1) := by decide +kernel
theorem d_GrantServerModel_put_14 : decode b_GrantServerModel_put 14 = .ok (.aload_n 0, 1) := by decide +kernel
theorem d_GrantServerModel_put_15 : decode b_GrantServerModel_put 15 = .ok (.getfield 29, 3) := by decide +kernel
theorem d_GrantServerModel_put_18 : decode b_GrantServerModel_put 18 = .ok (.iload_n 1, 1) := by decide +kernel
theorem d_GrantServerModel_put_19 : decode b_GrantServerModel_put 19 = .ok (.iload 4, 2) := by decide +kernel
theorem d_GrantServerModel_put_21 : decode b_GrantServerModel_put 21 = .ok (.iastore, 1) := by decide +kernel
theorem d_GrantServerModel_put_22 : decode b_GrantServerModel_put 22 = .ok (.aload_n 0, 1) := by decide +kernel
theorem d_GrantServerModel_put_23 : decode b_GrantServerModel_put 23 = .ok (.getfield 32, 3) := by decide +kernel
theorem d_GrantServerModel_put_26 : decode b_GrantServerModel_put 26 = .ok (.iload_n 1, 1) := by decide +kernel
theorem d_GrantServerModel_put_27 : decode b_GrantServerModel_put 27 = .ok (.iload 5, 2) := by decide +kernel
theorem d_GrantServerModel_put_29 : decode b_GrantServerModel_put 29 = .ok (.iastore, 1) := by decide +kernel
theorem d_GrantServerModel_put_30 : decode b_GrantServerModel_put 30 = .ok (.aload_n 0, 1) := by decide +kernel
theorem d_GrantServerModel_put_31 : decode b_GrantServerModel_put 31 = .ok (.getfield 35, 3) := by decide +kernel
theorem d_GrantServerModel_put_34 : decode b_GrantServerModel_put 34 = .ok (.iload_n 1, 1) := by decide +kernel
theorem d_GrantServerModel_put_35 : decode b_GrantServerModel_put 35 = .ok (.iconst 0, 1) := by decide +kernel
theorem d_GrantServerModel_put_36 : decode b_GrantServerModel_put 36 = .ok (.bastore, 1) := by decide +kernel
theorem d_GrantServerModel_put_37 : decode b_GrantServerModel_put 37 = .ok (.aload_n 0, 1) := by decide +kernel
theorem d_GrantServerModel_put_38 : decode b_GrantServerModel_put 38 = .ok (.getfield 39, 3) := by decide +kernel
theorem d_GrantServerModel_put_41 : decode b_GrantServerModel_put 41 = .ok (.iload_n 1, 1) := by decide +kernel
theorem d_GrantServerModel_put_42 : decode b_GrantServerModel_put 42 = .ok (.iload 6, 2) := by decide +kernel
theorem d_GrantServerModel_put_44 : decode b_GrantServerModel_put 44 = .ok (.iastore, 1) := by decide +kernel
theorem d_GrantServerModel_put_45 : decode b_GrantServerModel_put 45 = .ok (.return_, 1) := by decide +kernel
theorem d_GrantServerModel_activeTokens_0 : decode b_GrantServerModel_activeTokens 0 = .ok (.iconst 0, 1) := by decide +kernel
theorem d_GrantServerModel_activeTokens_1 : decode b_GrantServerModel_activeTokens 1 = .ok (.istore_n 1, 1) := by decide +kernel
theorem d_GrantServerModel_activeTokens_2 : decode b_GrantServerModel_activeTokens 2 = .ok (.bipush 16, 2) := by decide +kernel
theorem d_GrantServerModel_activeTokens_4 : decode b_GrantServerModel_activeTokens 4 = .ok (.istore_n 2, 1) := by decide +kernel
theorem d_GrantServerModel_activeTokens_5 : decode b_GrantServerModel_activeTokens 5 = .ok (.iload_n 2, 1) := by decide +kernel
theorem d_GrantServerModel_activeTokens_6 : decode b_GrantServerModel_activeTokens 6 = .ok (.bipush 64, 2) := by decide +kernel
theorem d_GrantServerModel_activeTokens_8 : decode b_GrantServerModel_activeTokens 8 = .ok (.if_icmp .ge 25, 3) := by decide +kernel
theorem d_GrantServerModel_activeTokens_11 : decode b_GrantServerModel_activeTokens 11 = .ok (.aload_n 0, 1) := by decide +kernel
theorem d_GrantServerModel_activeTokens_12 : decode b_GrantServerModel_activeTokens 12 = .ok (.iload_n 2, 1) := by decide +kernel
theorem d_GrantServerModel_activeTokens_13 : decode b_GrantServerModel_activeTokens 13 = .ok (.invokevirtual 145, 3) := by decide +kernel
theorem d_GrantServerModel_activeTokens_16 : decode b_GrantServerModel_activeTokens 16 = .ok (.ifCond .eq 9, 3) := by decide +kernel
theorem d_GrantServerModel_activeTokens_19 : decode b_GrantServerModel_activeTokens 19 = .ok (.iload_n 1, 1) := by decide +kernel
theorem d_GrantServerModel_activeTokens_20 : decode b_GrantServerModel_activeTokens 20 = .ok (.iconst 1, 1) := by decide +kernel
theorem d_GrantServerModel_activeTokens_21 : decode b_GrantServerModel_activeTokens 21 = .ok (.iadd, 1) := by decide +kernel
theorem d_GrantServerModel_activeTokens_22 : decode b_GrantServerModel_activeTokens 22 = .ok (.goto 4, 3) := by decide +kernel
theorem d_GrantServerModel_activeTokens_25 : decode b_GrantServerModel_activeTokens 25 = .ok (.iload_n 1, 1) := by decide +kernel
theorem d_GrantServerModel_activeTokens_26 : decode b_GrantServerModel_activeTokens 26 = .ok (.istore_n 1, 1) := by decide +kernel
theorem d_GrantServerModel_activeTokens_27 : decode b_GrantServerModel_activeTokens 27 = .ok (.iinc 2 1, 3) := by decide +kernel
theorem d_GrantServerModel_activeTokens_30 : decode b_GrantServerModel_activeTokens 30 = .ok (.goto (-25), 3) := by decide +kernel
theorem d_GrantServerModel_activeTokens_33 : decode b_GrantServerModel_activeTokens 33 = .ok (.iload_n 1, 1) := by decide +kernel
theorem d_GrantServerModel_activeTokens_34 : decode b_GrantServerModel_activeTokens 34 = .ok (.ireturn, 1) := by decide +kernel
theorem d_GrantServerModel_sweep_0 : decode b_GrantServerModel_sweep 0 = .ok (.iconst 0, 1) := by decide +kernel
theorem d_GrantServerModel_sweep_1 : decode b_GrantServerModel_sweep 1 = .ok (.istore_n 1, 1) := by decide +kernel
theorem d_GrantServerModel_sweep_2 : decode b_GrantServerModel_sweep 2 = .ok (.iconst 0, 1) := by decide +kernel
theorem d_GrantServerModel_sweep_3 : decode b_GrantServerModel_sweep 3 = .ok (.istore_n 2, 1) := by decide +kernel
theorem d_GrantServerModel_sweep_4 : decode b_GrantServerModel_sweep 4 = .ok (.iload_n 2, 1) := by decide +kernel
theorem d_GrantServerModel_sweep_5 : decode b_GrantServerModel_sweep 5 = .ok (.bipush 64, 2) := by decide +kernel
theorem d_GrantServerModel_sweep_7 : decode b_GrantServerModel_sweep 7 = .ok (.if_icmp .ge 41, 3) := by decide +kernel
theorem d_GrantServerModel_sweep_10 : decode b_GrantServerModel_sweep 10 = .ok (.aload_n 0, 1) := by decide +kernel
theorem d_GrantServerModel_sweep_11 : decode b_GrantServerModel_sweep 11 = .ok (.getfield 23, 3) := by decide +kernel
theorem d_GrantServerModel_sweep_14 : decode b_GrantServerModel_sweep 14 = .ok (.iload_n 2, 1) := by decide +kernel
theorem d_GrantServerModel_sweep_15 : decode b_GrantServerModel_sweep 15 = .ok (.iaload, 1) := by decide +kernel
theorem d_GrantServerModel_sweep_16 : decode b_GrantServerModel_sweep 16 = .ok (.ifCond .eq 26, 3) := by decide +kernel
theorem d_GrantServerModel_sweep_19 : decode b_GrantServerModel_sweep 19 = .ok (.aload_n 0, 1) := by decide +kernel
theorem d_GrantServerModel_sweep_20 : decode b_GrantServerModel_sweep 20 = .ok (.getfield 32, 3) := by decide +kernel
theorem d_GrantServerModel_sweep_23 : decode b_GrantServerModel_sweep 23 = .ok (.iload_n 2, 1) := by decide +kernel
theorem d_GrantServerModel_sweep_24 : decode b_GrantServerModel_sweep 24 = .ok (.iaload, 1) := by decide +kernel
theorem d_GrantServerModel_sweep_25 : decode b_GrantServerModel_sweep 25 = .ok (.aload_n 0, 1) := by decide +kernel
theorem d_GrantServerModel_sweep_26 : decode b_GrantServerModel_sweep 26 = .ok (.getfield 104, 3) := by decide +kernel
theorem d_GrantServerModel_sweep_29 : decode b_GrantServerModel_sweep 29 = .ok (.if_icmp .gt 13, 3) := by decide +kernel
theorem d_GrantServerModel_sweep_32 : decode b_GrantServerModel_sweep 32 = .ok (.aload_n 0, 1) := by decide +kernel
theorem d_GrantServerModel_sweep_33 : decode b_GrantServerModel_sweep 33 = .ok (.getfield 23, 3) := by decide +kernel
theorem d_GrantServerModel_sweep_36 : decode b_GrantServerModel_sweep 36 = .ok (.iload_n 2, 1) := by decide +kernel
theorem d_GrantServerModel_sweep_37 : decode b_GrantServerModel_sweep 37 = .ok (.iconst 0, 1) := by decide +kernel
theorem d_GrantServerModel_sweep_38 : decode b_GrantServerModel_sweep 38 = .ok (.iastore, 1) := by decide +kernel
theorem d_GrantServerModel_sweep_39 : decode b_GrantServerModel_sweep 39 = .ok (.iinc 1 1, 3) := by decide +kernel
theorem d_GrantServerModel_sweep_42 : decode b_GrantServerModel_sweep 42 = .ok (.iinc 2 1, 3) := by decide +kernel
theorem d_GrantServerModel_sweep_45 : decode b_GrantServerModel_sweep 45 = .ok (.goto (-41), 3) := by decide +kernel
theorem d_GrantServerModel_sweep_48 : decode b_GrantServerModel_sweep 48 = .ok (.iload_n 1, 1) := by decide +kernel
theorem d_GrantServerModel_sweep_49 : decode b_GrantServerModel_sweep 49 = .ok (.ireturn, 1) := by decide +kernel
theorem d_GrantServerModel_count_0 : decode b_GrantServerModel_count 0 = .ok (.iload_n 1, 1) := by decide +kernel
theorem d_GrantServerModel_count_1 : decode b_GrantServerModel_count 1 = .ok (.ifCond .lt 8, 3) := by decide +kernel
theorem d_GrantServerModel_count_4 : decode b_GrantServerModel_count 4 = .ok (.iload_n 1, 1) := by decide +kernel
theorem d_GrantServerModel_count_5 : decode b_GrantServerModel_count 5 = .ok (.iconst 2, 1) := by decide +kernel
theorem d_GrantServerModel_count_6 : decode b_GrantServerModel_count 6 = .ok (.if_icmp .le 5, 3) := by decide +kernel
theorem d_GrantServerModel_count_9 : decode b_GrantServerModel_count 9 = .ok (.iconst (-1), 1) := by decide +kernel
theorem d_GrantServerModel_count_10 : decode b_GrantServerModel_count 10 = .ok (.ireturn, 1) := by decide +kernel
theorem d_GrantServerModel_count_11 : decode b_GrantServerModel_count 11 = .ok (.iconst 0, 1) := by decide +kernel
theorem d_GrantServerModel_count_12 : decode b_GrantServerModel_count 12 = .ok (.istore_n 3, 1) := by decide +kernel
theorem d_GrantServerModel_count_13 : decode b_GrantServerModel_count 13 = .ok (.iload_n 1, 1) := by decide +kernel
theorem d_GrantServerModel_count_14 : decode b_GrantServerModel_count 14 = .ok (.invokestatic 93, 3) := by decide +kernel
theorem d_GrantServerModel_count_17 : decode b_GrantServerModel_count 17 = .ok (.istore 4, 2) := by decide +kernel
theorem d_GrantServerModel_count_19 : decode b_GrantServerModel_count 19 = .ok (.iload 4, 2) := by decide +kernel
theorem d_GrantServerModel_count_21 : decode b_GrantServerModel_count 21 = .ok (.iload_n 1, 1) := by decide +kernel
theorem d_GrantServerModel_count_22 : decode b_GrantServerModel_count 22 = .ok (.invokestatic 96, 3) := by decide +kernel
theorem d_GrantServerModel_count_25 : decode b_GrantServerModel_count 25 = .ok (.if_icmp .ge 40, 3) := by decide +kernel
theorem d_GrantServerModel_count_28 : decode b_GrantServerModel_count 28 = .ok (.aload_n 0, 1) := by decide +kernel
theorem d_GrantServerModel_count_29 : decode b_GrantServerModel_count 29 = .ok (.getfield 23, 3) := by decide +kernel
theorem d_GrantServerModel_count_32 : decode b_GrantServerModel_count 32 = .ok (.iload 4, 2) := by decide +kernel
theorem d_GrantServerModel_count_34 : decode b_GrantServerModel_count 34 = .ok (.iaload, 1) := by decide +kernel
theorem d_GrantServerModel_count_35 : decode b_GrantServerModel_count 35 = .ok (.ifCond .eq 22, 3) := by decide +kernel
theorem d_GrantServerModel_count_38 : decode b_GrantServerModel_count 38 = .ok (.iload_n 2, 1) := by decide +kernel
theorem d_GrantServerModel_count_39 : decode b_GrantServerModel_count 39 = .ok (.ifCond .eq 12, 3) := by decide +kernel
theorem d_GrantServerModel_count_42 : decode b_GrantServerModel_count 42 = .ok (.aload_n 0, 1) := by decide +kernel
theorem d_GrantServerModel_count_43 : decode b_GrantServerModel_count 43 = .ok (.iload 4, 2) := by decide +kernel
theorem d_GrantServerModel_count_45 : decode b_GrantServerModel_count 45 = .ok (.invokevirtual 145, 3) := by decide +kernel
theorem d_GrantServerModel_count_48 : decode b_GrantServerModel_count 48 = .ok (.ifCond .eq 9, 3) := by decide +kernel
theorem d_GrantServerModel_count_51 : decode b_GrantServerModel_count 51 = .ok (.iload_n 3, 1) := by decide +kernel
theorem d_GrantServerModel_count_52 : decode b_GrantServerModel_count 52 = .ok (.iconst 1, 1) := by decide +kernel
theorem d_GrantServerModel_count_53 : decode b_GrantServerModel_count 53 = .ok (.iadd, 1) := by decide +kernel
theorem d_GrantServerModel_count_54 : decode b_GrantServerModel_count 54 = .ok (.goto 4, 3) := by decide +kernel
theorem d_GrantServerModel_count_57 : decode b_GrantServerModel_count 57 = .ok (.iload_n 3, 1) := by decide +kernel
theorem d_GrantServerModel_count_58 : decode b_GrantServerModel_count 58 = .ok (.istore_n 3, 1) := by decide +kernel
theorem d_GrantServerModel_count_59 : decode b_GrantServerModel_count 59 = .ok (.iinc 4 1, 3) := by decide +kernel
theorem d_GrantServerModel_count_62 : decode b_GrantServerModel_count 62 = .ok (.goto (-43), 3) := by decide +kernel
theorem d_GrantServerModel_count_65 : decode b_GrantServerModel_count 65 = .ok (.iload_n 3, 1) := by decide +kernel
theorem d_GrantServerModel_count_66 : decode b_GrantServerModel_count 66 = .ok (.ireturn, 1) := by decide +kernel
theorem d_GrantServerModel_say_0 : decode b_GrantServerModel_say 0 = .ok (.aload_n 0, 1) := by decide +kernel
theorem d_GrantServerModel_say_1 : decode b_GrantServerModel_say 1 = .ok (.getfield 63, 3) := by decide +kernel
theorem d_GrantServerModel_say_4 : decode b_GrantServerModel_say 4 = .ok (.aload_n 0, 1) := by decide +kernel
theorem d_GrantServerModel_say_5 : decode b_GrantServerModel_say 5 = .ok (.getfield 121, 3) := by decide +kernel
theorem d_GrantServerModel_say_8 : decode b_GrantServerModel_say 8 = .ok (.iload_n 1, 1) := by decide +kernel
theorem d_GrantServerModel_say_9 : decode b_GrantServerModel_say 9 = .ok (.iload_n 2, 1) := by decide +kernel
theorem d_GrantServerModel_say_10 : decode b_GrantServerModel_say 10 = .ok (.iadd, 1) := by decide +kernel
theorem d_GrantServerModel_say_11 : decode b_GrantServerModel_say 11 = .ok (.iastore, 1) := by decide +kernel
theorem d_GrantServerModel_say_12 : decode b_GrantServerModel_say 12 = .ok (.aload_n 0, 1) := by decide +kernel
theorem d_GrantServerModel_say_13 : decode b_GrantServerModel_say 13 = .ok (.dup, 1) := by decide +kernel
theorem d_GrantServerModel_say_14 : decode b_GrantServerModel_say 14 = .ok (.getfield 121, 3) := by decide +kernel
theorem d_GrantServerModel_say_17 : decode b_GrantServerModel_say 17 = .ok (.iconst 1, 1) := by decide +kernel
theorem d_GrantServerModel_say_18 : decode b_GrantServerModel_say 18 = .ok (.iadd, 1) := by decide +kernel
theorem d_GrantServerModel_say_19 : decode b_GrantServerModel_say 19 = .ok (.putfield 121, 3) := by decide +kernel
theorem d_GrantServerModel_say_22 : decode b_GrantServerModel_say 22 = .ok (.return_, 1) := by decide +kernel
theorem d_GrantServerModel_sign_0 : decode b_GrantServerModel_sign 0 = .ok (.iload_n 0, 1) := by decide +kernel
theorem d_GrantServerModel_sign_1 : decode b_GrantServerModel_sign 1 = .ok (.bipush 26, 2) := by decide +kernel
theorem d_GrantServerModel_sign_3 : decode b_GrantServerModel_sign 3 = .ok (.if_icmp .ge 10, 3) := by decide +kernel
theorem d_GrantServerModel_sign_6 : decode b_GrantServerModel_sign 6 = .ok (.bipush 65, 2) := by decide +kernel
theorem d_GrantServerModel_sign_8 : decode b_GrantServerModel_sign 8 = .ok (.iload_n 0, 1) := by decide +kernel
theorem d_GrantServerModel_sign_9 : decode b_GrantServerModel_sign 9 = .ok (.iadd, 1) := by decide +kernel
theorem d_GrantServerModel_sign_10 : decode b_GrantServerModel_sign 10 = .ok (.goto 48, 3) := by decide +kernel
theorem d_GrantServerModel_sign_13 : decode b_GrantServerModel_sign 13 = .ok (.iload_n 0, 1) := by decide +kernel
theorem d_GrantServerModel_sign_14 : decode b_GrantServerModel_sign 14 = .ok (.bipush 52, 2) := by decide +kernel
theorem d_GrantServerModel_sign_16 : decode b_GrantServerModel_sign 16 = .ok (.if_icmp .ge 13, 3) := by decide +kernel
theorem d_GrantServerModel_sign_19 : decode b_GrantServerModel_sign 19 = .ok (.bipush 97, 2) := by decide +kernel
theorem d_GrantServerModel_sign_21 : decode b_GrantServerModel_sign 21 = .ok (.iload_n 0, 1) := by decide +kernel
theorem d_GrantServerModel_sign_22 : decode b_GrantServerModel_sign 22 = .ok (.iadd, 1) := by decide +kernel
theorem d_GrantServerModel_sign_23 : decode b_GrantServerModel_sign 23 = .ok (.bipush 26, 2) := by decide +kernel
theorem d_GrantServerModel_sign_25 : decode b_GrantServerModel_sign 25 = .ok (.isub, 1) := by decide +kernel
theorem d_GrantServerModel_sign_26 : decode b_GrantServerModel_sign 26 = .ok (.goto 32, 3) := by decide +kernel
theorem d_GrantServerModel_sign_29 : decode b_GrantServerModel_sign 29 = .ok (.iload_n 0, 1) := by decide +kernel
theorem d_GrantServerModel_sign_30 : decode b_GrantServerModel_sign 30 = .ok (.bipush 62, 2) := by decide +kernel
theorem d_GrantServerModel_sign_32 : decode b_GrantServerModel_sign 32 = .ok (.if_icmp .ge 13, 3) := by decide +kernel
theorem d_GrantServerModel_sign_35 : decode b_GrantServerModel_sign 35 = .ok (.bipush 48, 2) := by decide +kernel
theorem d_GrantServerModel_sign_37 : decode b_GrantServerModel_sign 37 = .ok (.iload_n 0, 1) := by decide +kernel
theorem d_GrantServerModel_sign_38 : decode b_GrantServerModel_sign 38 = .ok (.iadd, 1) := by decide +kernel
theorem d_GrantServerModel_sign_39 : decode b_GrantServerModel_sign 39 = .ok (.bipush 52, 2) := by decide +kernel
theorem d_GrantServerModel_sign_41 : decode b_GrantServerModel_sign 41 = .ok (.isub, 1) := by decide +kernel
theorem d_GrantServerModel_sign_42 : decode b_GrantServerModel_sign 42 = .ok (.goto 16, 3) := by decide +kernel
theorem d_GrantServerModel_sign_45 : decode b_GrantServerModel_sign 45 = .ok (.iload_n 0, 1) := by decide +kernel
theorem d_GrantServerModel_sign_46 : decode b_GrantServerModel_sign 46 = .ok (.bipush 62, 2) := by decide +kernel
theorem d_GrantServerModel_sign_48 : decode b_GrantServerModel_sign 48 = .ok (.if_icmp .ne 8, 3) := by decide +kernel
theorem d_GrantServerModel_sign_51 : decode b_GrantServerModel_sign 51 = .ok (.bipush 45, 2) := by decide +kernel
theorem d_GrantServerModel_sign_53 : decode b_GrantServerModel_sign 53 = .ok (.goto 5, 3) := by decide +kernel
theorem d_GrantServerModel_sign_56 : decode b_GrantServerModel_sign 56 = .ok (.bipush 95, 2) := by decide +kernel
theorem d_GrantServerModel_sign_58 : decode b_GrantServerModel_sign 58 = .ok (.ireturn, 1) := by decide +kernel
theorem d_GrantServerModel_signValue_0 : decode b_GrantServerModel_signValue 0 = .ok (.iload_n 0, 1) := by decide +kernel
theorem d_GrantServerModel_signValue_1 : decode b_GrantServerModel_signValue 1 = .ok (.bipush 65, 2) := by decide +kernel
theorem d_GrantServerModel_signValue_3 : decode b_GrantServerModel_signValue 3 = .ok (.if_icmp .lt 14, 3) := by decide +kernel
theorem d_GrantServerModel_signValue_6 : decode b_GrantServerModel_signValue 6 = .ok (.iload_n 0, 1) := by decide +kernel
theorem d_GrantServerModel_signValue_7 : decode b_GrantServerModel_signValue 7 = .ok (.bipush 90, 2) := by decide +kernel
theorem d_GrantServerModel_signValue_9 : decode b_GrantServerModel_signValue 9 = .ok (.if_icmp .gt 8, 3) := by decide +kernel
theorem d_GrantServerModel_signValue_12 : decode b_GrantServerModel_signValue 12 = .ok (.iload_n 0, 1) := by decide +kernel
theorem d_GrantServerModel_signValue_13 : decode b_GrantServerModel_signValue 13 = .ok (.bipush 65, 2) := by decide +kernel
theorem d_GrantServerModel_signValue_15 : decode b_GrantServerModel_signValue 15 = .ok (.isub, 1) := by decide +kernel
theorem d_GrantServerModel_signValue_16 : decode b_GrantServerModel_signValue 16 = .ok (.ireturn, 1) := by decide +kernel
theorem d_GrantServerModel_signValue_17 : decode b_GrantServerModel_signValue 17 = .ok (.iload_n 0, 1) := by decide +kernel
theorem d_GrantServerModel_signValue_18 : decode b_GrantServerModel_signValue 18 = .ok (.bipush 97, 2) := by decide +kernel
theorem d_GrantServerModel_signValue_20 : decode b_GrantServerModel_signValue 20 = .ok (.if_icmp .lt 17, 3) := by decide +kernel
theorem d_GrantServerModel_signValue_23 : decode b_GrantServerModel_signValue 23 = .ok (.iload_n 0, 1) := by decide +kernel
theorem d_GrantServerModel_signValue_24 : decode b_GrantServerModel_signValue 24 = .ok (.bipush 122, 2) := by decide +kernel
theorem d_GrantServerModel_signValue_26 : decode b_GrantServerModel_signValue 26 = .ok (.if_icmp .gt 11, 3) := by decide +kernel
theorem d_GrantServerModel_signValue_29 : decode b_GrantServerModel_signValue 29 = .ok (.iload_n 0, 1) := by decide +kernel
theorem d_GrantServerModel_signValue_30 : decode b_GrantServerModel_signValue 30 = .ok (.bipush 97, 2) := by decide +kernel
theorem d_GrantServerModel_signValue_32 : decode b_GrantServerModel_signValue 32 = .ok (.isub, 1) := by decide +kernel
theorem d_GrantServerModel_signValue_33 : decode b_GrantServerModel_signValue 33 = .ok (.bipush 26, 2) := by decide +kernel
theorem d_GrantServerModel_signValue_35 : decode b_GrantServerModel_signValue 35 = .ok (.iadd, 1) := by decide +kernel
theorem d_GrantServerModel_signValue_36 : decode b_GrantServerModel_signValue 36 = .ok (.ireturn, 1) := by decide +kernel
theorem d_GrantServerModel_signValue_37 : decode b_GrantServerModel_signValue 37 = .ok (.iload_n 0, 1) := by decide +kernel
theorem d_GrantServerModel_signValue_38 : decode b_GrantServerModel_signValue 38 = .ok (.bipush 48, 2) := by decide +kernel
theorem d_GrantServerModel_signValue_40 : decode b_GrantServerModel_signValue 40 = .ok (.if_icmp .lt 19, 3) := by decide +kernel
theorem d_GrantServerModel_signValue_43 : decode b_GrantServerModel_signValue 43 = .ok (.iload_n 0, 1) := by decide +kernel
theorem d_GrantServerModel_signValue_44 : decode b_GrantServerModel_signValue 44 = .ok (.bipush 57, 2) := by decide +kernel
theorem d_GrantServerModel_signValue_46 : decode b_GrantServerModel_signValue 46 = .ok (.if_icmp .gt 13, 3) := by decide +kernel
theorem d_GrantServerModel_signValue_49 : decode b_GrantServerModel_signValue 49 = .ok (.iload_n 0, 1) := by decide +kernel
theorem d_GrantServerModel_signValue_50 : decode b_GrantServerModel_signValue 50 = .ok (.bipush 48, 2) := by decide +kernel
theorem d_GrantServerModel_signValue_52 : decode b_GrantServerModel_signValue 52 = .ok (.isub, 1) := by decide +kernel
theorem d_GrantServerModel_signValue_53 : decode b_GrantServerModel_signValue 53 = .ok (.bipush 52, 2) := by decide +kernel
theorem d_GrantServerModel_signValue_55 : decode b_GrantServerModel_signValue 55 = .ok (.iadd, 1) := by decide +kernel
theorem d_GrantServerModel_signValue_56 : decode b_GrantServerModel_signValue 56 = .ok (.goto 26, 3) := by decide +kernel
theorem d_GrantServerModel_signValue_59 : decode b_GrantServerModel_signValue 59 = .ok (.iload_n 0, 1) := by decide +kernel
theorem d_GrantServerModel_signValue_60 : decode b_GrantServerModel_signValue 60 = .ok (.bipush 45, 2) := by decide +kernel
theorem d_GrantServerModel_signValue_62 : decode b_GrantServerModel_signValue 62 = .ok (.if_icmp .ne 8, 3) := by decide +kernel
theorem d_GrantServerModel_signValue_65 : decode b_GrantServerModel_signValue 65 = .ok (.bipush 62, 2) := by decide +kernel
theorem d_GrantServerModel_signValue_67 : decode b_GrantServerModel_signValue 67 = .ok (.goto 15, 3) := by decide +kernel
theorem d_GrantServerModel_signValue_70 : decode b_GrantServerModel_signValue 70 = .ok (.iload_n 0, 1) := by decide +kernel
theorem d_GrantServerModel_signValue_71 : decode b_GrantServerModel_signValue 71 = .ok (.bipush 95, 2) := by decide +kernel
theorem d_GrantServerModel_signValue_73 : decode b_GrantServerModel_signValue 73 = .ok (.if_icmp .ne 8, 3) := by decide +kernel
theorem d_GrantServerModel_signValue_76 : decode b_GrantServerModel_signValue 76 = .ok (.bipush 63, 2) := by decide +kernel
theorem d_GrantServerModel_signValue_78 : decode b_GrantServerModel_signValue 78 = .ok (.goto 4, 3) := by decide +kernel
theorem d_GrantServerModel_signValue_81 : decode b_GrantServerModel_signValue 81 = .ok (.iconst (-1), 1) := by decide +kernel
theorem d_GrantServerModel_signValue_82 : decode b_GrantServerModel_signValue 82 = .ok (.ireturn, 1) := by decide +kernel
theorem d_GrantServerModel_mixed_0 : decode b_GrantServerModel_mixed 0 = .ok (.lload_n 0, 1) := by decide +kernel
theorem d_GrantServerModel_mixed_1 : decode b_GrantServerModel_mixed 1 = .ok (.iload_n 2, 1) := by decide +kernel
theorem d_GrantServerModel_mixed_2 : decode b_GrantServerModel_mixed 2 = .ok (.i2l, 1) := by decide +kernel
theorem d_GrantServerModel_mixed_3 : decode b_GrantServerModel_mixed 3 = .ok (.lxor, 1) := by decide +kernel
theorem d_GrantServerModel_mixed_4 : decode b_GrantServerModel_mixed 4 = .ok (.ldc2_w 158, 3) := by decide +kernel
theorem d_GrantServerModel_mixed_7 : decode b_GrantServerModel_mixed 7 = .ok (.lmul, 1) := by decide +kernel
theorem d_GrantServerModel_mixed_8 : decode b_GrantServerModel_mixed 8 = .ok (.lstore_n 3, 1) := by decide +kernel
theorem d_GrantServerModel_mixed_9 : decode b_GrantServerModel_mixed 9 = .ok (.lload_n 3, 1) := by decide +kernel
theorem d_GrantServerModel_mixed_10 : decode b_GrantServerModel_mixed 10 = .ok (.lload_n 3, 1) := by decide +kernel
theorem d_GrantServerModel_mixed_11 : decode b_GrantServerModel_mixed 11 = .ok (.bipush 29, 2) := by decide +kernel
theorem d_GrantServerModel_mixed_13 : decode b_GrantServerModel_mixed 13 = .ok (.lushr, 1) := by decide +kernel
theorem d_GrantServerModel_mixed_14 : decode b_GrantServerModel_mixed 14 = .ok (.lxor, 1) := by decide +kernel
theorem d_GrantServerModel_mixed_15 : decode b_GrantServerModel_mixed 15 = .ok (.lreturn, 1) := by decide +kernel
theorem d_GrantServerModel_six_0 : decode b_GrantServerModel_six 0 = .ok (.iconst 0, 1) := by decide +kernel
theorem d_GrantServerModel_six_1 : decode b_GrantServerModel_six 1 = .ok (.istore_n 2, 1) := by decide +kernel
theorem d_GrantServerModel_six_2 : decode b_GrantServerModel_six 2 = .ok (.iload_n 1, 1) := by decide +kernel
theorem d_GrantServerModel_six_3 : decode b_GrantServerModel_six 3 = .ok (.istore_n 3, 1) := by decide +kernel
theorem d_GrantServerModel_six_4 : decode b_GrantServerModel_six 4 = .ok (.iload_n 3, 1) := by decide +kernel
theorem d_GrantServerModel_six_5 : decode b_GrantServerModel_six 5 = .ok (.iload_n 1, 1) := by decide +kernel
theorem d_GrantServerModel_six_6 : decode b_GrantServerModel_six 6 = .ok (.bipush 6, 2) := by decide +kernel
theorem d_GrantServerModel_six_8 : decode b_GrantServerModel_six 8 = .ok (.iadd, 1) := by decide +kernel
theorem d_GrantServerModel_six_9 : decode b_GrantServerModel_six 9 = .ok (.if_icmp .ge 52, 3) := by decide +kernel
theorem d_GrantServerModel_six_12 : decode b_GrantServerModel_six 12 = .ok (.iload_n 3, 1) := by decide +kernel
theorem d_GrantServerModel_six_13 : decode b_GrantServerModel_six 13 = .ok (.bipush 8, 2) := by decide +kernel
theorem d_GrantServerModel_six_15 : decode b_GrantServerModel_six 15 = .ok (.aload_n 0, 1) := by decide +kernel
theorem d_GrantServerModel_six_16 : decode b_GrantServerModel_six 16 = .ok (.getfield 121, 3) := by decide +kernel
theorem d_GrantServerModel_six_19 : decode b_GrantServerModel_six 19 = .ok (.imul, 1) := by decide +kernel
theorem d_GrantServerModel_six_20 : decode b_GrantServerModel_six 20 = .ok (.if_icmp .ge 25, 3) := by decide +kernel
theorem d_GrantServerModel_six_23 : decode b_GrantServerModel_six 23 = .ok (.aload_n 0, 1) := by decide +kernel
theorem d_GrantServerModel_six_24 : decode b_GrantServerModel_six 24 = .ok (.getfield 63, 3) := by decide +kernel
theorem d_GrantServerModel_six_27 : decode b_GrantServerModel_six 27 = .ok (.iload_n 3, 1) := by decide +kernel
theorem d_GrantServerModel_six_28 : decode b_GrantServerModel_six 28 = .ok (.bipush 8, 2) := by decide +kernel
theorem d_GrantServerModel_six_30 : decode b_GrantServerModel_six 30 = .ok (.idiv, 1) := by decide +kernel
theorem d_GrantServerModel_six_31 : decode b_GrantServerModel_six 31 = .ok (.iaload, 1) := by decide +kernel
theorem d_GrantServerModel_six_32 : decode b_GrantServerModel_six 32 = .ok (.bipush 7, 2) := by decide +kernel
theorem d_GrantServerModel_six_34 : decode b_GrantServerModel_six 34 = .ok (.iload_n 3, 1) := by decide +kernel
theorem d_GrantServerModel_six_35 : decode b_GrantServerModel_six 35 = .ok (.bipush 8, 2) := by decide +kernel
theorem d_GrantServerModel_six_37 : decode b_GrantServerModel_six 37 = .ok (.irem, 1) := by decide +kernel
theorem d_GrantServerModel_six_38 : decode b_GrantServerModel_six 38 = .ok (.isub, 1) := by decide +kernel
theorem d_GrantServerModel_six_39 : decode b_GrantServerModel_six 39 = .ok (.ishr, 1) := by decide +kernel
theorem d_GrantServerModel_six_40 : decode b_GrantServerModel_six 40 = .ok (.iconst 1, 1) := by decide +kernel
theorem d_GrantServerModel_six_41 : decode b_GrantServerModel_six 41 = .ok (.iand, 1) := by decide +kernel
theorem d_GrantServerModel_six_42 : decode b_GrantServerModel_six 42 = .ok (.goto 4, 3) := by decide +kernel
theorem d_GrantServerModel_six_45 : decode b_GrantServerModel_six 45 = .ok (.iconst 0, 1) := by decide +kernel
theorem d_GrantServerModel_six_46 : decode b_GrantServerModel_six 46 = .ok (.istore 4, 2) := by decide +kernel
theorem d_GrantServerModel_six_48 : decode b_GrantServerModel_six 48 = .ok (.iconst 2, 1) := by decide +kernel
theorem d_GrantServerModel_six_49 : decode b_GrantServerModel_six 49 = .ok (.iload_n 2, 1) := by decide +kernel
theorem d_GrantServerModel_six_50 : decode b_GrantServerModel_six 50 = .ok (.imul, 1) := by decide +kernel
theorem d_GrantServerModel_six_51 : decode b_GrantServerModel_six 51 = .ok (.iload 4, 2) := by decide +kernel
theorem d_GrantServerModel_six_53 : decode b_GrantServerModel_six 53 = .ok (.iadd, 1) := by decide +kernel
theorem d_GrantServerModel_six_54 : decode b_GrantServerModel_six 54 = .ok (.istore_n 2, 1) := by decide +kernel
theorem d_GrantServerModel_six_55 : decode b_GrantServerModel_six 55 = .ok (.iinc 3 1, 3) := by decide +kernel
theorem d_GrantServerModel_six_58 : decode b_GrantServerModel_six 58 = .ok (.goto (-54), 3) := by decide +kernel
theorem d_GrantServerModel_six_61 : decode b_GrantServerModel_six 61 = .ok (.iload_n 2, 1) := by decide +kernel
theorem d_GrantServerModel_six_62 : decode b_GrantServerModel_six 62 = .ok (.ireturn, 1) := by decide +kernel
theorem d_GrantServerModel_wrapPlain_0 : decode b_GrantServerModel_wrapPlain 0 = .ok (.aload_n 0, 1) := by decide +kernel
theorem d_GrantServerModel_wrapPlain_1 : decode b_GrantServerModel_wrapPlain 1 = .ok (.iconst 0, 1) := by decide +kernel
theorem d_GrantServerModel_wrapPlain_2 : decode b_GrantServerModel_wrapPlain 2 = .ok (.putfield 160, 3) := by decide +kernel
theorem d_GrantServerModel_wrapPlain_5 : decode b_GrantServerModel_wrapPlain 5 = .ok (.aload_n 0, 1) := by decide +kernel
theorem d_GrantServerModel_wrapPlain_6 : decode b_GrantServerModel_wrapPlain 6 = .ok (.getfield 69, 3) := by decide +kernel
theorem d_GrantServerModel_wrapPlain_9 : decode b_GrantServerModel_wrapPlain 9 = .ok (.lstore_n 1, 1) := by decide +kernel
theorem d_GrantServerModel_wrapPlain_10 : decode b_GrantServerModel_wrapPlain 10 = .ok (.iconst 0, 1) := by decide +kernel
theorem d_GrantServerModel_wrapPlain_11 : decode b_GrantServerModel_wrapPlain 11 = .ok (.istore_n 3, 1) := by decide +kernel
theorem d_GrantServerModel_wrapPlain_12 : decode b_GrantServerModel_wrapPlain 12 = .ok (.iload_n 3, 1) := by decide +kernel
theorem d_GrantServerModel_wrapPlain_13 : decode b_GrantServerModel_wrapPlain 13 = .ok (.bipush 8, 2) := by decide +kernel
theorem d_GrantServerModel_wrapPlain_15 : decode b_GrantServerModel_wrapPlain 15 = .ok (.aload_n 0, 1) := by decide +kernel
theorem d_GrantServerModel_wrapPlain_16 : decode b_GrantServerModel_wrapPlain 16 = .ok (.getfield 121, 3) := by decide +kernel
theorem d_GrantServerModel_wrapPlain_19 : decode b_GrantServerModel_wrapPlain 19 = .ok (.imul, 1) := by decide +kernel
theorem d_GrantServerModel_wrapPlain_20 : decode b_GrantServerModel_wrapPlain 20 = .ok (.if_icmp .ge 47, 3) := by decide +kernel
theorem d_GrantServerModel_wrapPlain_23 : decode b_GrantServerModel_wrapPlain 23 = .ok (.aload_n 0, 1) := by decide +kernel
theorem d_GrantServerModel_wrapPlain_24 : decode b_GrantServerModel_wrapPlain 24 = .ok (.iload_n 3, 1) := by decide +kernel
theorem d_GrantServerModel_wrapPlain_25 : decode b_GrantServerModel_wrapPlain 25 = .ok (.invokevirtual 163, 3) := by decide +kernel
theorem d_GrantServerModel_wrapPlain_28 : decode b_GrantServerModel_wrapPlain 28 = .ok (.invokestatic 166, 3) := by decide +kernel
theorem d_GrantServerModel_wrapPlain_31 : decode b_GrantServerModel_wrapPlain 31 = .ok (.istore 4, 2) := by decide +kernel
theorem d_GrantServerModel_wrapPlain_33 : decode b_GrantServerModel_wrapPlain 33 = .ok (.aload_n 0, 1) := by decide +kernel
theorem d_GrantServerModel_wrapPlain_34 : decode b_GrantServerModel_wrapPlain 34 = .ok (.getfield 60, 3) := by decide +kernel
theorem d_GrantServerModel_wrapPlain_37 : decode b_GrantServerModel_wrapPlain 37 = .ok (.aload_n 0, 1) := by decide +kernel
theorem d_GrantServerModel_wrapPlain_38 : decode b_GrantServerModel_wrapPlain 38 = .ok (.getfield 160, 3) := by decide +kernel
theorem d_GrantServerModel_wrapPlain_41 : decode b_GrantServerModel_wrapPlain 41 = .ok (.iload 4, 2) := by decide +kernel
theorem d_GrantServerModel_wrapPlain_43 : decode b_GrantServerModel_wrapPlain 43 = .ok (.iastore, 1) := by decide +kernel
theorem d_GrantServerModel_wrapPlain_44 : decode b_GrantServerModel_wrapPlain 44 = .ok (.aload_n 0, 1) := by decide +kernel
theorem d_GrantServerModel_wrapPlain_45 : decode b_GrantServerModel_wrapPlain 45 = .ok (.dup, 1) := by decide +kernel
theorem d_GrantServerModel_wrapPlain_46 : decode b_GrantServerModel_wrapPlain 46 = .ok (.getfield 160, 3) := by decide +kernel
theorem d_GrantServerModel_wrapPlain_49 : decode b_GrantServerModel_wrapPlain 49 = .ok (.iconst 1, 1) := by decide +kernel
theorem d_GrantServerModel_wrapPlain_50 : decode b_GrantServerModel_wrapPlain 50 = .ok (.iadd, 1) := by decide +kernel
theorem d_GrantServerModel_wrapPlain_51 : decode b_GrantServerModel_wrapPlain 51 = .ok (.putfield 160, 3) := by decide +kernel
theorem d_GrantServerModel_wrapPlain_54 : decode b_GrantServerModel_wrapPlain 54 = .ok (.lload_n 1, 1) := by decide +kernel
theorem d_GrantServerModel_wrapPlain_55 : decode b_GrantServerModel_wrapPlain 55 = .ok (.iload 4, 2) := by decide +kernel
theorem d_GrantServerModel_wrapPlain_57 : decode b_GrantServerModel_wrapPlain 57 = .ok (.invokestatic 169, 3) := by decide +kernel
theorem d_GrantServerModel_wrapPlain_60 : decode b_GrantServerModel_wrapPlain 60 = .ok (.lstore_n 1, 1) := by decide +kernel
theorem d_GrantServerModel_wrapPlain_61 : decode b_GrantServerModel_wrapPlain 61 = .ok (.iinc 3 6, 3) := by decide +kernel
theorem d_GrantServerModel_wrapPlain_64 : decode b_GrantServerModel_wrapPlain 64 = .ok (.goto (-52), 3) := by decide +kernel
theorem d_GrantServerModel_wrapPlain_67 : decode b_GrantServerModel_wrapPlain 67 = .ok (.aload_n 0, 1) := by decide +kernel
theorem d_GrantServerModel_wrapPlain_68 : decode b_GrantServerModel_wrapPlain 68 = .ok (.getfield 60, 3) := by decide +kernel
theorem d_GrantServerModel_wrapPlain_71 : decode b_GrantServerModel_wrapPlain 71 = .ok (.aload_n 0, 1) := by decide +kernel
theorem d_GrantServerModel_wrapPlain_72 : decode b_GrantServerModel_wrapPlain 72 = .ok (.getfield 160, 3) := by decide +kernel
theorem d_GrantServerModel_wrapPlain_75 : decode b_GrantServerModel_wrapPlain 75 = .ok (.bipush 46, 2) := by decide +kernel
theorem d_GrantServerModel_wrapPlain_77 : decode b_GrantServerModel_wrapPlain 77 = .ok (.iastore, 1) := by decide +kernel
theorem d_GrantServerModel_wrapPlain_78 : decode b_GrantServerModel_wrapPlain 78 = .ok (.aload_n 0, 1) := by decide +kernel
theorem d_GrantServerModel_wrapPlain_79 : decode b_GrantServerModel_wrapPlain 79 = .ok (.dup, 1) := by decide +kernel
theorem d_GrantServerModel_wrapPlain_80 : decode b_GrantServerModel_wrapPlain 80 = .ok (.getfield 160, 3) := by decide +kernel
theorem d_GrantServerModel_wrapPlain_83 : decode b_GrantServerModel_wrapPlain 83 = .ok (.iconst 1, 1) := by decide +kernel
theorem d_GrantServerModel_wrapPlain_84 : decode b_GrantServerModel_wrapPlain 84 = .ok (.iadd, 1) := by decide +kernel
theorem d_GrantServerModel_wrapPlain_85 : decode b_GrantServerModel_wrapPlain 85 = .ok (.putfield 160, 3) := by decide +kernel
theorem d_GrantServerModel_wrapPlain_88 : decode b_GrantServerModel_wrapPlain 88 = .ok (.bipush 9, 2) := by decide +kernel
theorem d_GrantServerModel_wrapPlain_90 : decode b_GrantServerModel_wrapPlain 90 = .ok (.istore_n 3, 1) := by decide +kernel
theorem d_GrantServerModel_wrapPlain_91 : decode b_GrantServerModel_wrapPlain 91 = .ok (.iload_n 3, 1) := by decide +kernel
theorem d_GrantServerModel_wrapPlain_92 : decode b_GrantServerModel_wrapPlain 92 = .ok (.ifCond .lt 42, 3) := by decide +kernel
theorem d_GrantServerModel_wrapPlain_95 : decode b_GrantServerModel_wrapPlain 95 = .ok (.aload_n 0, 1) := by decide +kernel
theorem d_GrantServerModel_wrapPlain_96 : decode b_GrantServerModel_wrapPlain 96 = .ok (.getfield 60, 3) := by decide +kernel
theorem d_GrantServerModel_wrapPlain_99 : decode b_GrantServerModel_wrapPlain 99 = .ok (.aload_n 0, 1) := by decide +kernel
theorem d_GrantServerModel_wrapPlain_100 : decode b_GrantServerModel_wrapPlain 100 = .ok (.getfield 160, 3) := by decide +kernel
theorem d_GrantServerModel_wrapPlain_103 : decode b_GrantServerModel_wrapPlain 103 = .ok (.lload_n 1, 1) := by decide +kernel
theorem d_GrantServerModel_wrapPlain_104 : decode b_GrantServerModel_wrapPlain 104 = .ok (.bipush 6, 2) := by decide +kernel
theorem d_GrantServerModel_wrapPlain_106 : decode b_GrantServerModel_wrapPlain 106 = .ok (.iload_n 3, 1) := by decide +kernel
theorem d_GrantServerModel_wrapPlain_107 : decode b_GrantServerModel_wrapPlain 107 = .ok (.imul, 1) := by decide +kernel
theorem d_GrantServerModel_wrapPlain_108 : decode b_GrantServerModel_wrapPlain 108 = .ok (.lshr, 1) := by decide +kernel
theorem d_GrantServerModel_wrapPlain_109 : decode b_GrantServerModel_wrapPlain 109 = .ok (.ldc2_w 173, 3) := by decide +kernel
theorem d_GrantServerModel_wrapPlain_112 : decode b_GrantServerModel_wrapPlain 112 = .ok (.land, 1) := by decide +kernel
theorem d_GrantServerModel_wrapPlain_113 : decode b_GrantServerModel_wrapPlain 113 = .ok (.l2i, 1) := by decide +kernel
theorem d_GrantServerModel_wrapPlain_114 : decode b_GrantServerModel_wrapPlain 114 = .ok (.invokestatic 166, 3) := by decide +kernel
theorem d_GrantServerModel_wrapPlain_117 : decode b_GrantServerModel_wrapPlain 117 = .ok (.iastore, 1) := by decide +kernel
theorem d_GrantServerModel_wrapPlain_118 : decode b_GrantServerModel_wrapPlain 118 = .ok (.aload_n 0, 1) := by decide +kernel
theorem d_GrantServerModel_wrapPlain_119 : decode b_GrantServerModel_wrapPlain 119 = .ok (.dup, 1) := by decide +kernel
theorem d_GrantServerModel_wrapPlain_120 : decode b_GrantServerModel_wrapPlain 120 = .ok (.getfield 160, 3) := by decide +kernel
theorem d_GrantServerModel_wrapPlain_123 : decode b_GrantServerModel_wrapPlain 123 = .ok (.iconst 1, 1) := by decide +kernel
theorem d_GrantServerModel_wrapPlain_124 : decode b_GrantServerModel_wrapPlain 124 = .ok (.iadd, 1) := by decide +kernel
theorem d_GrantServerModel_wrapPlain_125 : decode b_GrantServerModel_wrapPlain 125 = .ok (.putfield 160, 3) := by decide +kernel
theorem d_GrantServerModel_wrapPlain_128 : decode b_GrantServerModel_wrapPlain 128 = .ok (.iinc 3 (-1), 3) := by decide +kernel
theorem d_GrantServerModel_wrapPlain_131 : decode b_GrantServerModel_wrapPlain 131 = .ok (.goto (-40), 3) := by decide +kernel
theorem d_GrantServerModel_wrapPlain_134 : decode b_GrantServerModel_wrapPlain 134 = .ok (.return_, 1) := by decide +kernel
set_option maxRecDepth 20000 in
theorem fl_GrantServerModel_121 : hm_fl vwCl TB R_GrantServerModel 121 8 28 false .int := ⟨_, _, _, _, cl_GrantServerModel, by decide, (TBm 720 (by decide +kernel) rfl), rfl, rfl⟩
set_option maxRecDepth 20000 in
theorem fl_GrantServerModel_26 : hm_fl vwCl TB R_GrantServerModel 26 8 11 true (.array .int) := ⟨_, _, _, _, cl_GrantServerModel, by decide, (TBm 703 (by decide +kernel) rfl), rfl, rfl⟩
set_option maxRecDepth 20000 in
theorem fl_GrantServerModel_29 : hm_fl vwCl TB R_GrantServerModel 29 8 12 true (.array .int) := ⟨_, _, _, _, cl_GrantServerModel, by decide, (TBm 704 (by decide +kernel) rfl), rfl, rfl⟩
set_option maxRecDepth 20000 in
theorem fl_GrantServerModel_63 : hm_fl vwCl TB R_GrantServerModel 63 8 27 true (.array .int) := ⟨_, _, _, _, cl_GrantServerModel, by decide, (TBm 719 (by decide +kernel) rfl), rfl, rfl⟩
set_option maxRecDepth 20000 in
theorem fl_GrantServerModel_69 : hm_fl vwCl TB R_GrantServerModel 69 8 0 true .long := ⟨_, _, _, _, cl_GrantServerModel, by decide, (TBm 692 (by decide +kernel) rfl), rfl, rfl⟩
set_option maxRecDepth 20000 in
theorem me_GrantServerModel_isActive : hm_meV y_GrantServerModel_isActive b_GrantServerModel_isActive 2 (some .boolean) 1 := ⟨⟨(TBm 878 rfl rfl), (TBm 47 (by decide +kernel) rfl), by decide +kernel⟩, (TBm 877 (by decide +kernel) rfl), (TBm 28 (by decide +kernel) rfl)⟩
set_option maxRecDepth 20000 in
theorem me_GrantServerModel_mixed : hm_meS y_GrantServerModel_mixed b_GrantServerModel_mixed 5 (some .long) 2 := ⟨⟨(TBm 868 rfl rfl), (TBm 47 (by decide +kernel) rfl), by decide +kernel⟩, (TBm 867 (by decide +kernel) rfl)⟩
set_option maxRecDepth 20000 in
theorem me_GrantServerModel_sign : hm_meS y_GrantServerModel_sign b_GrantServerModel_sign 1 (some .int) 1 := ⟨⟨(TBm 865 rfl rfl), (TBm 47 (by decide +kernel) rfl), by decide +kernel⟩, (TBm 864 (by decide +kernel) rfl)⟩
set_option maxRecDepth 20000 in
theorem me_GrantServerModel_six : hm_meV y_GrantServerModel_six b_GrantServerModel_six 5 (some .int) 1 := ⟨⟨(TBm 862 rfl rfl), (TBm 47 (by decide +kernel) rfl), by decide +kernel⟩, (TBm 861 (by decide +kernel) rfl), (TBm 27 (by decide +kernel) rfl)⟩
set_option maxRecDepth 20000 in
theorem wc_GrantServerModel_158 : Cond.constantLong R_GrantServerModel 158 (-7046029254386353131) ∈ TB := TBm 869 (by decide +kernel) rfl
set_option maxRecDepth 20000 in
theorem wc_GrantServerModel_173 : Cond.constantLong R_GrantServerModel 173 63 ∈ TB := TBm 870 (by decide +kernel) rfl
set_option maxRecDepth 20000 in
theorem wl_GrantServerModel_145 : Cond.methodLink R_GrantServerModel 145 y_GrantServerModel_isActive ∈ TB := TBm 875 (by decide +kernel) rfl
set_option maxRecDepth 20000 in
theorem wl_GrantServerModel_163 : Cond.methodLink R_GrantServerModel 163 y_GrantServerModel_six ∈ TB := TBm 859 (by decide +kernel) rfl
set_option maxRecDepth 20000 in
theorem wl_GrantServerModel_166 : Cond.methodLink R_GrantServerModel 166 y_GrantServerModel_sign ∈ TB := TBm 863 (by decide +kernel) rfl
set_option maxRecDepth 20000 in
theorem wl_GrantServerModel_169 : Cond.methodLink R_GrantServerModel 169 y_GrantServerModel_mixed ∈ TB := TBm 866 (by decide +kernel) rfl
set_option maxHeartbeats 4000000 in
set_option maxRecDepth 100000 in
theorem m_c_sign (l : Launch) (D : va_G) (k : Nat → ClassId) (f : hm) (x : Int32) : hm_Mi l D vwCl (tyL k) y_GrantServerModel_sign (Cond.code y_GrantServerModel_sign b_GrantServerModel_sign 1 (some .int) :: TB) ({ frames := 0, cells := 0, slots := 0, locals := 0 }) [.int x] f (fun (r : Int32) (f1 : hm) => m_sign x = r ∧ f = f1) 0 0 := by
  refine hm_enter (Qc := fun sz => va_Qi _ (hm_R D vwCl (tyL k) f sz) (hm_A f sz)) (by decide) rfl (Nat.le_of_ble_eq_true rfl) ?_
  intro p e s m below meth cd ls X0 hr hlk hin hK hM hS hA hl Q hQ
  have X : CallFix p m cd b_GrantServerModel_sign 1 s ([.int x] : List Value).toArray TB R_GrantServerModel := ⟨X0.1, X0.2.1, X0.2.2.1, X0.2.2.2.1, fun w h => X0.2.2.2.2 w (List.mem_cons_of_mem _ h)⟩
  have hx := X.1; have hb := X.2.1; have hml := X.2.2.1; have hown := X.2.2.2.1; have hts := X.2.2.2.2
  have hl : lv_has ls 1 [(0, .int x)] := hl
  refine lv_iload_n hx hb d_GrantServerModel_sign_0 rfl (lv_at hl 0 rfl) ?_
  refine lv_bipush (v := 26) hx hb d_GrantServerModel_sign_1 (by decide) ?_
  refine lv_icmp_ge (tgt := 13) hx hb d_GrantServerModel_sign_3 (by decide) (fun h1 => ?_) (fun h1 => ?_)
  · refine lv_iload_n hx hb d_GrantServerModel_sign_13 rfl (lv_at hl 0 rfl) ?_
    refine lv_bipush (v := 52) hx hb d_GrantServerModel_sign_14 (by decide) ?_
    refine lv_icmp_ge (tgt := 29) hx hb d_GrantServerModel_sign_16 (by decide) (fun h2 => ?_) (fun h2 => ?_)
    · refine lv_iload_n hx hb d_GrantServerModel_sign_29 rfl (lv_at hl 0 rfl) ?_
      refine lv_bipush (v := 62) hx hb d_GrantServerModel_sign_30 (by decide) ?_
      refine lv_icmp_ge (tgt := 45) hx hb d_GrantServerModel_sign_32 (by decide) (fun h3 => ?_) (fun h3 => ?_)
      · refine lv_iload_n hx hb d_GrantServerModel_sign_45 rfl (lv_at hl 0 rfl) ?_
        refine lv_bipush (v := 62) hx hb d_GrantServerModel_sign_46 (by decide) ?_
        refine lv_icmp_ne (tgt := 56) hx hb d_GrantServerModel_sign_48 (by decide) (fun h4 => ?_) (fun h4 => ?_)
        · refine lv_bipush (v := 95) hx hb d_GrantServerModel_sign_56 (by decide) ?_
          exact hm_iret X hQ hr hlk hK hM hS d_GrantServerModel_sign_58 ⟨(by simp [m_sign, h1, Int32.not_lt.mpr h1, h2, Int32.not_lt.mpr h2, h3, Int32.not_lt.mpr h3, h4]), rfl⟩
        · refine lv_bipush (v := 45) hx hb d_GrantServerModel_sign_51 (by decide) ?_
          refine lv_goto (tgt := 58) hx hb d_GrantServerModel_sign_53 (by decide) ?_
          exact hm_iret X hQ hr hlk hK hM hS d_GrantServerModel_sign_58 ⟨(by simp [m_sign, h1, Int32.not_lt.mpr h1, h2, Int32.not_lt.mpr h2, h3, Int32.not_lt.mpr h3, h4]), rfl⟩
      · refine lv_bipush (v := 48) hx hb d_GrantServerModel_sign_35 (by decide) ?_
        refine lv_iload_n hx hb d_GrantServerModel_sign_37 rfl (lv_at hl 0 rfl) ?_
        refine lv_iadd hx hb d_GrantServerModel_sign_38 ?_
        refine lv_bipush (v := 52) hx hb d_GrantServerModel_sign_39 (by decide) ?_
        refine lv_isub hx hb d_GrantServerModel_sign_41 ?_
        refine lv_goto (tgt := 58) hx hb d_GrantServerModel_sign_42 (by decide) ?_
        exact hm_iret X hQ hr hlk hK hM hS d_GrantServerModel_sign_58 ⟨(by simp [m_sign, h1, Int32.not_lt.mpr h1, h2, Int32.not_lt.mpr h2, h3, Int32.not_le.mp h3]), rfl⟩
    · refine lv_bipush (v := 97) hx hb d_GrantServerModel_sign_19 (by decide) ?_
      refine lv_iload_n hx hb d_GrantServerModel_sign_21 rfl (lv_at hl 0 rfl) ?_
      refine lv_iadd hx hb d_GrantServerModel_sign_22 ?_
      refine lv_bipush (v := 26) hx hb d_GrantServerModel_sign_23 (by decide) ?_
      refine lv_isub hx hb d_GrantServerModel_sign_25 ?_
      refine lv_goto (tgt := 58) hx hb d_GrantServerModel_sign_26 (by decide) ?_
      exact hm_iret X hQ hr hlk hK hM hS d_GrantServerModel_sign_58 ⟨(by simp [m_sign, h1, Int32.not_lt.mpr h1, h2, Int32.not_le.mp h2]), rfl⟩
  · refine lv_bipush (v := 65) hx hb d_GrantServerModel_sign_6 (by decide) ?_
    refine lv_iload_n hx hb d_GrantServerModel_sign_8 rfl (lv_at hl 0 rfl) ?_
    refine lv_iadd hx hb d_GrantServerModel_sign_9 ?_
    refine lv_goto (tgt := 58) hx hb d_GrantServerModel_sign_10 (by decide) ?_
    exact hm_iret X hQ hr hlk hK hM hS d_GrantServerModel_sign_58 ⟨(by simp [m_sign, h1, Int32.not_le.mp h1]), rfl⟩
set_option maxHeartbeats 4000000 in
set_option maxRecDepth 100000 in
theorem m_c_sval (l : Launch) (D : va_G) (k : Nat → ClassId) (f : hm) (x : Int32) : hm_Mi l D vwCl (tyL k) y_GrantServerModel_signValue (Cond.code y_GrantServerModel_signValue b_GrantServerModel_signValue 1 (some .int) :: TB) ({ frames := 0, cells := 0, slots := 0, locals := 0 }) [.int x] f (fun (r : Int32) (f1 : hm) => m_sval x = r ∧ f = f1) 0 0 := by
  refine hm_enter (Qc := fun sz => va_Qi _ (hm_R D vwCl (tyL k) f sz) (hm_A f sz)) (by decide) rfl (Nat.le_of_ble_eq_true rfl) ?_
  intro p e s m below meth cd ls X0 hr hlk hin hK hM hS hA hl Q hQ
  have X : CallFix p m cd b_GrantServerModel_signValue 1 s ([.int x] : List Value).toArray TB R_GrantServerModel := ⟨X0.1, X0.2.1, X0.2.2.1, X0.2.2.2.1, fun w h => X0.2.2.2.2 w (List.mem_cons_of_mem _ h)⟩
  have hx := X.1; have hb := X.2.1; have hml := X.2.2.1; have hown := X.2.2.2.1; have hts := X.2.2.2.2
  have hl : lv_has ls 1 [(0, .int x)] := hl
  refine lv_iload_n hx hb d_GrantServerModel_signValue_0 rfl (lv_at hl 0 rfl) ?_
  refine lv_bipush (v := 65) hx hb d_GrantServerModel_signValue_1 (by decide) ?_
  refine lv_icmp_lt (tgt := 17) hx hb d_GrantServerModel_signValue_3 (by decide) (fun h1 => ?_) (fun h1 => ?_)
  · refine lv_iload_n hx hb d_GrantServerModel_signValue_17 rfl (lv_at hl 0 rfl) ?_
    refine lv_bipush (v := 97) hx hb d_GrantServerModel_signValue_18 (by decide) ?_
    refine lv_icmp_lt (tgt := 37) hx hb d_GrantServerModel_signValue_20 (by decide) (fun h2 => ?_) (fun h2 => ?_)
    · refine lv_iload_n hx hb d_GrantServerModel_signValue_37 rfl (lv_at hl 0 rfl) ?_
      refine lv_bipush (v := 48) hx hb d_GrantServerModel_signValue_38 (by decide) ?_
      refine lv_icmp_lt (tgt := 59) hx hb d_GrantServerModel_signValue_40 (by decide) (fun h3 => ?_) (fun h3 => ?_)
      · refine lv_iload_n hx hb d_GrantServerModel_signValue_59 rfl (lv_at hl 0 rfl) ?_
        refine lv_bipush (v := 45) hx hb d_GrantServerModel_signValue_60 (by decide) ?_
        refine lv_icmp_ne (tgt := 70) hx hb d_GrantServerModel_signValue_62 (by decide) (fun h4 => ?_) (fun h4 => ?_)
        · refine lv_iload_n hx hb d_GrantServerModel_signValue_70 rfl (lv_at hl 0 rfl) ?_
          refine lv_bipush (v := 95) hx hb d_GrantServerModel_signValue_71 (by decide) ?_
          refine lv_icmp_ne (tgt := 81) hx hb d_GrantServerModel_signValue_73 (by decide) (fun h5 => ?_) (fun h5 => ?_)
          · refine lv_iconst (v := (-1)) hx hb d_GrantServerModel_signValue_81 (by decide) ?_
            exact hm_iret X hQ hr hlk hK hM hS d_GrantServerModel_signValue_82 ⟨(by simp [m_sval, h1, Int32.not_le.mpr h1, h2, Int32.not_le.mpr h2, h3, Int32.not_le.mpr h3, h4, h5]), rfl⟩
          · refine lv_bipush (v := 63) hx hb d_GrantServerModel_signValue_76 (by decide) ?_
            refine lv_goto (tgt := 82) hx hb d_GrantServerModel_signValue_78 (by decide) ?_
            exact hm_iret X hQ hr hlk hK hM hS d_GrantServerModel_signValue_82 ⟨(by simp [m_sval, h1, Int32.not_le.mpr h1, h2, Int32.not_le.mpr h2, h3, Int32.not_le.mpr h3, h4, h5]), rfl⟩
        · refine lv_bipush (v := 62) hx hb d_GrantServerModel_signValue_65 (by decide) ?_
          refine lv_goto (tgt := 82) hx hb d_GrantServerModel_signValue_67 (by decide) ?_
          exact hm_iret X hQ hr hlk hK hM hS d_GrantServerModel_signValue_82 ⟨(by simp [m_sval, h1, Int32.not_le.mpr h1, h2, Int32.not_le.mpr h2, h3, Int32.not_le.mpr h3, h4]), rfl⟩
      · refine lv_iload_n hx hb d_GrantServerModel_signValue_43 rfl (lv_at hl 0 rfl) ?_
        refine lv_bipush (v := 57) hx hb d_GrantServerModel_signValue_44 (by decide) ?_
        refine lv_icmp_gt (tgt := 59) hx hb d_GrantServerModel_signValue_46 (by decide) (fun h4 => ?_) (fun h4 => ?_)
        · refine lv_iload_n hx hb d_GrantServerModel_signValue_59 rfl (lv_at hl 0 rfl) ?_
          refine lv_bipush (v := 45) hx hb d_GrantServerModel_signValue_60 (by decide) ?_
          refine lv_icmp_ne (tgt := 70) hx hb d_GrantServerModel_signValue_62 (by decide) (fun h5 => ?_) (fun h5 => ?_)
          · refine lv_iload_n hx hb d_GrantServerModel_signValue_70 rfl (lv_at hl 0 rfl) ?_
            refine lv_bipush (v := 95) hx hb d_GrantServerModel_signValue_71 (by decide) ?_
            refine lv_icmp_ne (tgt := 81) hx hb d_GrantServerModel_signValue_73 (by decide) (fun h6 => ?_) (fun h6 => ?_)
            · refine lv_iconst (v := (-1)) hx hb d_GrantServerModel_signValue_81 (by decide) ?_
              exact hm_iret X hQ hr hlk hK hM hS d_GrantServerModel_signValue_82 ⟨(by simp [m_sval, h1, Int32.not_le.mpr h1, h2, Int32.not_le.mpr h2, h3, Int32.not_lt.mp h3, h4, Int32.not_le.mpr h4, h5, h6]), rfl⟩
            · refine lv_bipush (v := 63) hx hb d_GrantServerModel_signValue_76 (by decide) ?_
              refine lv_goto (tgt := 82) hx hb d_GrantServerModel_signValue_78 (by decide) ?_
              exact hm_iret X hQ hr hlk hK hM hS d_GrantServerModel_signValue_82 ⟨(by simp [m_sval, h1, Int32.not_le.mpr h1, h2, Int32.not_le.mpr h2, h3, Int32.not_lt.mp h3, h4, Int32.not_le.mpr h4, h5, h6]), rfl⟩
          · refine lv_bipush (v := 62) hx hb d_GrantServerModel_signValue_65 (by decide) ?_
            refine lv_goto (tgt := 82) hx hb d_GrantServerModel_signValue_67 (by decide) ?_
            exact hm_iret X hQ hr hlk hK hM hS d_GrantServerModel_signValue_82 ⟨(by simp [m_sval, h1, Int32.not_le.mpr h1, h2, Int32.not_le.mpr h2, h3, Int32.not_lt.mp h3, h4, Int32.not_le.mpr h4, h5]), rfl⟩
        · refine lv_iload_n hx hb d_GrantServerModel_signValue_49 rfl (lv_at hl 0 rfl) ?_
          refine lv_bipush (v := 48) hx hb d_GrantServerModel_signValue_50 (by decide) ?_
          refine lv_isub hx hb d_GrantServerModel_signValue_52 ?_
          refine lv_bipush (v := 52) hx hb d_GrantServerModel_signValue_53 (by decide) ?_
          refine lv_iadd hx hb d_GrantServerModel_signValue_55 ?_
          refine lv_goto (tgt := 82) hx hb d_GrantServerModel_signValue_56 (by decide) ?_
          exact hm_iret X hQ hr hlk hK hM hS d_GrantServerModel_signValue_82 ⟨(by simp [m_sval, h1, Int32.not_le.mpr h1, h2, Int32.not_le.mpr h2, h3, Int32.not_lt.mp h3, h4, Int32.not_lt.mp h4]), rfl⟩
    · refine lv_iload_n hx hb d_GrantServerModel_signValue_23 rfl (lv_at hl 0 rfl) ?_
      refine lv_bipush (v := 122) hx hb d_GrantServerModel_signValue_24 (by decide) ?_
      refine lv_icmp_gt (tgt := 37) hx hb d_GrantServerModel_signValue_26 (by decide) (fun h3 => ?_) (fun h3 => ?_)
      · refine lv_iload_n hx hb d_GrantServerModel_signValue_37 rfl (lv_at hl 0 rfl) ?_
        refine lv_bipush (v := 48) hx hb d_GrantServerModel_signValue_38 (by decide) ?_
        refine lv_icmp_lt (tgt := 59) hx hb d_GrantServerModel_signValue_40 (by decide) (fun h4 => ?_) (fun h4 => ?_)
        · refine lv_iload_n hx hb d_GrantServerModel_signValue_59 rfl (lv_at hl 0 rfl) ?_
          refine lv_bipush (v := 45) hx hb d_GrantServerModel_signValue_60 (by decide) ?_
          refine lv_icmp_ne (tgt := 70) hx hb d_GrantServerModel_signValue_62 (by decide) (fun h5 => ?_) (fun h5 => ?_)
          · refine lv_iload_n hx hb d_GrantServerModel_signValue_70 rfl (lv_at hl 0 rfl) ?_
            refine lv_bipush (v := 95) hx hb d_GrantServerModel_signValue_71 (by decide) ?_
            refine lv_icmp_ne (tgt := 81) hx hb d_GrantServerModel_signValue_73 (by decide) (fun h6 => ?_) (fun h6 => ?_)
            · refine lv_iconst (v := (-1)) hx hb d_GrantServerModel_signValue_81 (by decide) ?_
              exact hm_iret X hQ hr hlk hK hM hS d_GrantServerModel_signValue_82 ⟨(by simp [m_sval, h1, Int32.not_le.mpr h1, h2, Int32.not_lt.mp h2, h3, Int32.not_le.mpr h3, h4, Int32.not_le.mpr h4, h5, h6]), rfl⟩
            · refine lv_bipush (v := 63) hx hb d_GrantServerModel_signValue_76 (by decide) ?_
              refine lv_goto (tgt := 82) hx hb d_GrantServerModel_signValue_78 (by decide) ?_
              exact hm_iret X hQ hr hlk hK hM hS d_GrantServerModel_signValue_82 ⟨(by simp [m_sval, h1, Int32.not_le.mpr h1, h2, Int32.not_lt.mp h2, h3, Int32.not_le.mpr h3, h4, Int32.not_le.mpr h4, h5, h6]), rfl⟩
          · refine lv_bipush (v := 62) hx hb d_GrantServerModel_signValue_65 (by decide) ?_
            refine lv_goto (tgt := 82) hx hb d_GrantServerModel_signValue_67 (by decide) ?_
            exact hm_iret X hQ hr hlk hK hM hS d_GrantServerModel_signValue_82 ⟨(by simp [m_sval, h1, Int32.not_le.mpr h1, h2, Int32.not_lt.mp h2, h3, Int32.not_le.mpr h3, h4, Int32.not_le.mpr h4, h5]), rfl⟩
        · refine lv_iload_n hx hb d_GrantServerModel_signValue_43 rfl (lv_at hl 0 rfl) ?_
          refine lv_bipush (v := 57) hx hb d_GrantServerModel_signValue_44 (by decide) ?_
          refine lv_icmp_gt (tgt := 59) hx hb d_GrantServerModel_signValue_46 (by decide) (fun h5 => ?_) (fun h5 => ?_)
          · refine lv_iload_n hx hb d_GrantServerModel_signValue_59 rfl (lv_at hl 0 rfl) ?_
            refine lv_bipush (v := 45) hx hb d_GrantServerModel_signValue_60 (by decide) ?_
            refine lv_icmp_ne (tgt := 70) hx hb d_GrantServerModel_signValue_62 (by decide) (fun h6 => ?_) (fun h6 => ?_)
            · refine lv_iload_n hx hb d_GrantServerModel_signValue_70 rfl (lv_at hl 0 rfl) ?_
              refine lv_bipush (v := 95) hx hb d_GrantServerModel_signValue_71 (by decide) ?_
              refine lv_icmp_ne (tgt := 81) hx hb d_GrantServerModel_signValue_73 (by decide) (fun h7 => ?_) (fun h7 => ?_)
              · refine lv_iconst (v := (-1)) hx hb d_GrantServerModel_signValue_81 (by decide) ?_
                exact hm_iret X hQ hr hlk hK hM hS d_GrantServerModel_signValue_82 ⟨(by simp [m_sval, h1, Int32.not_le.mpr h1, h2, Int32.not_lt.mp h2, h3, Int32.not_le.mpr h3, h4, Int32.not_lt.mp h4, h5, Int32.not_le.mpr h5, h6, h7]), rfl⟩
              · refine lv_bipush (v := 63) hx hb d_GrantServerModel_signValue_76 (by decide) ?_
                refine lv_goto (tgt := 82) hx hb d_GrantServerModel_signValue_78 (by decide) ?_
                exact hm_iret X hQ hr hlk hK hM hS d_GrantServerModel_signValue_82 ⟨(by simp [m_sval, h1, Int32.not_le.mpr h1, h2, Int32.not_lt.mp h2, h3, Int32.not_le.mpr h3, h4, Int32.not_lt.mp h4, h5, Int32.not_le.mpr h5, h6, h7]), rfl⟩
            · refine lv_bipush (v := 62) hx hb d_GrantServerModel_signValue_65 (by decide) ?_
              refine lv_goto (tgt := 82) hx hb d_GrantServerModel_signValue_67 (by decide) ?_
              exact hm_iret X hQ hr hlk hK hM hS d_GrantServerModel_signValue_82 ⟨(by simp [m_sval, h1, Int32.not_le.mpr h1, h2, Int32.not_lt.mp h2, h3, Int32.not_le.mpr h3, h4, Int32.not_lt.mp h4, h5, Int32.not_le.mpr h5, h6]), rfl⟩
          · refine lv_iload_n hx hb d_GrantServerModel_signValue_49 rfl (lv_at hl 0 rfl) ?_
            refine lv_bipush (v := 48) hx hb d_GrantServerModel_signValue_50 (by decide) ?_
            refine lv_isub hx hb d_GrantServerModel_signValue_52 ?_
            refine lv_bipush (v := 52) hx hb d_GrantServerModel_signValue_53 (by decide) ?_
            refine lv_iadd hx hb d_GrantServerModel_signValue_55 ?_
            refine lv_goto (tgt := 82) hx hb d_GrantServerModel_signValue_56 (by decide) ?_
            exact hm_iret X hQ hr hlk hK hM hS d_GrantServerModel_signValue_82 ⟨(by simp [m_sval, h1, Int32.not_le.mpr h1, h2, Int32.not_lt.mp h2, h3, Int32.not_le.mpr h3, h4, Int32.not_lt.mp h4, h5, Int32.not_lt.mp h5]), rfl⟩
      · refine lv_iload_n hx hb d_GrantServerModel_signValue_29 rfl (lv_at hl 0 rfl) ?_
        refine lv_bipush (v := 97) hx hb d_GrantServerModel_signValue_30 (by decide) ?_
        refine lv_isub hx hb d_GrantServerModel_signValue_32 ?_
        refine lv_bipush (v := 26) hx hb d_GrantServerModel_signValue_33 (by decide) ?_
        refine lv_iadd hx hb d_GrantServerModel_signValue_35 ?_
        exact hm_iret X hQ hr hlk hK hM hS d_GrantServerModel_signValue_36 ⟨(by simp [m_sval, h1, Int32.not_le.mpr h1, h2, Int32.not_lt.mp h2, h3, Int32.not_lt.mp h3]), rfl⟩
  · refine lv_iload_n hx hb d_GrantServerModel_signValue_6 rfl (lv_at hl 0 rfl) ?_
    refine lv_bipush (v := 90) hx hb d_GrantServerModel_signValue_7 (by decide) ?_
    refine lv_icmp_gt (tgt := 17) hx hb d_GrantServerModel_signValue_9 (by decide) (fun h2 => ?_) (fun h2 => ?_)
    · refine lv_iload_n hx hb d_GrantServerModel_signValue_17 rfl (lv_at hl 0 rfl) ?_
      refine lv_bipush (v := 97) hx hb d_GrantServerModel_signValue_18 (by decide) ?_
      refine lv_icmp_lt (tgt := 37) hx hb d_GrantServerModel_signValue_20 (by decide) (fun h3 => ?_) (fun h3 => ?_)
      · refine lv_iload_n hx hb d_GrantServerModel_signValue_37 rfl (lv_at hl 0 rfl) ?_
        refine lv_bipush (v := 48) hx hb d_GrantServerModel_signValue_38 (by decide) ?_
        refine lv_icmp_lt (tgt := 59) hx hb d_GrantServerModel_signValue_40 (by decide) (fun h4 => ?_) (fun h4 => ?_)
        · refine lv_iload_n hx hb d_GrantServerModel_signValue_59 rfl (lv_at hl 0 rfl) ?_
          refine lv_bipush (v := 45) hx hb d_GrantServerModel_signValue_60 (by decide) ?_
          refine lv_icmp_ne (tgt := 70) hx hb d_GrantServerModel_signValue_62 (by decide) (fun h5 => ?_) (fun h5 => ?_)
          · refine lv_iload_n hx hb d_GrantServerModel_signValue_70 rfl (lv_at hl 0 rfl) ?_
            refine lv_bipush (v := 95) hx hb d_GrantServerModel_signValue_71 (by decide) ?_
            refine lv_icmp_ne (tgt := 81) hx hb d_GrantServerModel_signValue_73 (by decide) (fun h6 => ?_) (fun h6 => ?_)
            · refine lv_iconst (v := (-1)) hx hb d_GrantServerModel_signValue_81 (by decide) ?_
              exact hm_iret X hQ hr hlk hK hM hS d_GrantServerModel_signValue_82 ⟨(by simp [m_sval, h1, Int32.not_lt.mp h1, h2, Int32.not_le.mpr h2, h3, Int32.not_le.mpr h3, h4, Int32.not_le.mpr h4, h5, h6]), rfl⟩
            · refine lv_bipush (v := 63) hx hb d_GrantServerModel_signValue_76 (by decide) ?_
              refine lv_goto (tgt := 82) hx hb d_GrantServerModel_signValue_78 (by decide) ?_
              exact hm_iret X hQ hr hlk hK hM hS d_GrantServerModel_signValue_82 ⟨(by simp [m_sval, h1, Int32.not_lt.mp h1, h2, Int32.not_le.mpr h2, h3, Int32.not_le.mpr h3, h4, Int32.not_le.mpr h4, h5, h6]), rfl⟩
          · refine lv_bipush (v := 62) hx hb d_GrantServerModel_signValue_65 (by decide) ?_
            refine lv_goto (tgt := 82) hx hb d_GrantServerModel_signValue_67 (by decide) ?_
            exact hm_iret X hQ hr hlk hK hM hS d_GrantServerModel_signValue_82 ⟨(by simp [m_sval, h1, Int32.not_lt.mp h1, h2, Int32.not_le.mpr h2, h3, Int32.not_le.mpr h3, h4, Int32.not_le.mpr h4, h5]), rfl⟩
        · refine lv_iload_n hx hb d_GrantServerModel_signValue_43 rfl (lv_at hl 0 rfl) ?_
          refine lv_bipush (v := 57) hx hb d_GrantServerModel_signValue_44 (by decide) ?_
          refine lv_icmp_gt (tgt := 59) hx hb d_GrantServerModel_signValue_46 (by decide) (fun h5 => ?_) (fun h5 => ?_)
          · refine lv_iload_n hx hb d_GrantServerModel_signValue_59 rfl (lv_at hl 0 rfl) ?_
            refine lv_bipush (v := 45) hx hb d_GrantServerModel_signValue_60 (by decide) ?_
            refine lv_icmp_ne (tgt := 70) hx hb d_GrantServerModel_signValue_62 (by decide) (fun h6 => ?_) (fun h6 => ?_)
            · refine lv_iload_n hx hb d_GrantServerModel_signValue_70 rfl (lv_at hl 0 rfl) ?_
              refine lv_bipush (v := 95) hx hb d_GrantServerModel_signValue_71 (by decide) ?_
              refine lv_icmp_ne (tgt := 81) hx hb d_GrantServerModel_signValue_73 (by decide) (fun h7 => ?_) (fun h7 => ?_)
              · refine lv_iconst (v := (-1)) hx hb d_GrantServerModel_signValue_81 (by decide) ?_
                exact hm_iret X hQ hr hlk hK hM hS d_GrantServerModel_signValue_82 ⟨(by simp [m_sval, h1, Int32.not_lt.mp h1, h2, Int32.not_le.mpr h2, h3, Int32.not_le.mpr h3, h4, Int32.not_lt.mp h4, h5, Int32.not_le.mpr h5, h6, h7]), rfl⟩
              · refine lv_bipush (v := 63) hx hb d_GrantServerModel_signValue_76 (by decide) ?_
                refine lv_goto (tgt := 82) hx hb d_GrantServerModel_signValue_78 (by decide) ?_
                exact hm_iret X hQ hr hlk hK hM hS d_GrantServerModel_signValue_82 ⟨(by simp [m_sval, h1, Int32.not_lt.mp h1, h2, Int32.not_le.mpr h2, h3, Int32.not_le.mpr h3, h4, Int32.not_lt.mp h4, h5, Int32.not_le.mpr h5, h6, h7]), rfl⟩
            · refine lv_bipush (v := 62) hx hb d_GrantServerModel_signValue_65 (by decide) ?_
              refine lv_goto (tgt := 82) hx hb d_GrantServerModel_signValue_67 (by decide) ?_
              exact hm_iret X hQ hr hlk hK hM hS d_GrantServerModel_signValue_82 ⟨(by simp [m_sval, h1, Int32.not_lt.mp h1, h2, Int32.not_le.mpr h2, h3, Int32.not_le.mpr h3, h4, Int32.not_lt.mp h4, h5, Int32.not_le.mpr h5, h6]), rfl⟩
          · refine lv_iload_n hx hb d_GrantServerModel_signValue_49 rfl (lv_at hl 0 rfl) ?_
            refine lv_bipush (v := 48) hx hb d_GrantServerModel_signValue_50 (by decide) ?_
            refine lv_isub hx hb d_GrantServerModel_signValue_52 ?_
            refine lv_bipush (v := 52) hx hb d_GrantServerModel_signValue_53 (by decide) ?_
            refine lv_iadd hx hb d_GrantServerModel_signValue_55 ?_
            refine lv_goto (tgt := 82) hx hb d_GrantServerModel_signValue_56 (by decide) ?_
            exact hm_iret X hQ hr hlk hK hM hS d_GrantServerModel_signValue_82 ⟨(by simp [m_sval, h1, Int32.not_lt.mp h1, h2, Int32.not_le.mpr h2, h3, Int32.not_le.mpr h3, h4, Int32.not_lt.mp h4, h5, Int32.not_lt.mp h5]), rfl⟩
      · refine lv_iload_n hx hb d_GrantServerModel_signValue_23 rfl (lv_at hl 0 rfl) ?_
        refine lv_bipush (v := 122) hx hb d_GrantServerModel_signValue_24 (by decide) ?_
        refine lv_icmp_gt (tgt := 37) hx hb d_GrantServerModel_signValue_26 (by decide) (fun h4 => ?_) (fun h4 => ?_)
        · refine lv_iload_n hx hb d_GrantServerModel_signValue_37 rfl (lv_at hl 0 rfl) ?_
          refine lv_bipush (v := 48) hx hb d_GrantServerModel_signValue_38 (by decide) ?_
          refine lv_icmp_lt (tgt := 59) hx hb d_GrantServerModel_signValue_40 (by decide) (fun h5 => ?_) (fun h5 => ?_)
          · refine lv_iload_n hx hb d_GrantServerModel_signValue_59 rfl (lv_at hl 0 rfl) ?_
            refine lv_bipush (v := 45) hx hb d_GrantServerModel_signValue_60 (by decide) ?_
            refine lv_icmp_ne (tgt := 70) hx hb d_GrantServerModel_signValue_62 (by decide) (fun h6 => ?_) (fun h6 => ?_)
            · refine lv_iload_n hx hb d_GrantServerModel_signValue_70 rfl (lv_at hl 0 rfl) ?_
              refine lv_bipush (v := 95) hx hb d_GrantServerModel_signValue_71 (by decide) ?_
              refine lv_icmp_ne (tgt := 81) hx hb d_GrantServerModel_signValue_73 (by decide) (fun h7 => ?_) (fun h7 => ?_)
              · refine lv_iconst (v := (-1)) hx hb d_GrantServerModel_signValue_81 (by decide) ?_
                exact hm_iret X hQ hr hlk hK hM hS d_GrantServerModel_signValue_82 ⟨(by simp [m_sval, h1, Int32.not_lt.mp h1, h2, Int32.not_le.mpr h2, h3, Int32.not_lt.mp h3, h4, Int32.not_le.mpr h4, h5, Int32.not_le.mpr h5, h6, h7]), rfl⟩
              · refine lv_bipush (v := 63) hx hb d_GrantServerModel_signValue_76 (by decide) ?_
                refine lv_goto (tgt := 82) hx hb d_GrantServerModel_signValue_78 (by decide) ?_
                exact hm_iret X hQ hr hlk hK hM hS d_GrantServerModel_signValue_82 ⟨(by simp [m_sval, h1, Int32.not_lt.mp h1, h2, Int32.not_le.mpr h2, h3, Int32.not_lt.mp h3, h4, Int32.not_le.mpr h4, h5, Int32.not_le.mpr h5, h6, h7]), rfl⟩
            · refine lv_bipush (v := 62) hx hb d_GrantServerModel_signValue_65 (by decide) ?_
              refine lv_goto (tgt := 82) hx hb d_GrantServerModel_signValue_67 (by decide) ?_
              exact hm_iret X hQ hr hlk hK hM hS d_GrantServerModel_signValue_82 ⟨(by simp [m_sval, h1, Int32.not_lt.mp h1, h2, Int32.not_le.mpr h2, h3, Int32.not_lt.mp h3, h4, Int32.not_le.mpr h4, h5, Int32.not_le.mpr h5, h6]), rfl⟩
          · refine lv_iload_n hx hb d_GrantServerModel_signValue_43 rfl (lv_at hl 0 rfl) ?_
            refine lv_bipush (v := 57) hx hb d_GrantServerModel_signValue_44 (by decide) ?_
            refine lv_icmp_gt (tgt := 59) hx hb d_GrantServerModel_signValue_46 (by decide) (fun h6 => ?_) (fun h6 => ?_)
            · refine lv_iload_n hx hb d_GrantServerModel_signValue_59 rfl (lv_at hl 0 rfl) ?_
              refine lv_bipush (v := 45) hx hb d_GrantServerModel_signValue_60 (by decide) ?_
              refine lv_icmp_ne (tgt := 70) hx hb d_GrantServerModel_signValue_62 (by decide) (fun h7 => ?_) (fun h7 => ?_)
              · refine lv_iload_n hx hb d_GrantServerModel_signValue_70 rfl (lv_at hl 0 rfl) ?_
                refine lv_bipush (v := 95) hx hb d_GrantServerModel_signValue_71 (by decide) ?_
                refine lv_icmp_ne (tgt := 81) hx hb d_GrantServerModel_signValue_73 (by decide) (fun h8 => ?_) (fun h8 => ?_)
                · refine lv_iconst (v := (-1)) hx hb d_GrantServerModel_signValue_81 (by decide) ?_
                  exact hm_iret X hQ hr hlk hK hM hS d_GrantServerModel_signValue_82 ⟨(by simp [m_sval, h1, Int32.not_lt.mp h1, h2, Int32.not_le.mpr h2, h3, Int32.not_lt.mp h3, h4, Int32.not_le.mpr h4, h5, Int32.not_lt.mp h5, h6, Int32.not_le.mpr h6, h7, h8]), rfl⟩
                · refine lv_bipush (v := 63) hx hb d_GrantServerModel_signValue_76 (by decide) ?_
                  refine lv_goto (tgt := 82) hx hb d_GrantServerModel_signValue_78 (by decide) ?_
                  exact hm_iret X hQ hr hlk hK hM hS d_GrantServerModel_signValue_82 ⟨(by simp [m_sval, h1, Int32.not_lt.mp h1, h2, Int32.not_le.mpr h2, h3, Int32.not_lt.mp h3, h4, Int32.not_le.mpr h4, h5, Int32.not_lt.mp h5, h6, Int32.not_le.mpr h6, h7, h8]), rfl⟩
              · refine lv_bipush (v := 62) hx hb d_GrantServerModel_signValue_65 (by decide) ?_
                refine lv_goto (tgt := 82) hx hb d_GrantServerModel_signValue_67 (by decide) ?_
                exact hm_iret X hQ hr hlk hK hM hS d_GrantServerModel_signValue_82 ⟨(by simp [m_sval, h1, Int32.not_lt.mp h1, h2, Int32.not_le.mpr h2, h3, Int32.not_lt.mp h3, h4, Int32.not_le.mpr h4, h5, Int32.not_lt.mp h5, h6, Int32.not_le.mpr h6, h7]), rfl⟩
            · refine lv_iload_n hx hb d_GrantServerModel_signValue_49 rfl (lv_at hl 0 rfl) ?_
              refine lv_bipush (v := 48) hx hb d_GrantServerModel_signValue_50 (by decide) ?_
              refine lv_isub hx hb d_GrantServerModel_signValue_52 ?_
              refine lv_bipush (v := 52) hx hb d_GrantServerModel_signValue_53 (by decide) ?_
              refine lv_iadd hx hb d_GrantServerModel_signValue_55 ?_
              refine lv_goto (tgt := 82) hx hb d_GrantServerModel_signValue_56 (by decide) ?_
              exact hm_iret X hQ hr hlk hK hM hS d_GrantServerModel_signValue_82 ⟨(by simp [m_sval, h1, Int32.not_lt.mp h1, h2, Int32.not_le.mpr h2, h3, Int32.not_lt.mp h3, h4, Int32.not_le.mpr h4, h5, Int32.not_lt.mp h5, h6, Int32.not_lt.mp h6]), rfl⟩
        · refine lv_iload_n hx hb d_GrantServerModel_signValue_29 rfl (lv_at hl 0 rfl) ?_
          refine lv_bipush (v := 97) hx hb d_GrantServerModel_signValue_30 (by decide) ?_
          refine lv_isub hx hb d_GrantServerModel_signValue_32 ?_
          refine lv_bipush (v := 26) hx hb d_GrantServerModel_signValue_33 (by decide) ?_
          refine lv_iadd hx hb d_GrantServerModel_signValue_35 ?_
          exact hm_iret X hQ hr hlk hK hM hS d_GrantServerModel_signValue_36 ⟨(by simp [m_sval, h1, Int32.not_lt.mp h1, h2, Int32.not_le.mpr h2, h3, Int32.not_lt.mp h3, h4, Int32.not_lt.mp h4]), rfl⟩
    · refine lv_iload_n hx hb d_GrantServerModel_signValue_12 rfl (lv_at hl 0 rfl) ?_
      refine lv_bipush (v := 65) hx hb d_GrantServerModel_signValue_13 (by decide) ?_
      refine lv_isub hx hb d_GrantServerModel_signValue_15 ?_
      exact hm_iret X hQ hr hlk hK hM hS d_GrantServerModel_signValue_16 ⟨(by simp [m_sval, h1, Int32.not_lt.mp h1, h2, Int32.not_lt.mp h2]), rfl⟩
set_option maxHeartbeats 4000000 in
set_option maxRecDepth 100000 in
theorem m_c_mixed (l : Launch) (D : va_G) (k : Nat → ClassId) (f : hm) (z : Int64) (y : Int32) : hm_Ml l D vwCl (tyL k) y_GrantServerModel_mixed (Cond.code y_GrantServerModel_mixed b_GrantServerModel_mixed 5 (some .long) :: TB) ({ frames := 0, cells := 0, slots := 0, locals := 0 }) [.long z, .int y] f (fun (r : Int64) (f1 : hm) => z_mix z y = r ∧ f = f1) 0 0 := by
  refine hm_enter (Qc := fun sz => va_Ql _ (hm_R D vwCl (tyL k) f sz) (hm_A f sz)) (by decide) rfl (Nat.le_of_ble_eq_true rfl) ?_
  intro p e s m below meth cd ls X0 hr hlk hin hK hM hS hA hl Q hQ
  have X : CallFix p m cd b_GrantServerModel_mixed 5 s ([.long z, .int y] : List Value).toArray TB R_GrantServerModel := ⟨X0.1, X0.2.1, X0.2.2.1, X0.2.2.2.1, fun w h => X0.2.2.2.2 w (List.mem_cons_of_mem _ h)⟩
  have hx := X.1; have hb := X.2.1; have hml := X.2.2.1; have hown := X.2.2.2.1; have hts := X.2.2.2.2
  have hl : lv_has ls 5 [(0, .long z), (2, .int y)] := hl
  refine lv_lload_n hx hb d_GrantServerModel_mixed_0 rfl (lv_at hl 0 rfl) ?_
  refine lv_iload_n hx hb d_GrantServerModel_mixed_1 rfl (lv_at hl 1 rfl) ?_
  refine lv_i2l hx hb d_GrantServerModel_mixed_2 rfl ?_
  refine lv_lxor hx hb d_GrantServerModel_mixed_3 ?_
  refine lv_ldc2 (v := (-7046029254386353131)) hx hb hown (hts _ wc_GrantServerModel_158) d_GrantServerModel_mixed_4 ?_
  refine lv_lmul hx hb d_GrantServerModel_mixed_7 ?_
  refine lv_lstore_n (lv' := [(3, .long ((z ^^^ y.toInt64) * (-7046029254386353131))), (0, .long z), (2, .int y)]) hx hb d_GrantServerModel_mixed_8 rfl hl (by decide) rfl (fun ls hl => ?_)
  refine lv_lload_n hx hb d_GrantServerModel_mixed_9 rfl (lv_at hl 0 rfl) ?_
  refine lv_lload_n hx hb d_GrantServerModel_mixed_10 rfl (lv_at hl 0 rfl) ?_
  refine lv_bipush (v := 29) hx hb d_GrantServerModel_mixed_11 (by decide) ?_
  refine lv_lushr hx hb d_GrantServerModel_mixed_13 rfl ?_
  refine lv_lxor hx hb d_GrantServerModel_mixed_14 ?_
  exact hm_lret X hQ hr hlk hK hM hS d_GrantServerModel_mixed_15 ⟨rfl, rfl⟩
set_option maxHeartbeats 4000000 in
set_option maxRecDepth 100000 in
theorem m_c_put (l : Launch) (D : va_G) (k : Nat → ClassId) (f : hm) (h : Nat) (ad : Nat → Nat) (sk : Int64) (v : Nat → Int32) (c : Nat → Nat → Int32) (j : Nat) (a : Int32) (b : Int32) (d : Int32) (g : Int32) (y : Int32) (hmo : mo k f h ad sk v c) (hj : j < 64) : hm_Mv l D vwCl (tyL k) y_GrantServerModel_put (Cond.code y_GrantServerModel_put b_GrantServerModel_put 7 none :: TB) ({ frames := 0, cells := 0, slots := 0, locals := 0 }) [.ref h, .int (nI j), .int a, .int b, .int d, .int g, .int y] f (fun (f1 : hm) => mo k f1 h ad sk v (va_up (va_up (va_up (va_up (va_up (va_up c 10 (upd (c 10) j a)) 11 (upd (c 11) j b)) 12 (upd (c 12) j d)) 13 (upd (c 13) j g)) 14 (upd (c 14) j 0)) 15 (upd (c 15) j y)) ∧ mo_fr h ad f f1) 0 0 := by
  refine hm_enter (Qc := fun sz => va_Qv _ (hm_R D vwCl (tyL k) f sz) (hm_A f sz)) (by decide) rfl (Nat.le_of_ble_eq_true rfl) ?_
  intro p e s m below meth cd ls X0 hr hlk hin hK hM hS hA hl Q hQ
  have X : CallFix p m cd b_GrantServerModel_put 7 s ([.ref h, .int (nI j), .int a, .int b, .int d, .int g, .int y] : List Value).toArray TB R_GrantServerModel := ⟨X0.1, X0.2.1, X0.2.2.1, X0.2.2.2.1, fun w h => X0.2.2.2.2 w (List.mem_cons_of_mem _ h)⟩
  have hx := X.1; have hb := X.2.1; have hml := X.2.2.1; have hown := X.2.2.2.1; have hts := X.2.2.2.2
  have hl : lv_has ls 7 [(0, .ref h), (1, .int (nI j)), (2, .int a), (3, .int b), (4, .int d), (5, .int g), (6, .int y)] := hl
  have hfr : mo_fr h ad f f := mo_fr.rf
  refine lv_aload_n hx hb d_GrantServerModel_put_0 rfl (lv_at hl 0 rfl) ?_
  refine hm_get X hK hM hmo.1 fl_GrantServerModel_23 (v := .ref (ad 10)) rfl d_GrantServerModel_put_1 ?_
  refine lv_iload_n hx hb d_GrantServerModel_put_4 rfl (lv_at hl 1 rfl) ?_
  refine lv_iload_n hx hb d_GrantServerModel_put_5 rfl (lv_at hl 2 rfl) ?_
  have g1 : f (ad 10) = some (.inl (k 0, 64, .inl (c 10))) := hmo.arr 10 (by decide) (by decide)
  refine hm_iast X hK hM hS g1 0 rfl j rfl hj (by decide) d_GrantServerModel_put_6 (fun f2 H locs e3 hM hS => ?_)
  have hfr := hfr.ast 10 (by decide) (by decide) e3; have hmo : mo k f2 h ad sk v (va_up c 10 (upd (c 10) j a)) := hmo.ast 10 (by decide) (by decide) e3
  refine lv_aload_n hx hb d_GrantServerModel_put_7 rfl (lv_at hl 0 rfl) ?_
  refine hm_get X hK hM hmo.1 fl_GrantServerModel_26 (v := .ref (ad 11)) rfl d_GrantServerModel_put_8 ?_
  refine lv_iload_n hx hb d_GrantServerModel_put_11 rfl (lv_at hl 1 rfl) ?_
  refine lv_iload_n hx hb d_GrantServerModel_put_12 rfl (lv_at hl 3 rfl) ?_
  have g4 : f2 (ad 11) = some (.inl (k 0, 64, .inl (c 11))) := hmo.arr 11 (by decide) (by decide)
  refine hm_iast X hK hM hS g4 0 rfl j rfl hj (by decide) d_GrantServerModel_put_13 (fun f5 H locs e6 hM hS => ?_)
  have hfr := hfr.ast 11 (by decide) (by decide) e6; have hmo : mo k f5 h ad sk v (va_up (va_up c 10 (upd (c 10) j a)) 11 (upd (c 11) j b)) := hmo.ast 11 (by decide) (by decide) e6
  refine lv_aload_n hx hb d_GrantServerModel_put_14 rfl (lv_at hl 0 rfl) ?_
  refine hm_get X hK hM hmo.1 fl_GrantServerModel_29 (v := .ref (ad 12)) rfl d_GrantServerModel_put_15 ?_
  refine lv_iload_n hx hb d_GrantServerModel_put_18 rfl (lv_at hl 1 rfl) ?_
  refine lv_iload hx hb d_GrantServerModel_put_19 (lv_at hl 4 rfl) ?_
  have g7 : f5 (ad 12) = some (.inl (k 0, 64, .inl (c 12))) := hmo.arr 12 (by decide) (by decide)
  refine hm_iast X hK hM hS g7 0 rfl j rfl hj (by decide) d_GrantServerModel_put_21 (fun f8 H locs e9 hM hS => ?_)
  have hfr := hfr.ast 12 (by decide) (by decide) e9; have hmo : mo k f8 h ad sk v (va_up (va_up (va_up c 10 (upd (c 10) j a)) 11 (upd (c 11) j b)) 12 (upd (c 12) j d)) := hmo.ast 12 (by decide) (by decide) e9
  refine lv_aload_n hx hb d_GrantServerModel_put_22 rfl (lv_at hl 0 rfl) ?_
  refine hm_get X hK hM hmo.1 fl_GrantServerModel_32 (v := .ref (ad 13)) rfl d_GrantServerModel_put_23 ?_
  refine lv_iload_n hx hb d_GrantServerModel_put_26 rfl (lv_at hl 1 rfl) ?_
  refine lv_iload hx hb d_GrantServerModel_put_27 (lv_at hl 5 rfl) ?_
  have g10 : f8 (ad 13) = some (.inl (k 0, 64, .inl (c 13))) := hmo.arr 13 (by decide) (by decide)
  refine hm_iast X hK hM hS g10 0 rfl j rfl hj (by decide) d_GrantServerModel_put_29 (fun f11 H locs e12 hM hS => ?_)
  have hfr := hfr.ast 13 (by decide) (by decide) e12; have hmo : mo k f11 h ad sk v (va_up (va_up (va_up (va_up c 10 (upd (c 10) j a)) 11 (upd (c 11) j b)) 12 (upd (c 12) j d)) 13 (upd (c 13) j g)) := hmo.ast 13 (by decide) (by decide) e12
  refine lv_aload_n hx hb d_GrantServerModel_put_30 rfl (lv_at hl 0 rfl) ?_
  refine hm_get X hK hM hmo.1 fl_GrantServerModel_35 (v := .ref (ad 14)) rfl d_GrantServerModel_put_31 ?_
  refine lv_iload_n hx hb d_GrantServerModel_put_34 rfl (lv_at hl 1 rfl) ?_
  refine lv_iconst (v := 0) hx hb d_GrantServerModel_put_35 (by decide) ?_
  have g13 : f11 (ad 14) = some (.inl (k 1, 64, .inl (c 14))) := hmo.arr 14 (by decide) (by decide)
  refine hm_zast X hK hM hS g13 1 rfl j rfl hj (by decide) (y := 0) rfl d_GrantServerModel_put_36 (fun f14 H locs e15 hM hS => ?_)
  have hfr := hfr.ast 14 (by decide) (by decide) e15; have hmo : mo k f14 h ad sk v (va_up (va_up (va_up (va_up (va_up c 10 (upd (c 10) j a)) 11 (upd (c 11) j b)) 12 (upd (c 12) j d)) 13 (upd (c 13) j g)) 14 (upd (c 14) j 0)) := hmo.ast 14 (by decide) (by decide) e15
  refine lv_aload_n hx hb d_GrantServerModel_put_37 rfl (lv_at hl 0 rfl) ?_
  refine hm_get X hK hM hmo.1 fl_GrantServerModel_39 (v := .ref (ad 15)) rfl d_GrantServerModel_put_38 ?_
  refine lv_iload_n hx hb d_GrantServerModel_put_41 rfl (lv_at hl 1 rfl) ?_
  refine lv_iload hx hb d_GrantServerModel_put_42 (lv_at hl 6 rfl) ?_
  have g16 : f14 (ad 15) = some (.inl (k 0, 64, .inl (c 15))) := hmo.arr 15 (by decide) (by decide)
  refine hm_iast X hK hM hS g16 0 rfl j rfl hj (by decide) d_GrantServerModel_put_44 (fun f17 H locs e18 hM hS => ?_)
  have hfr := hfr.ast 15 (by decide) (by decide) e18; have hmo : mo k f17 h ad sk v (va_up (va_up (va_up (va_up (va_up (va_up c 10 (upd (c 10) j a)) 11 (upd (c 11) j b)) 12 (upd (c 12) j d)) 13 (upd (c 13) j g)) 14 (upd (c 14) j 0)) 15 (upd (c 15) j y)) := hmo.ast 15 (by decide) (by decide) e18
  exact hm_vret X hQ hr hlk hK hM hS d_GrantServerModel_put_45 ⟨hmo, hfr⟩
set_option maxHeartbeats 4000000 in
set_option maxRecDepth 100000 in
theorem m_c_say (l : Launch) (D : va_G) (k : Nat → ClassId) (f : hm) (h : Nat) (ad : Nat → Nat) (sk : Int64) (v : Nat → Int32) (c : Nat → Nat → Int32) (x : Int32) (y : Int32) (n : Nat) (hmo : mo k f h ad sk v c) (hn : v 28 = nI n) (hn9 : n < 130) : hm_Mv l D vwCl (tyL k) y_GrantServerModel_say (Cond.code y_GrantServerModel_say b_GrantServerModel_say 3 none :: TB) ({ frames := 0, cells := 0, slots := 0, locals := 0 }) [.ref h, .int x, .int y] f (fun (f1 : hm) => mo k f1 h ad sk (upd v 28 (nI (n + 1))) (va_up c 27 (upd (c 27) n (x + y))) ∧ mo_fr h ad f f1) 0 0 := by
  refine hm_enter (Qc := fun sz => va_Qv _ (hm_R D vwCl (tyL k) f sz) (hm_A f sz)) (by decide) rfl (Nat.le_of_ble_eq_true rfl) ?_
  intro p e s m below meth cd ls X0 hr hlk hin hK hM hS hA hl Q hQ
  have X : CallFix p m cd b_GrantServerModel_say 3 s ([.ref h, .int x, .int y] : List Value).toArray TB R_GrantServerModel := ⟨X0.1, X0.2.1, X0.2.2.1, X0.2.2.2.1, fun w h => X0.2.2.2.2 w (List.mem_cons_of_mem _ h)⟩
  have hx := X.1; have hb := X.2.1; have hml := X.2.2.1; have hown := X.2.2.2.1; have hts := X.2.2.2.2
  have hl : lv_has ls 3 [(0, .ref h), (1, .int x), (2, .int y)] := hl
  have hfr : mo_fr h ad f f := mo_fr.rf
  refine lv_aload_n hx hb d_GrantServerModel_say_0 rfl (lv_at hl 0 rfl) ?_
  refine hm_get X hK hM hmo.1 fl_GrantServerModel_63 (v := .ref (ad 27)) rfl d_GrantServerModel_say_1 ?_
  refine lv_aload_n hx hb d_GrantServerModel_say_4 rfl (lv_at hl 0 rfl) ?_
  refine hm_get X hK hM hmo.1 fl_GrantServerModel_121 (v := .int (v 28)) rfl d_GrantServerModel_say_5 ?_
  refine lv_iload_n hx hb d_GrantServerModel_say_8 rfl (lv_at hl 1 rfl) ?_
  refine lv_iload_n hx hb d_GrantServerModel_say_9 rfl (lv_at hl 2 rfl) ?_
  refine lv_iadd hx hb d_GrantServerModel_say_10 ?_
  have g1 : f (ad 27) = some (.inl (k 0, 130, .inl (c 27))) := hmo.arr 27 (by decide) (by decide)
  refine hm_iast X hK hM hS g1 0 rfl n hn hn9 (by decide) d_GrantServerModel_say_11 (fun f2 H locs e3 hM hS => ?_)
  have hfr := hfr.ast 27 (by decide) (by decide) e3; have hmo : mo k f2 h ad sk v (va_up c 27 (upd (c 27) n (x + y))) := hmo.ast 27 (by decide) (by decide) e3
  refine lv_aload_n hx hb d_GrantServerModel_say_12 rfl (lv_at hl 0 rfl) ?_
  refine lv_dup hx hb d_GrantServerModel_say_13 rfl ?_
  refine hm_get X hK hM hmo.1 fl_GrantServerModel_121 (v := .int (v 28)) rfl d_GrantServerModel_say_14 ?_
  refine lv_iconst (v := 1) hx hb d_GrantServerModel_say_17 (by decide) ?_
  refine lv_iadd hx hb d_GrantServerModel_say_18 ?_
  refine hm_top (z := nI (n + 1)) (by rw [hn]; exact nI_1 n) ?_
  refine hm_put X hK hM hS (fs' := moV sk (upd v 28 (nI (n + 1))) ad) hmo.1 fl_GrantServerModel_121 rfl rfl (Nat.le_of_ble_eq_true rfl) rfl d_GrantServerModel_say_19 (fun f4 H locs e5 hM hS => ?_)
  have hfr := hfr.put e5; have hmo : mo k f4 h ad sk (upd v 28 (nI (n + 1))) (va_up c 27 (upd (c 27) n (x + y))) := hmo.put e5
  exact hm_vret X hQ hr hlk hK hM hS d_GrantServerModel_say_22 ⟨hmo, hfr⟩
set_option maxHeartbeats 4000000 in
set_option maxRecDepth 100000 in
theorem m_c_six (l : Launch) (D : va_G) (k : Nat → ClassId) (f : hm) (h : Nat) (ad : Nat → Nat) (sk : Int64) (v : Nat → Int32) (c : Nat → Nat → Int32) (n : Nat) (ch : Nat → Nat) (b9 : Nat) (hmo : mo k f h ad sk v c) (hn : v 28 = nI n) (hn9 : n ≤ 120) (hx9 : ∀ j, j < n → c 27 j = nI (ch j) ∧ ch j < 256) (hb9 : b9 ≤ 1000) : hm_Mi l D vwCl (tyL k) y_GrantServerModel_six (Cond.code y_GrantServerModel_six b_GrantServerModel_six 5 (some .int) :: TB) ({ frames := 0, cells := 0, slots := 0, locals := 0 }) [.ref h, .int (nI b9)] f (fun (r : Int32) (f1 : hm) => nI (m_six n ch b9 6) = r ∧ f = f1) 0 0 := by
  refine hm_enter (Qc := fun sz => va_Qi _ (hm_R D vwCl (tyL k) f sz) (hm_A f sz)) (by decide) rfl (Nat.le_of_ble_eq_true rfl) ?_
  intro p e s m below meth cd ls X0 hr hlk hin hK hM hS hA hl Q hQ
  have X : CallFix p m cd b_GrantServerModel_six 5 s ([.ref h, .int (nI b9)] : List Value).toArray TB R_GrantServerModel := ⟨X0.1, X0.2.1, X0.2.2.1, X0.2.2.2.1, fun w h => X0.2.2.2.2 w (List.mem_cons_of_mem _ h)⟩
  have hx := X.1; have hb := X.2.1; have hml := X.2.2.1; have hown := X.2.2.2.1; have hts := X.2.2.2.2
  have hl : lv_has ls 5 [(0, .ref h), (1, .int (nI b9))] := hl
  have hfr : mo_fr h ad f f := mo_fr.rf
  refine lv_iconst (v := 0) hx hb d_GrantServerModel_six_0 (by decide) ?_
  refine lv_istore_n (lv' := [(2, .int 0), (0, .ref h), (1, .int (nI b9))]) hx hb d_GrantServerModel_six_1 rfl hl (by decide) rfl (fun ls hl => ?_)
  refine lv_iload_n hx hb d_GrantServerModel_six_2 rfl (lv_at hl 2 rfl) ?_
  refine lv_istore_n (lv' := [(3, .int (nI b9)), (2, .int 0), (0, .ref h), (1, .int (nI b9))]) hx hb d_GrantServerModel_six_3 rfl hl (by decide) rfl (fun ls hl => ?_)
  have loop4 : ∀ (fu : Nat) (j : Nat) (H : Heap) (locs : List Loc) (ls : Array Slot) (hmu : 6 - j < fu) (hj : j ≤ 6) (hM : hm_W D vwCl (hm_A f s.heap.size) f H) (hS : va_S (hm_A f s.heap.size) s.heap H locs) (hl : lv_has ls 5 [(0, .ref h), (1, .int (nI b9)), (2, .int (nI (m_six n ch b9 j))), (3, .int (nI (b9 + j)))]), W p l e ({ frames := 0, cells := 0, slots := 0, locals := 0 }) s m ([.ref h, .int (nI b9)] : List Value).toArray below meth cd H locs 0 0 Q (F0 m 4 ls []) := by
    intro fu
    induction fu with
    | zero => intro j H locs ls hmu; exact absurd hmu (Nat.not_lt_zero _)
    | succ fu ih =>
      intro j H locs ls hmu hj  hM hS hl
      refine lv_iload_n hx hb d_GrantServerModel_six_4 rfl (lv_at hl 3 rfl) ?_
      refine lv_iload_n hx hb d_GrantServerModel_six_5 rfl (lv_at hl 1 rfl) ?_
      refine lv_bipush (v := 6) hx hb d_GrantServerModel_six_6 (by decide) ?_
      refine lv_iadd hx hb d_GrantServerModel_six_8 ?_
      refine hm_top (z := nI (b9 + 6)) (nI_add b9 6) ?_
      refine lv_icmp_ge (tgt := 61) hx hb d_GrantServerModel_six_9 (by decide) (fun h1 => ?_) (fun h1 => ?_)
      · have hge : j = 6 := by have z := (nI_leI (a := b9 + 6) (b := b9 + j) (by omega) (by omega)).mp h1; omega
        subst hge
        refine lv_iload_n hx hb d_GrantServerModel_six_61 rfl (lv_at hl 2 rfl) ?_
        exact hm_iret X hQ hr hlk hK hM hS d_GrantServerModel_six_62 ⟨rfl, rfl⟩
      · have hlt : b9 + j < b9 + 6 := by have z := mt (nI_leI (a := b9 + 6) (b := b9 + j) (by omega) (by omega)).mpr h1; omega
        refine lv_iload_n hx hb d_GrantServerModel_six_12 rfl (lv_at hl 3 rfl) ?_
        refine lv_bipush (v := 8) hx hb d_GrantServerModel_six_13 (by decide) ?_
        refine lv_aload_n hx hb d_GrantServerModel_six_15 rfl (lv_at hl 0 rfl) ?_
        refine hm_get X hK hM hmo.1 fl_GrantServerModel_121 (v := .int (v 28)) rfl d_GrantServerModel_six_16 ?_
        refine lv_imul hx hb d_GrantServerModel_six_19 ?_
        refine hm_top (z := nI (8 * n)) (by rw [hn]; exact pk_mul 8 n) ?_
        refine lv_icmp_ge (tgt := 45) hx hb d_GrantServerModel_six_20 (by decide) (fun h2 => ?_) (fun h2 => ?_)
        · refine lv_iconst (v := 0) hx hb d_GrantServerModel_six_45 (by decide) ?_
          have hge2 : ¬ b9 + j < 8 * n := by have z := (nI_leI (a := 8 * n) (b := b9 + j) (by omega) (by omega)).mp h2; omega
          refine hm_top (z := nI (m_bit n ch (b9 + j))) (by simp [m_bit, hge2, nI_0]) ?_
          refine lv_istore (lv' := [(4, .int (nI (m_bit n ch (b9 + j)))), (0, .ref h), (1, .int (nI b9)), (2, .int (nI (m_six n ch b9 j))), (3, .int (nI (b9 + j)))]) hx hb d_GrantServerModel_six_46 hl (by decide) rfl (fun ls hl => ?_)
          refine lv_iconst (v := 2) hx hb d_GrantServerModel_six_48 (by decide) ?_
          refine lv_iload_n hx hb d_GrantServerModel_six_49 rfl (lv_at hl 3 rfl) ?_
          refine lv_imul hx hb d_GrantServerModel_six_50 ?_
          refine hm_top (z := nI (2 * m_six n ch b9 j)) (pk_mul 2 _) ?_
          refine lv_iload hx hb d_GrantServerModel_six_51 (lv_at hl 0 rfl) ?_
          refine lv_iadd hx hb d_GrantServerModel_six_53 ?_
          refine hm_top (z := nI (m_six n ch b9 (j + 1))) (nI_add _ _) ?_
          refine lv_istore_n (lv' := [(2, .int (nI (m_six n ch b9 (j + 1)))), (4, .int (nI (m_bit n ch (b9 + j)))), (0, .ref h), (1, .int (nI b9)), (3, .int (nI (b9 + j)))]) hx hb d_GrantServerModel_six_54 rfl hl (by decide) rfl (fun ls hl => ?_)
          refine lv_iinc (lv' := [(3, .int (nI (b9 + (j + 1)))), (2, .int (nI (m_six n ch b9 (j + 1)))), (4, .int (nI (m_bit n ch (b9 + j)))), (0, .ref h), (1, .int (nI b9))]) hx hb d_GrantServerModel_six_55 hl (k := 4) rfl (hm_inc _) (by decide) rfl (fun ls hl => ?_)
          refine lv_goto (tgt := 4) hx hb d_GrantServerModel_six_58 (by decide) ?_
          exact ih (j + 1)  H locs ls (by omega) (by omega)  hM hS (lv_sub hl [3, 4, 1, 0] rfl)
        · have hlt2 : b9 + j < 8 * n := by have z := mt (nI_leI (a := 8 * n) (b := b9 + j) (by omega) (by omega)).mpr h2; omega
          refine lv_aload_n hx hb d_GrantServerModel_six_23 rfl (lv_at hl 0 rfl) ?_
          refine hm_get X hK hM hmo.1 fl_GrantServerModel_63 (v := .ref (ad 27)) rfl d_GrantServerModel_six_24 ?_
          refine lv_iload_n hx hb d_GrantServerModel_six_27 rfl (lv_at hl 3 rfl) ?_
          refine lv_bipush (v := 8) hx hb d_GrantServerModel_six_28 (by decide) ?_
          refine lv_idiv hx hb d_GrantServerModel_six_30 (by decide) ?_
          refine hm_top (z := nI ((b9 + j) / 8)) (pk_div (d := 8) (by omega) (by decide) (by decide)) ?_
          have g3 : f (ad 27) = some (.inl (k 0, 130, .inl (c 27))) := hmo.arr 27 (by decide) (by decide)
          refine hm_iald X hK hM g3 0 rfl ((b9 + j) / 8) rfl (by omega) (by decide) d_GrantServerModel_six_31 ?_
          refine lv_bipush (v := 7) hx hb d_GrantServerModel_six_32 (by decide) ?_
          refine lv_iload_n hx hb d_GrantServerModel_six_34 rfl (lv_at hl 3 rfl) ?_
          refine lv_bipush (v := 8) hx hb d_GrantServerModel_six_35 (by decide) ?_
          refine lv_irem hx hb d_GrantServerModel_six_37 (by decide) ?_
          refine hm_top (z := nI ((b9 + j) % 8)) (pk_rem (d := 8) (by omega) (by decide) (by decide)) ?_
          refine lv_isub hx hb d_GrantServerModel_six_38 ?_
          refine lv_ishr hx hb d_GrantServerModel_six_39 ?_
          refine lv_iconst (v := 1) hx hb d_GrantServerModel_six_40 (by decide) ?_
          refine lv_iand hx hb d_GrantServerModel_six_41 ?_
          refine hm_top (z := nI (m_bit n ch (b9 + j))) (by rw [(hx9 _ (by omega)).1, m_bit_eq (hx9 _ (by omega)).2 (by omega)]; simp [m_bit, hlt2]) ?_
          refine lv_goto (tgt := 46) hx hb d_GrantServerModel_six_42 (by decide) ?_
          refine lv_istore (lv' := [(4, .int (nI (m_bit n ch (b9 + j)))), (0, .ref h), (1, .int (nI b9)), (2, .int (nI (m_six n ch b9 j))), (3, .int (nI (b9 + j)))]) hx hb d_GrantServerModel_six_46 hl (by decide) rfl (fun ls hl => ?_)
          refine lv_iconst (v := 2) hx hb d_GrantServerModel_six_48 (by decide) ?_
          refine lv_iload_n hx hb d_GrantServerModel_six_49 rfl (lv_at hl 3 rfl) ?_
          refine lv_imul hx hb d_GrantServerModel_six_50 ?_
          refine hm_top (z := nI (2 * m_six n ch b9 j)) (pk_mul 2 _) ?_
          refine lv_iload hx hb d_GrantServerModel_six_51 (lv_at hl 0 rfl) ?_
          refine lv_iadd hx hb d_GrantServerModel_six_53 ?_
          refine hm_top (z := nI (m_six n ch b9 (j + 1))) (nI_add _ _) ?_
          refine lv_istore_n (lv' := [(2, .int (nI (m_six n ch b9 (j + 1)))), (4, .int (nI (m_bit n ch (b9 + j)))), (0, .ref h), (1, .int (nI b9)), (3, .int (nI (b9 + j)))]) hx hb d_GrantServerModel_six_54 rfl hl (by decide) rfl (fun ls hl => ?_)
          refine lv_iinc (lv' := [(3, .int (nI (b9 + (j + 1)))), (2, .int (nI (m_six n ch b9 (j + 1)))), (4, .int (nI (m_bit n ch (b9 + j)))), (0, .ref h), (1, .int (nI b9))]) hx hb d_GrantServerModel_six_55 hl (k := 4) rfl (hm_inc _) (by decide) rfl (fun ls hl => ?_)
          refine lv_goto (tgt := 4) hx hb d_GrantServerModel_six_58 (by decide) ?_
          exact ih (j + 1)  H locs ls (by omega) (by omega)  hM hS (lv_sub hl [3, 4, 1, 0] rfl)
  exact loop4 _ 0  s.heap [] ls (Nat.lt_succ_self _) (Nat.zero_le _)  hM hS (lv_sub hl [2, 3, 1, 0] rfl)
set_option maxHeartbeats 4000000 in
set_option maxRecDepth 100000 in
theorem m_c_wrapPlain (l : Launch) (D : va_G) (k : Nat → ClassId) (f : hm) (h : Nat) (ad : Nat → Nat) (sk : Int64) (v : Nat → Int32) (c : Nat → Nat → Int32) (n : Nat) (ch : Nat → Nat) (hmo : mo k f h ad sk v c) (hn : v 28 = nI n) (hn9 : n ≤ 120) (hx9 : ∀ j, j < n → c 27 j = nI (ch j) ∧ ch j < 256) (hs : (n * 8 + 5) / 6 + 11 ≤ 120) : hm_Mv l D vwCl (tyL k) y_GrantServerModel_wrapPlain (Cond.code y_GrantServerModel_wrapPlain b_GrantServerModel_wrapPlain 5 none :: TB) ({ frames := 1, cells := 0, slots := 0, locals := 24 }) [.ref h] f (fun (f1 : hm) => ∃ (g2 : Nat → Int32), (∀ i, i < (n * 8 + 5) / 6 → g2 i = nI (st_chr 6 (z_six n ch i))) ∧ (g2 ((n * 8 + 5) / 6) = 46) ∧ (∀ i, i < 10 → g2 ((n * 8 + 5) / 6 + 1 + i) = m_sign (m_ss (z_seal sk g2 ((n * 8 + 5) / 6)) i)) ∧ mo k f1 h ad sk (upd v 26 (nI ((n * 8 + 5) / 6 + 11))) (va_up c 25 g2) ∧ mo_fr h ad f f1) 0 0 := by
  refine hm_enter (Qc := fun sz => va_Qv _ (hm_R D vwCl (tyL k) f sz) (hm_A f sz)) (by decide) rfl (Nat.le_of_ble_eq_true rfl) ?_
  intro p e s m below meth cd ls X0 hr hlk hin hK hM hS hA hl Q hQ
  have X : CallFix p m cd b_GrantServerModel_wrapPlain 5 s ([.ref h] : List Value).toArray TB R_GrantServerModel := ⟨X0.1, X0.2.1, X0.2.2.1, X0.2.2.2.1, fun w h => X0.2.2.2.2 w (List.mem_cons_of_mem _ h)⟩
  have hx := X.1; have hb := X.2.1; have hml := X.2.2.1; have hown := X.2.2.2.1; have hts := X.2.2.2.2
  have hl : lv_has ls 5 [(0, .ref h)] := hl
  have hfr : mo_fr h ad f f := mo_fr.rf
  refine lv_aload_n hx hb d_GrantServerModel_wrapPlain_0 rfl (lv_at hl 0 rfl) ?_
  refine lv_iconst (v := 0) hx hb d_GrantServerModel_wrapPlain_1 (by decide) ?_
  refine hm_put X hK hM hS (fs' := moV sk (upd v 26 0) ad) hmo.1 fl_GrantServerModel_160 rfl rfl (Nat.le_of_ble_eq_true rfl) rfl d_GrantServerModel_wrapPlain_2 (fun f1 H locs e2 hM hS => ?_)
  have hfr := hfr.put e2; have hmo : mo k f1 h ad sk (upd v 26 0) c := hmo.put e2
  refine lv_aload_n hx hb d_GrantServerModel_wrapPlain_5 rfl (lv_at hl 0 rfl) ?_
  refine hm_get X hK hM hmo.1 fl_GrantServerModel_69 (v := .long sk) rfl d_GrantServerModel_wrapPlain_6 ?_
  refine lv_lstore_n (lv' := [(1, .long sk), (0, .ref h)]) hx hb d_GrantServerModel_wrapPlain_9 rfl hl (by decide) rfl (fun ls hl => ?_)
  refine lv_iconst (v := 0) hx hb d_GrantServerModel_wrapPlain_10 (by decide) ?_
  refine lv_istore_n (lv' := [(3, .int 0), (1, .long sk), (0, .ref h)]) hx hb d_GrantServerModel_wrapPlain_11 rfl hl (by decide) rfl (fun ls hl => ?_)
  have loop12 : ∀ (fu : Nat) (j : Nat) (g : Nat → Int32) (fL : hm) (H : Heap) (locs : List Loc) (ls : Array Slot) (hmu : (n * 8 + 5) / 6 - j < fu) (hj : j ≤ (n * 8 + 5) / 6) (hg : ∀ i, i < j → g i = nI (st_chr 6 (z_six n ch i))) (hmo : mo k fL h ad sk (upd v 26 (nI j)) (va_up c 25 g)) (hfr : mo_fr h ad f fL) (hM : hm_W D vwCl (hm_A f s.heap.size) fL H) (hS : va_S (hm_A f s.heap.size) s.heap H locs) (hl : lv_has ls 5 [(0, .ref h), (1, .long (z_seal sk g j)), (3, .int (nI (6 * j)))]), W p l e ({ frames := 1, cells := 0, slots := 0, locals := 24 }) s m ([.ref h] : List Value).toArray below meth cd H locs 0 0 Q (F0 m 12 ls []) := by
    intro fu
    induction fu with
    | zero => intro j g fL H locs ls hmu; exact absurd hmu (Nat.not_lt_zero _)
    | succ fu ih =>
      intro j g fL H locs ls hmu hj hg  hmo hfr hM hS hl
      refine lv_iload_n hx hb d_GrantServerModel_wrapPlain_12 rfl (lv_at hl 2 rfl) ?_
      refine lv_bipush (v := 8) hx hb d_GrantServerModel_wrapPlain_13 (by decide) ?_
      refine lv_aload_n hx hb d_GrantServerModel_wrapPlain_15 rfl (lv_at hl 0 rfl) ?_
      refine hm_get X hK hM hmo.1 fl_GrantServerModel_121 (v := .int (v 28)) rfl d_GrantServerModel_wrapPlain_16 ?_
      refine lv_imul hx hb d_GrantServerModel_wrapPlain_19 ?_
      refine hm_top (z := nI (8 * n)) (by show 8 * v 28 = _; rw [hn]; exact pk_mul 8 n) ?_
      refine lv_icmp_ge (tgt := 67) hx hb d_GrantServerModel_wrapPlain_20 (by decide) (fun h3 => ?_) (fun h3 => ?_)
      · have hge : j = (n * 8 + 5) / 6 := by have z := (nI_leI (a := 8 * n) (b := 6 * j) (by omega) (by omega)).mp h3; omega
        subst hge
        refine lv_aload_n hx hb d_GrantServerModel_wrapPlain_67 rfl (lv_at hl 0 rfl) ?_
        refine hm_get X hK hM hmo.1 fl_GrantServerModel_60 (v := .ref (ad 25)) rfl d_GrantServerModel_wrapPlain_68 ?_
        refine lv_aload_n hx hb d_GrantServerModel_wrapPlain_71 rfl (lv_at hl 0 rfl) ?_
        refine hm_get X hK hM hmo.1 fl_GrantServerModel_160 (v := .int (nI ((n * 8 + 5) / 6))) rfl d_GrantServerModel_wrapPlain_72 ?_
        refine lv_bipush (v := 46) hx hb d_GrantServerModel_wrapPlain_75 (by decide) ?_
        have g4 : fL (ad 25) = some (.inl (k 0, 120, .inl g)) := hmo.arr 25 (by decide) (by decide)
        refine hm_iast X hK hM hS g4 0 rfl ((n * 8 + 5) / 6) rfl (by omega) (by decide) d_GrantServerModel_wrapPlain_77 (fun f5 H locs e6 hM hS => ?_)
        have hfr := hfr.ast 25 (by decide) (by decide) e6; have hmo : mo k f5 h ad sk (upd v 26 (nI ((n * 8 + 5) / 6))) (va_up (va_up c 25 g) 25 (upd g ((n * 8 + 5) / 6) 46)) := hmo.ast 25 (by decide) (by decide) e6
        refine lv_aload_n hx hb d_GrantServerModel_wrapPlain_78 rfl (lv_at hl 0 rfl) ?_
        refine lv_dup hx hb d_GrantServerModel_wrapPlain_79 rfl ?_
        refine hm_get X hK hM hmo.1 fl_GrantServerModel_160 (v := .int (nI ((n * 8 + 5) / 6))) rfl d_GrantServerModel_wrapPlain_80 ?_
        refine lv_iconst (v := 1) hx hb d_GrantServerModel_wrapPlain_83 (by decide) ?_
        refine lv_iadd hx hb d_GrantServerModel_wrapPlain_84 ?_
        refine hm_top (nI_1 _) ?_
        refine hm_put X hK hM hS (fs' := moV sk (upd (upd v 26 (nI ((n * 8 + 5) / 6))) 26 (nI (((n * 8 + 5) / 6) + 1))) ad) hmo.1 fl_GrantServerModel_160 rfl rfl (Nat.le_of_ble_eq_true rfl) rfl d_GrantServerModel_wrapPlain_85 (fun f7 H locs e8 hM hS => ?_)
        have hfr := hfr.put e8; have hmo : mo k f7 h ad sk (upd (upd v 26 (nI ((n * 8 + 5) / 6))) 26 (nI (((n * 8 + 5) / 6) + 1))) (va_up (va_up c 25 g) 25 (upd g ((n * 8 + 5) / 6) 46)) := hmo.put e8
        refine lv_bipush (v := 9) hx hb d_GrantServerModel_wrapPlain_88 (by decide) ?_
        refine hm_top (z := 9 - nI 0) (by decide) ?_
        refine lv_istore_n (lv' := [(3, .int (9 - nI 0)), (0, .ref h), (1, .long (z_seal sk g ((n * 8 + 5) / 6)))]) hx hb d_GrantServerModel_wrapPlain_90 rfl hl (by decide) rfl (fun ls hl => ?_)
        have loop91 : ∀ (fu91 : Nat) (j2 : Nat) (g2 : Nat → Int32) (fL : hm) (H : Heap) (locs : List Loc) (ls : Array Slot) (hmu91 : 10 - j2 < fu91) (hj2 : j2 ≤ 10) (hg2 : ∀ i, i < (n * 8 + 5) / 6 → g2 i = g i) (hdot : g2 ((n * 8 + 5) / 6) = 46) (hg3 : ∀ i, i < j2 → g2 ((n * 8 + 5) / 6 + 1 + i) = m_sign (m_ss (z_seal sk g ((n * 8 + 5) / 6)) i)) (hmo : mo k fL h ad sk (upd v 26 (nI ((n * 8 + 5) / 6 + 1 + j2))) (va_up c 25 g2)) (hfr : mo_fr h ad f fL) (hM : hm_W D vwCl (hm_A f s.heap.size) fL H) (hS : va_S (hm_A f s.heap.size) s.heap H locs) (hl : lv_has ls 5 [(0, .ref h), (1, .long (z_seal sk g ((n * 8 + 5) / 6))), (3, .int (9 - nI j2))]), W p l e ({ frames := 1, cells := 0, slots := 0, locals := 24 }) s m ([.ref h] : List Value).toArray below meth cd H locs 0 0 Q (F0 m 91 ls []) := by
          intro fu91
          induction fu91 with
          | zero => intro j2 g2 fL H locs ls hmu91; exact absurd hmu91 (Nat.not_lt_zero _)
          | succ fu91 ih91 =>
            intro j2 g2 fL H locs ls hmu91 hj2 hg2 hdot hg3  hmo hfr hM hS hl
            refine lv_iload_n hx hb d_GrantServerModel_wrapPlain_91 rfl (lv_at hl 2 rfl) ?_
            refine lv_if_lt (tgt := 134) hx hb d_GrantServerModel_wrapPlain_92 (by decide) (fun h9 => ?_) (fun h9 => ?_)
            · have hge : j2 = 10 := by have z := (m_k9 j2 (by omega)).mp h9; omega
              subst hge
              have hg4 : ∀ i, i < (n * 8 + 5) / 6 → g2 i = nI (st_chr 6 (z_six n ch i)) := fun i h9 => (hg2 i h9).trans (hg i (by omega))
              have hg5 : ∀ i, i < 10 → g2 ((n * 8 + 5) / 6 + 1 + i) = m_sign (m_ss (z_seal sk g2 ((n * 8 + 5) / 6)) i) := fun i h9 => by rw [z_seal_congr (j := (n * 8 + 5) / 6) (fun i h8 => hg2 i h8)]; exact hg3 i h9
              exact hm_vret X hQ hr hlk hK hM hS d_GrantServerModel_wrapPlain_134 ⟨g2, hg4, hdot, hg5, hmo, hfr⟩
            · have hlt : j2 < 10 := by have z := mt (m_k9 j2 (by omega)).mpr h9; omega
              refine lv_aload_n hx hb d_GrantServerModel_wrapPlain_95 rfl (lv_at hl 0 rfl) ?_
              refine hm_get X hK hM hmo.1 fl_GrantServerModel_60 (v := .ref (ad 25)) rfl d_GrantServerModel_wrapPlain_96 ?_
              refine lv_aload_n hx hb d_GrantServerModel_wrapPlain_99 rfl (lv_at hl 0 rfl) ?_
              refine hm_get X hK hM hmo.1 fl_GrantServerModel_160 (v := .int (nI ((n * 8 + 5) / 6 + 1 + j2))) rfl d_GrantServerModel_wrapPlain_100 ?_
              refine lv_lload_n hx hb d_GrantServerModel_wrapPlain_103 rfl (lv_at hl 1 rfl) ?_
              refine lv_bipush (v := 6) hx hb d_GrantServerModel_wrapPlain_104 (by decide) ?_
              refine lv_iload_n hx hb d_GrantServerModel_wrapPlain_106 rfl (lv_at hl 2 rfl) ?_
              refine lv_imul hx hb d_GrantServerModel_wrapPlain_107 ?_
              refine hm_top (z := 6 * (9 - nI j2)) rfl ?_
              refine lv_lshr hx hb d_GrantServerModel_wrapPlain_108 rfl ?_
              refine lv_ldc2 (v := 63) hx hb hown (hts _ wc_GrantServerModel_173) d_GrantServerModel_wrapPlain_109 ?_
              refine lv_land hx hb d_GrantServerModel_wrapPlain_112 ?_
              refine lv_l2i hx hb d_GrantServerModel_wrapPlain_113 rfl ?_
              refine hm_top (z := m_ss (z_seal sk g ((n * 8 + 5) / 6)) j2) rfl ?_
              refine hm_calli hS hM hA (va_runS (As := [.int (m_ss (z_seal sk g ((n * 8 + 5) / 6)) j2)]) (rest := [.int (nI ((n * 8 + 5) / 6 + 1 + j2)), .ref (ad 25)]) X (m_c_sign l D k fL (m_ss (z_seal sk g ((n * 8 + 5) / 6)) j2)  H.size) (hm_cwS hts me_GrantServerModel_sign wl_GrantServerModel_166 rfl rfl ⟨Nat.le_of_ble_eq_true rfl, Nat.le_of_ble_eq_true rfl⟩) (hm_preS hM hK) rfl rfl hl.1 rfl (lv_room (Nat.le_of_ble_eq_true rfl)) d_GrantServerModel_wrapPlain_114 ⟨Nat.le_of_ble_eq_true rfl, Nat.le_of_ble_eq_true rfl⟩) (fun r12 f10 H locs p11 hM hS => ?_)
              obtain ⟨rfl, rfl⟩ := p11
              have g13 : fL (ad 25) = some (.inl (k 0, 120, .inl g2)) := hmo.arr 25 (by decide) (by decide)
              refine hm_iast X hK hM hS g13 0 rfl ((n * 8 + 5) / 6 + 1 + j2) rfl (by omega) (by decide) d_GrantServerModel_wrapPlain_117 (fun f14 H locs e15 hM hS => ?_)
              have hfr := hfr.ast 25 (by decide) (by decide) e15; have hmo : mo k f14 h ad sk (upd v 26 (nI ((n * 8 + 5) / 6 + 1 + j2))) (va_up (va_up c 25 g2) 25 (upd g2 ((n * 8 + 5) / 6 + 1 + j2) (m_sign (m_ss (z_seal sk g ((n * 8 + 5) / 6)) j2)))) := hmo.ast 25 (by decide) (by decide) e15
              refine lv_aload_n hx hb d_GrantServerModel_wrapPlain_118 rfl (lv_at hl 0 rfl) ?_
              refine lv_dup hx hb d_GrantServerModel_wrapPlain_119 rfl ?_
              refine hm_get X hK hM hmo.1 fl_GrantServerModel_160 (v := .int (nI ((n * 8 + 5) / 6 + 1 + j2))) rfl d_GrantServerModel_wrapPlain_120 ?_
              refine lv_iconst (v := 1) hx hb d_GrantServerModel_wrapPlain_123 (by decide) ?_
              refine lv_iadd hx hb d_GrantServerModel_wrapPlain_124 ?_
              refine hm_top (nI_1 _) ?_
              refine hm_put X hK hM hS (fs' := moV sk (upd (upd v 26 (nI ((n * 8 + 5) / 6 + 1 + j2))) 26 (nI (((n * 8 + 5) / 6 + 1 + j2) + 1))) ad) hmo.1 fl_GrantServerModel_160 rfl rfl (Nat.le_of_ble_eq_true rfl) rfl d_GrantServerModel_wrapPlain_125 (fun f16 H locs e17 hM hS => ?_)
              have hfr := hfr.put e17; have hmo : mo k f16 h ad sk (upd (upd v 26 (nI ((n * 8 + 5) / 6 + 1 + j2))) 26 (nI (((n * 8 + 5) / 6 + 1 + j2) + 1))) (va_up (va_up c 25 g2) 25 (upd g2 ((n * 8 + 5) / 6 + 1 + j2) (m_sign (m_ss (z_seal sk g ((n * 8 + 5) / 6)) j2)))) := hmo.put e17
              refine lv_iinc (lv' := [(3, .int (9 - nI (j2 + 1))), (0, .ref h), (1, .long (z_seal sk g ((n * 8 + 5) / 6)))]) hx hb d_GrantServerModel_wrapPlain_128 hl (k := 2) rfl (m_dec j2 (by omega)) (by decide) rfl (fun ls hl => ?_)
              refine lv_goto (tgt := 91) hx hb d_GrantServerModel_wrapPlain_131 (by decide) ?_
              exact ih91 (j2 + 1) (upd g2 ((n * 8 + 5) / 6 + 1 + j2) (m_sign (m_ss (z_seal sk g ((n * 8 + 5) / 6)) j2))) f16 H locs ls (by omega) (by omega) (fun i h9 => by simp [upd, show i ≠ (n * 8 + 5) / 6 + 1 + j2 by omega]; exact hg2 i h9) (by simp [upd, show (n * 8 + 5) / 6 ≠ (n * 8 + 5) / 6 + 1 + j2 by omega]; exact hdot) (fun i h9 => by by_cases e9 : i = j2 <;> simp [upd, e9]; exact hg3 i (by omega))  (hmo.cv (upd_uu _ _ _ _).symm (bx_uu _ _ _ _).symm) hfr hM hS (lv_sub hl [1, 2, 0] rfl)
        exact loop91 _ 0 (upd g ((n * 8 + 5) / 6) 46) f7 H locs ls (Nat.lt_succ_self _) (Nat.zero_le _) (fun i h9 => by simp [upd, show i ≠ (n * 8 + 5) / 6 by omega]) (by simp [upd]) (fun i h9 => absurd h9 (Nat.not_lt_zero _))  (hmo.cv (upd_uu _ _ _ _).symm (bx_uu _ _ _ _).symm) hfr hM hS (lv_sub hl [1, 2, 0] rfl)
      · have hlt : 6 * j < 8 * n := by have z := mt (nI_leI (a := 8 * n) (b := 6 * j) (by omega) (by omega)).mpr h3; omega
        refine lv_aload_n hx hb d_GrantServerModel_wrapPlain_23 rfl (lv_at hl 0 rfl) ?_
        refine lv_iload_n hx hb d_GrantServerModel_wrapPlain_24 rfl (lv_at hl 2 rfl) ?_
        refine hm_calli hS hM hA (va_runV (As := [.int (nI (6 * j))]) (rest := []) X (m_c_six l D k fL h ad sk (upd v 26 (nI j)) (va_up c 25 g) n ch (6 * j) hmo hn hn9 hx9 (by omega) H.size) (hm_cwV hts me_GrantServerModel_six wl_GrantServerModel_163 rfl rfl ⟨Nat.le_of_ble_eq_true rfl, Nat.le_of_ble_eq_true rfl⟩) (hm_preV hM hK hmo.1 rfl) rfl rfl hl.1 rfl (lv_room (Nat.le_of_ble_eq_true rfl)) d_GrantServerModel_wrapPlain_25 ⟨Nat.le_of_ble_eq_true rfl, Nat.le_of_ble_eq_true rfl⟩) (fun r6 f4 H locs p5 hM hS => ?_)
        obtain ⟨rfl, rfl⟩ := p5
        refine hm_top (z := nI (z_six n ch j)) (congrArg nI (m_six_eq hx9 (by omega))) ?_
        refine hm_calli hS hM hA (va_runS (As := [.int (nI (z_six n ch j))]) (rest := []) X (m_c_sign l D k fL (nI (z_six n ch j))  H.size) (hm_cwS hts me_GrantServerModel_sign wl_GrantServerModel_166 rfl rfl ⟨Nat.le_of_ble_eq_true rfl, Nat.le_of_ble_eq_true rfl⟩) (hm_preS hM hK) rfl rfl hl.1 rfl (lv_room (Nat.le_of_ble_eq_true rfl)) d_GrantServerModel_wrapPlain_28 ⟨Nat.le_of_ble_eq_true rfl, Nat.le_of_ble_eq_true rfl⟩) (fun r9 f7 H locs p8 hM hS => ?_)
        obtain ⟨rfl, rfl⟩ := p8
        refine hm_top (z := nI (st_chr 6 (z_six n ch j))) (m_sign_eq _ (z_six_lt _ _ _)) ?_
        refine lv_istore (lv' := [(4, .int (nI (st_chr 6 (z_six n ch j)))), (0, .ref h), (1, .long (z_seal sk g j)), (3, .int (nI (6 * j)))]) hx hb d_GrantServerModel_wrapPlain_31 hl (by decide) rfl (fun ls hl => ?_)
        refine lv_aload_n hx hb d_GrantServerModel_wrapPlain_33 rfl (lv_at hl 1 rfl) ?_
        refine hm_get X hK hM hmo.1 fl_GrantServerModel_60 (v := .ref (ad 25)) rfl d_GrantServerModel_wrapPlain_34 ?_
        refine lv_aload_n hx hb d_GrantServerModel_wrapPlain_37 rfl (lv_at hl 1 rfl) ?_
        refine hm_get X hK hM hmo.1 fl_GrantServerModel_160 (v := .int (nI j)) rfl d_GrantServerModel_wrapPlain_38 ?_
        refine lv_iload hx hb d_GrantServerModel_wrapPlain_41 (lv_at hl 0 rfl) ?_
        have g10 : fL (ad 25) = some (.inl (k 0, 120, .inl g)) := hmo.arr 25 (by decide) (by decide)
        refine hm_iast X hK hM hS g10 0 rfl j rfl (by omega) (by decide) d_GrantServerModel_wrapPlain_43 (fun f11 H locs e12 hM hS => ?_)
        have hfr := hfr.ast 25 (by decide) (by decide) e12; have hmo : mo k f11 h ad sk (upd v 26 (nI j)) (va_up (va_up c 25 g) 25 (upd g j (nI (st_chr 6 (z_six n ch j))))) := hmo.ast 25 (by decide) (by decide) e12
        refine lv_aload_n hx hb d_GrantServerModel_wrapPlain_44 rfl (lv_at hl 1 rfl) ?_
        refine lv_dup hx hb d_GrantServerModel_wrapPlain_45 rfl ?_
        refine hm_get X hK hM hmo.1 fl_GrantServerModel_160 (v := .int (nI j)) rfl d_GrantServerModel_wrapPlain_46 ?_
        refine lv_iconst (v := 1) hx hb d_GrantServerModel_wrapPlain_49 (by decide) ?_
        refine lv_iadd hx hb d_GrantServerModel_wrapPlain_50 ?_
        refine hm_top (nI_1 _) ?_
        refine hm_put X hK hM hS (fs' := moV sk (upd (upd v 26 (nI j)) 26 (nI (j + 1))) ad) hmo.1 fl_GrantServerModel_160 rfl rfl (Nat.le_of_ble_eq_true rfl) rfl d_GrantServerModel_wrapPlain_51 (fun f13 H locs e14 hM hS => ?_)
        have hfr := hfr.put e14; have hmo : mo k f13 h ad sk (upd (upd v 26 (nI j)) 26 (nI (j + 1))) (va_up (va_up c 25 g) 25 (upd g j (nI (st_chr 6 (z_six n ch j))))) := hmo.put e14
        refine lv_lload_n hx hb d_GrantServerModel_wrapPlain_54 rfl (lv_at hl 2 rfl) ?_
        refine lv_iload hx hb d_GrantServerModel_wrapPlain_55 (lv_at hl 0 rfl) ?_
        refine hm_calll hS hM hA (va_runS (As := [.long (z_seal sk g j), .int (nI (st_chr 6 (z_six n ch j)))]) (rest := []) X (m_c_mixed l D k f13 (z_seal sk g j) (nI (st_chr 6 (z_six n ch j)))  H.size) (hm_cwS hts me_GrantServerModel_mixed wl_GrantServerModel_169 rfl rfl ⟨Nat.le_of_ble_eq_true rfl, Nat.le_of_ble_eq_true rfl⟩) (hm_preS hM hK) rfl rfl hl.1 rfl (lv_room (Nat.le_of_ble_eq_true rfl)) d_GrantServerModel_wrapPlain_57 ⟨Nat.le_of_ble_eq_true rfl, Nat.le_of_ble_eq_true rfl⟩) (fun r17 f15 H locs p16 hM hS => ?_)
        obtain ⟨rfl, rfl⟩ := p16
        refine hm_topl z_seal_upd ?_
        refine lv_lstore_n (lv' := [(1, .long (z_seal sk (upd g j (nI (st_chr 6 (z_six n ch j)))) (j + 1))), (4, .int (nI (st_chr 6 (z_six n ch j)))), (0, .ref h), (3, .int (nI (6 * j)))]) hx hb d_GrantServerModel_wrapPlain_60 rfl hl (by decide) rfl (fun ls hl => ?_)
        refine lv_iinc (lv' := [(3, .int (nI (6 * (j + 1)))), (1, .long (z_seal sk (upd g j (nI (st_chr 6 (z_six n ch j)))) (j + 1))), (4, .int (nI (st_chr 6 (z_six n ch j)))), (0, .ref h)]) hx hb d_GrantServerModel_wrapPlain_61 hl (k := 3) rfl (hm_inc6 j) (by decide) rfl (fun ls hl => ?_)
        refine lv_goto (tgt := 12) hx hb d_GrantServerModel_wrapPlain_64 (by decide) ?_
        exact ih (j + 1) (upd g j (nI (st_chr 6 (z_six n ch j)))) f13 H locs ls (by omega) (by omega) (fun i hi => by by_cases e : i = j <;> simp [upd, e]; exact hg i (by omega))  (hmo.cv (upd_uu _ _ _ _).symm (bx_uu _ _ _ _).symm) hfr hM hS (lv_sub hl [3, 1, 0] rfl)
  exact loop12 _ 0 (c 25) f1 H locs ls (Nat.lt_succ_self _) (Nat.zero_le _) (fun i h => absurd h (Nat.not_lt_zero _))  (hmo.cv rfl (va_up_id _ _)) hfr hM hS (lv_sub hl [2, 1, 0] rfl)
set_option maxHeartbeats 4000000 in
set_option maxRecDepth 100000 in
theorem m_c_sweep (l : Launch) (D : va_G) (k : Nat → ClassId) (f : hm) (h : Nat) (ad : Nat → Nat) (sk : Int64) (v : Nat → Int32) (c : Nat → Nat → Int32) (hmo : mo k f h ad sk v c) : hm_Mi l D vwCl (tyL k) y_GrantServerModel_sweep (Cond.code y_GrantServerModel_sweep b_GrantServerModel_sweep 3 (some .int) :: TB) ({ frames := 0, cells := 0, slots := 0, locals := 0 }) [.ref h] f (fun (r : Int32) (f1 : hm) => nI (m_swc (c 10) (c 13) (v 4) 64) = r ∧ mo k f1 h ad sk v (va_up c 10 (m_sw (c 10) (c 13) (v 4) 64)) ∧ mo_fr h ad f f1) 0 0 := by
  refine hm_enter (Qc := fun sz => va_Qi _ (hm_R D vwCl (tyL k) f sz) (hm_A f sz)) (by decide) rfl (Nat.le_of_ble_eq_true rfl) ?_
  intro p e s m below meth cd ls X0 hr hlk hin hK hM hS hA hl Q hQ
  have X : CallFix p m cd b_GrantServerModel_sweep 3 s ([.ref h] : List Value).toArray TB R_GrantServerModel := ⟨X0.1, X0.2.1, X0.2.2.1, X0.2.2.2.1, fun w h => X0.2.2.2.2 w (List.mem_cons_of_mem _ h)⟩
  have hx := X.1; have hb := X.2.1; have hml := X.2.2.1; have hown := X.2.2.2.1; have hts := X.2.2.2.2
  have hl : lv_has ls 3 [(0, .ref h)] := hl
  have hfr : mo_fr h ad f f := mo_fr.rf
  refine lv_iconst (v := 0) hx hb d_GrantServerModel_sweep_0 (by decide) ?_
  refine lv_istore_n (lv' := [(1, .int 0), (0, .ref h)]) hx hb d_GrantServerModel_sweep_1 rfl hl (by decide) rfl (fun ls hl => ?_)
  refine lv_iconst (v := 0) hx hb d_GrantServerModel_sweep_2 (by decide) ?_
  refine lv_istore_n (lv' := [(2, .int 0), (1, .int 0), (0, .ref h)]) hx hb d_GrantServerModel_sweep_3 rfl hl (by decide) rfl (fun ls hl => ?_)
  have loop4 : ∀ (fu : Nat) (j : Nat) (fL : hm) (H : Heap) (locs : List Loc) (ls : Array Slot) (hmu : 64 - j < fu) (hj : j ≤ 64) (hmo : mo k fL h ad sk v (va_up c 10 (m_sw (c 10) (c 13) (v 4) j))) (hfr : mo_fr h ad f fL) (hM : hm_W D vwCl (hm_A f s.heap.size) fL H) (hS : va_S (hm_A f s.heap.size) s.heap H locs) (hl : lv_has ls 3 [(0, .ref h), (1, .int (nI (m_swc (c 10) (c 13) (v 4) j))), (2, .int (nI j))]), W p l e ({ frames := 0, cells := 0, slots := 0, locals := 0 }) s m ([.ref h] : List Value).toArray below meth cd H locs 0 0 Q (F0 m 4 ls []) := by
    intro fu
    induction fu with
    | zero => intro j fL H locs ls hmu; exact absurd hmu (Nat.not_lt_zero _)
    | succ fu ih =>
      intro j fL H locs ls hmu hj  hmo hfr hM hS hl
      refine lv_iload_n hx hb d_GrantServerModel_sweep_4 rfl (lv_at hl 2 rfl) ?_
      refine lv_bipush (v := 64) hx hb d_GrantServerModel_sweep_5 (by decide) ?_
      refine lv_icmp_ge (tgt := 48) hx hb d_GrantServerModel_sweep_7 (by decide) (fun h1 => ?_) (fun h1 => ?_)
      · have hge : j = 64 := by have z := (nI_leI (a := 64) (b := j) (by decide) (by omega)).mp h1; omega
        subst hge
        refine lv_iload_n hx hb d_GrantServerModel_sweep_48 rfl (lv_at hl 1 rfl) ?_
        exact hm_iret X hQ hr hlk hK hM hS d_GrantServerModel_sweep_49 ⟨rfl, hmo, hfr⟩
      · have hlt : j < 64 := by have z := mt (nI_leI (a := 64) (b := j) (by decide) (by omega)).mpr h1; omega
        refine lv_aload_n hx hb d_GrantServerModel_sweep_10 rfl (lv_at hl 0 rfl) ?_
        refine hm_get X hK hM hmo.1 fl_GrantServerModel_23 (v := .ref (ad 10)) rfl d_GrantServerModel_sweep_11 ?_
        refine lv_iload_n hx hb d_GrantServerModel_sweep_14 rfl (lv_at hl 2 rfl) ?_
        have g2 : fL (ad 10) = some (.inl (k 0, 64, .inl (m_sw (c 10) (c 13) (v 4) j))) := hmo.arr 10 (by decide) (by decide)
        refine hm_iald X hK hM g2 0 rfl j rfl (by omega) (by decide) d_GrantServerModel_sweep_15 ?_
        refine hm_top (z := c 10 j) m_sw_at ?_
        refine lv_if_eq (tgt := 42) hx hb d_GrantServerModel_sweep_16 (by decide) (fun h3 => ?_) (fun h3 => ?_)
        · refine lv_iinc (lv' := [(2, .int (nI (j + 1))), (0, .ref h), (1, .int (nI (m_swc (c 10) (c 13) (v 4) j)))]) hx hb d_GrantServerModel_sweep_42 hl (k := 2) rfl (hm_inc _) (by decide) rfl (fun ls hl => ?_)
          refine lv_goto (tgt := 4) hx hb d_GrantServerModel_sweep_45 (by decide) ?_
          have e9 : m_swc (c 10) (c 13) (v 4) (j + 1) = m_swc (c 10) (c 13) (v 4) j := by simp [m_swc, Int32.not_le.mp h1, h3]
          rw [← e9] at hl
          exact ih (j + 1) fL H locs ls (by omega) (by omega)  (hmo.cv rfl (by rw [m_sw_miss (Or.inl h3)])) hfr hM hS (lv_sub hl [1, 2, 0] rfl)
        · refine lv_aload_n hx hb d_GrantServerModel_sweep_19 rfl (lv_at hl 0 rfl) ?_
          refine hm_get X hK hM hmo.1 fl_GrantServerModel_32 (v := .ref (ad 13)) rfl d_GrantServerModel_sweep_20 ?_
          refine lv_iload_n hx hb d_GrantServerModel_sweep_23 rfl (lv_at hl 2 rfl) ?_
          have g4 : fL (ad 13) = some (.inl (k 0, 64, .inl (c 13))) := hmo.arr 13 (by decide) (by decide)
          refine hm_iald X hK hM g4 0 rfl j rfl (by omega) (by decide) d_GrantServerModel_sweep_24 ?_
          refine lv_aload_n hx hb d_GrantServerModel_sweep_25 rfl (lv_at hl 0 rfl) ?_
          refine hm_get X hK hM hmo.1 fl_GrantServerModel_104 (v := .int (v 4)) rfl d_GrantServerModel_sweep_26 ?_
          refine lv_icmp_gt (tgt := 42) hx hb d_GrantServerModel_sweep_29 (by decide) (fun h5 => ?_) (fun h5 => ?_)
          · refine lv_iinc (lv' := [(2, .int (nI (j + 1))), (0, .ref h), (1, .int (nI (m_swc (c 10) (c 13) (v 4) j)))]) hx hb d_GrantServerModel_sweep_42 hl (k := 2) rfl (hm_inc _) (by decide) rfl (fun ls hl => ?_)
            refine lv_goto (tgt := 4) hx hb d_GrantServerModel_sweep_45 (by decide) ?_
            have e9 : m_swc (c 10) (c 13) (v 4) (j + 1) = m_swc (c 10) (c 13) (v 4) j := by simp [m_swc, Int32.not_le.mp h1, h3, h5, Int32.not_le.mpr h5]
            rw [← e9] at hl
            exact ih (j + 1) fL H locs ls (by omega) (by omega)  (hmo.cv rfl (by rw [m_sw_miss (Or.inr (Int32.not_le.mpr h5))])) hfr hM hS (lv_sub hl [1, 2, 0] rfl)
          · refine lv_aload_n hx hb d_GrantServerModel_sweep_32 rfl (lv_at hl 0 rfl) ?_
            refine hm_get X hK hM hmo.1 fl_GrantServerModel_23 (v := .ref (ad 10)) rfl d_GrantServerModel_sweep_33 ?_
            refine lv_iload_n hx hb d_GrantServerModel_sweep_36 rfl (lv_at hl 2 rfl) ?_
            refine lv_iconst (v := 0) hx hb d_GrantServerModel_sweep_37 (by decide) ?_
            have g6 : fL (ad 10) = some (.inl (k 0, 64, .inl (m_sw (c 10) (c 13) (v 4) j))) := hmo.arr 10 (by decide) (by decide)
            refine hm_iast X hK hM hS g6 0 rfl j rfl (by omega) (by decide) d_GrantServerModel_sweep_38 (fun f7 H locs e8 hM hS => ?_)
            have hfr := hfr.ast 10 (by decide) (by decide) e8; have hmo : mo k f7 h ad sk v (va_up (va_up c 10 (m_sw (c 10) (c 13) (v 4) j)) 10 (upd (m_sw (c 10) (c 13) (v 4) j) j 0)) := hmo.ast 10 (by decide) (by decide) e8
            refine lv_iinc (lv' := [(1, .int (nI (m_swc (c 10) (c 13) (v 4) (j + 1)))), (0, .ref h), (2, .int (nI j))]) hx hb d_GrantServerModel_sweep_39 hl (k := 1) rfl (by rw [hm_inc]; simp [m_swc, h3, Int32.not_lt.mp h5]) (by decide) rfl (fun ls hl => ?_)
            refine lv_iinc (lv' := [(2, .int (nI (j + 1))), (1, .int (nI (m_swc (c 10) (c 13) (v 4) (j + 1)))), (0, .ref h)]) hx hb d_GrantServerModel_sweep_42 hl (k := 2) rfl (hm_inc _) (by decide) rfl (fun ls hl => ?_)
            refine lv_goto (tgt := 4) hx hb d_GrantServerModel_sweep_45 (by decide) ?_
            exact ih (j + 1) f7 H locs ls (by omega) (by omega)  (hmo.cv rfl (by rw [bx_uu, m_sw_hit h3 (Int32.not_lt.mp h5)])) hfr hM hS (lv_sub hl [2, 1, 0] rfl)
  exact loop4 _ 0 f s.heap [] ls (Nat.lt_succ_self _) (Nat.zero_le _)  (hmo.cv rfl (by rw [m_sw_0]; exact va_up_id _ _)) hfr hM hS (lv_sub hl [2, 1, 0] rfl)
set_option maxHeartbeats 4000000 in
set_option maxRecDepth 100000 in
theorem m_c_activeTokens (l : Launch) (D : va_G) (k : Nat → ClassId) (f : hm) (h : Nat) (ad : Nat → Nat) (sk : Int64) (v : Nat → Int32) (c : Nat → Nat → Int32) (hmo : mo k f h ad sk v c) (hfam : ∀ j, j < 64 → c 15 j < 0 ∨ ∃ t, t < 520 ∧ c 15 j = nI t) : hm_Mi l D vwCl (tyL k) y_GrantServerModel_activeTokens (Cond.code y_GrantServerModel_activeTokens b_GrantServerModel_activeTokens 3 (some .int) :: TB) ({ frames := 1, cells := 0, slots := 0, locals := 21 }) [.ref h] f (fun (r : Int32) (f1 : hm) => nI (m_tok v c 48) = r ∧ f = f1) 0 0 := by
  refine hm_enter (Qc := fun sz => va_Qi _ (hm_R D vwCl (tyL k) f sz) (hm_A f sz)) (by decide) rfl (Nat.le_of_ble_eq_true rfl) ?_
  intro p e s m below meth cd ls X0 hr hlk hin hK hM hS hA hl Q hQ
  have X : CallFix p m cd b_GrantServerModel_activeTokens 3 s ([.ref h] : List Value).toArray TB R_GrantServerModel := ⟨X0.1, X0.2.1, X0.2.2.1, X0.2.2.2.1, fun w h => X0.2.2.2.2 w (List.mem_cons_of_mem _ h)⟩
  have hx := X.1; have hb := X.2.1; have hml := X.2.2.1; have hown := X.2.2.2.1; have hts := X.2.2.2.2
  have hl : lv_has ls 3 [(0, .ref h)] := hl
  have hfr : mo_fr h ad f f := mo_fr.rf
  refine lv_iconst (v := 0) hx hb d_GrantServerModel_activeTokens_0 (by decide) ?_
  refine lv_istore_n (lv' := [(1, .int 0), (0, .ref h)]) hx hb d_GrantServerModel_activeTokens_1 rfl hl (by decide) rfl (fun ls hl => ?_)
  refine lv_bipush (v := 16) hx hb d_GrantServerModel_activeTokens_2 (by decide) ?_
  refine lv_istore_n (lv' := [(2, .int 16), (1, .int 0), (0, .ref h)]) hx hb d_GrantServerModel_activeTokens_4 rfl hl (by decide) rfl (fun ls hl => ?_)
  have loop5 : ∀ (fu : Nat) (j : Nat) (H : Heap) (locs : List Loc) (ls : Array Slot) (hmu : 48 - j < fu) (hj : j ≤ 48) (hM : hm_W D vwCl (hm_A f s.heap.size) f H) (hS : va_S (hm_A f s.heap.size) s.heap H locs) (hl : lv_has ls 3 [(0, .ref h), (1, .int (nI (m_tok v c j))), (2, .int (nI (16 + j)))]), W p l e ({ frames := 1, cells := 0, slots := 0, locals := 21 }) s m ([.ref h] : List Value).toArray below meth cd H locs 0 0 Q (F0 m 5 ls []) := by
    intro fu
    induction fu with
    | zero => intro j H locs ls hmu; exact absurd hmu (Nat.not_lt_zero _)
    | succ fu ih =>
      intro j H locs ls hmu hj  hM hS hl
      refine lv_iload_n hx hb d_GrantServerModel_activeTokens_5 rfl (lv_at hl 2 rfl) ?_
      refine lv_bipush (v := 64) hx hb d_GrantServerModel_activeTokens_6 (by decide) ?_
      refine lv_icmp_ge (tgt := 33) hx hb d_GrantServerModel_activeTokens_8 (by decide) (fun h1 => ?_) (fun h1 => ?_)
      · have hge : j = 48 := by have z := (nI_leI (a := 64) (b := 16 + j) (by decide) (by omega)).mp h1; omega
        subst hge
        refine lv_iload_n hx hb d_GrantServerModel_activeTokens_33 rfl (lv_at hl 1 rfl) ?_
        exact hm_iret X hQ hr hlk hK hM hS d_GrantServerModel_activeTokens_34 ⟨rfl, rfl⟩
      · have hlt : 16 + j < 64 := by have z := mt (nI_leI (a := 64) (b := 16 + j) (by decide) (by omega)).mpr h1; omega
        refine lv_aload_n hx hb d_GrantServerModel_activeTokens_11 rfl (lv_at hl 0 rfl) ?_
        refine lv_iload_n hx hb d_GrantServerModel_activeTokens_12 rfl (lv_at hl 2 rfl) ?_
        refine hm_calli hS hM hA (va_runV (As := [.int (nI (16 + j))]) (rest := []) X (m_c_isActive l D k f h ad sk v c (16 + j) hmo (by omega) (hfam _ (by omega)) H.size) (hm_cwV hts me_GrantServerModel_isActive wl_GrantServerModel_145 rfl rfl ⟨Nat.le_of_ble_eq_true rfl, Nat.le_of_ble_eq_true rfl⟩) (hm_preV hM hK hmo.1 rfl) rfl rfl hl.1 rfl (lv_room (Nat.le_of_ble_eq_true rfl)) d_GrantServerModel_activeTokens_13 ⟨Nat.le_of_ble_eq_true rfl, Nat.le_of_ble_eq_true rfl⟩) (fun r4 f2 H locs p3 hM hS => ?_)
        obtain ⟨rfl, rfl⟩ := p3
        refine lv_if_eq (tgt := 25) hx hb d_GrantServerModel_activeTokens_16 (by decide) (fun h5 => ?_) (fun h5 => ?_)
        · refine lv_iload_n hx hb d_GrantServerModel_activeTokens_25 rfl (lv_at hl 1 rfl) ?_
          refine hm_top (z := nI (m_tok v c (j + 1))) (by rw [show m_tok v c (j + 1) = m_tok v c j from by simp [m_tok, h5]]) ?_
          refine lv_istore_n (lv' := [(1, .int (nI (m_tok v c (j + 1)))), (0, .ref h), (2, .int (nI (16 + j)))]) hx hb d_GrantServerModel_activeTokens_26 rfl hl (by decide) rfl (fun ls hl => ?_)
          refine lv_iinc (lv' := [(2, .int (nI (16 + (j + 1)))), (1, .int (nI (m_tok v c (j + 1)))), (0, .ref h)]) hx hb d_GrantServerModel_activeTokens_27 hl (k := 2) rfl (hm_inc _) (by decide) rfl (fun ls hl => ?_)
          refine lv_goto (tgt := 5) hx hb d_GrantServerModel_activeTokens_30 (by decide) ?_
          exact ih (j + 1)  H locs ls (by omega) (by omega)  hM hS (lv_sub hl [2, 1, 0] rfl)
        · refine lv_iload_n hx hb d_GrantServerModel_activeTokens_19 rfl (lv_at hl 1 rfl) ?_
          refine lv_iconst (v := 1) hx hb d_GrantServerModel_activeTokens_20 (by decide) ?_
          refine lv_iadd hx hb d_GrantServerModel_activeTokens_21 ?_
          refine hm_top (nI_1 _) ?_
          refine lv_goto (tgt := 26) hx hb d_GrantServerModel_activeTokens_22 (by decide) ?_
          refine hm_top (z := nI (m_tok v c (j + 1))) (by rw [show m_tok v c (j + 1) = m_tok v c j + 1 from by simp [m_tok, h5]]) ?_
          refine lv_istore_n (lv' := [(1, .int (nI (m_tok v c (j + 1)))), (0, .ref h), (2, .int (nI (16 + j)))]) hx hb d_GrantServerModel_activeTokens_26 rfl hl (by decide) rfl (fun ls hl => ?_)
          refine lv_iinc (lv' := [(2, .int (nI (16 + (j + 1)))), (1, .int (nI (m_tok v c (j + 1)))), (0, .ref h)]) hx hb d_GrantServerModel_activeTokens_27 hl (k := 2) rfl (hm_inc _) (by decide) rfl (fun ls hl => ?_)
          refine lv_goto (tgt := 5) hx hb d_GrantServerModel_activeTokens_30 (by decide) ?_
          exact ih (j + 1)  H locs ls (by omega) (by omega)  hM hS (lv_sub hl [2, 1, 0] rfl)
  exact loop5 _ 0  s.heap [] ls (Nat.lt_succ_self _) (Nat.zero_le _)  hM hS (lv_sub hl [2, 1, 0] rfl)
set_option maxHeartbeats 4000000 in
set_option maxRecDepth 100000 in
theorem m_c_count_no (l : Launch) (D : va_G) (k : Nat → ClassId) (f : hm) (h : Nat) (ad : Nat → Nat) (sk : Int64) (v : Nat → Int32) (c : Nat → Nat → Int32) (x : Int32) (y : Int32) (hmo : mo k f h ad sk v c) (hx9 : x < 0 ∨ 2 < x) : hm_Mi l D vwCl (tyL k) y_GrantServerModel_count (Cond.code y_GrantServerModel_count b_GrantServerModel_count 5 (some .int) :: TB) ({ frames := 0, cells := 0, slots := 0, locals := 0 }) [.ref h, .int x, .int y] f (fun (r : Int32) (f1 : hm) => (-1) = r ∧ f = f1) 0 0 := by
  refine hm_enter (Qc := fun sz => va_Qi _ (hm_R D vwCl (tyL k) f sz) (hm_A f sz)) (by decide) rfl (Nat.le_of_ble_eq_true rfl) ?_
  intro p e s m below meth cd ls X0 hr hlk hin hK hM hS hA hl Q hQ
  have X : CallFix p m cd b_GrantServerModel_count 5 s ([.ref h, .int x, .int y] : List Value).toArray TB R_GrantServerModel := ⟨X0.1, X0.2.1, X0.2.2.1, X0.2.2.2.1, fun w h => X0.2.2.2.2 w (List.mem_cons_of_mem _ h)⟩
  have hx := X.1; have hb := X.2.1; have hml := X.2.2.1; have hown := X.2.2.2.1; have hts := X.2.2.2.2
  have hl : lv_has ls 5 [(0, .ref h), (1, .int x), (2, .int y)] := hl
  have hfr : mo_fr h ad f f := mo_fr.rf
  refine lv_iload_n hx hb d_GrantServerModel_count_0 rfl (lv_at hl 1 rfl) ?_
  refine lv_if_lt (tgt := 9) hx hb d_GrantServerModel_count_1 (by decide) (fun h1 => ?_) (fun h1 => ?_)
  · refine lv_iconst (v := (-1)) hx hb d_GrantServerModel_count_9 (by decide) ?_
    exact hm_iret X hQ hr hlk hK hM hS d_GrantServerModel_count_10 ⟨rfl, rfl⟩
  · refine lv_iload_n hx hb d_GrantServerModel_count_4 rfl (lv_at hl 1 rfl) ?_
    refine lv_iconst (v := 2) hx hb d_GrantServerModel_count_5 (by decide) ?_
    refine lv_icmp_le (tgt := 11) hx hb d_GrantServerModel_count_6 (by decide) (fun h2 => ?_) (fun h2 => ?_)
    · exact absurd (hx9.resolve_left h1) (Int32.not_lt.mpr h2)
    · refine lv_iconst (v := (-1)) hx hb d_GrantServerModel_count_9 (by decide) ?_
      exact hm_iret X hQ hr hlk hK hM hS d_GrantServerModel_count_10 ⟨rfl, rfl⟩
set_option maxHeartbeats 4000000 in
set_option maxRecDepth 100000 in
theorem m_c_count (l : Launch) (D : va_G) (k : Nat → ClassId) (f : hm) (h : Nat) (ad : Nat → Nat) (sk : Int64) (v : Nat → Int32) (c : Nat → Nat → Int32) (x : Int32) (y : Int32) (hmo : mo k f h ad sk v c) (hx8 : ¬ x < 0) (hx9 : ¬ 2 < x) (hfam : ∀ j, j < 64 → c 15 j < 0 ∨ ∃ t, t < 520 ∧ c 15 j = nI t) : hm_Mi l D vwCl (tyL k) y_GrantServerModel_count (Cond.code y_GrantServerModel_count b_GrantServerModel_count 5 (some .int) :: TB) ({ frames := 1, cells := 0, slots := 0, locals := 21 }) [.ref h, .int x, .int y] f (fun (r : Int32) (f1 : hm) => nI (m_cnt v c y (m_fromN x) (m_toN x - m_fromN x)) = r ∧ f = f1) 0 0 := by
  refine hm_enter (Qc := fun sz => va_Qi _ (hm_R D vwCl (tyL k) f sz) (hm_A f sz)) (by decide) rfl (Nat.le_of_ble_eq_true rfl) ?_
  intro p e s m below meth cd ls X0 hr hlk hin hK hM hS hA hl Q hQ
  have X : CallFix p m cd b_GrantServerModel_count 5 s ([.ref h, .int x, .int y] : List Value).toArray TB R_GrantServerModel := ⟨X0.1, X0.2.1, X0.2.2.1, X0.2.2.2.1, fun w h => X0.2.2.2.2 w (List.mem_cons_of_mem _ h)⟩
  have hx := X.1; have hb := X.2.1; have hml := X.2.2.1; have hown := X.2.2.2.1; have hts := X.2.2.2.2
  have hl : lv_has ls 5 [(0, .ref h), (1, .int x), (2, .int y)] := hl
  have hfr : mo_fr h ad f f := mo_fr.rf
  have hft := m_ft x
  refine lv_iload_n hx hb d_GrantServerModel_count_0 rfl (lv_at hl 1 rfl) ?_
  refine lv_if_lt (tgt := 9) hx hb d_GrantServerModel_count_1 (by decide) (fun h1 => ?_) (fun h1 => ?_)
  · exact absurd h1 hx8
  · refine lv_iload_n hx hb d_GrantServerModel_count_4 rfl (lv_at hl 1 rfl) ?_
    refine lv_iconst (v := 2) hx hb d_GrantServerModel_count_5 (by decide) ?_
    refine lv_icmp_le (tgt := 11) hx hb d_GrantServerModel_count_6 (by decide) (fun h2 => ?_) (fun h2 => ?_)
    · refine lv_iconst (v := 0) hx hb d_GrantServerModel_count_11 (by decide) ?_
      refine lv_istore_n (lv' := [(3, .int 0), (0, .ref h), (1, .int x), (2, .int y)]) hx hb d_GrantServerModel_count_12 rfl hl (by decide) rfl (fun ls hl => ?_)
      refine lv_iload_n hx hb d_GrantServerModel_count_13 rfl (lv_at hl 2 rfl) ?_
      refine hm_calli hS hM hA (va_runS (As := [.int x]) (rest := []) X (m_c_from l D k f x  s.heap.size) (hm_cwS hts me_GrantServerModel_from wl_GrantServerModel_93 rfl rfl ⟨Nat.le_of_ble_eq_true rfl, Nat.le_of_ble_eq_true rfl⟩) (hm_preS hM hK) rfl rfl hl.1 rfl (lv_room (Nat.le_of_ble_eq_true rfl)) d_GrantServerModel_count_14 ⟨Nat.le_of_ble_eq_true rfl, Nat.le_of_ble_eq_true rfl⟩) (fun r5 f3 H locs p4 hM hS => ?_)
      obtain ⟨rfl, rfl⟩ := p4
      refine hm_top (z := nI (m_fromN x)) (m_from_eq x) ?_
      refine lv_istore (lv' := [(4, .int (nI (m_fromN x))), (3, .int 0), (0, .ref h), (1, .int x), (2, .int y)]) hx hb d_GrantServerModel_count_17 hl (by decide) rfl (fun ls hl => ?_)
      have loop19 : ∀ (fu : Nat) (j : Nat) (H : Heap) (locs : List Loc) (ls : Array Slot) (hmu : m_toN x - m_fromN x - j < fu) (hj : j ≤ m_toN x - m_fromN x) (hM : hm_W D vwCl (hm_A f s.heap.size) f H) (hS : va_S (hm_A f s.heap.size) s.heap H locs) (hl : lv_has ls 5 [(0, .ref h), (1, .int x), (2, .int y), (3, .int (nI (m_cnt v c y (m_fromN x) j))), (4, .int (nI (m_fromN x + j)))]), W p l e ({ frames := 1, cells := 0, slots := 0, locals := 21 }) s m ([.ref h, .int x, .int y] : List Value).toArray below meth cd H locs 0 0 Q (F0 m 19 ls []) := by
        intro fu
        induction fu with
        | zero => intro j H locs ls hmu; exact absurd hmu (Nat.not_lt_zero _)
        | succ fu ih =>
          intro j H locs ls hmu hj  hM hS hl
          refine lv_iload hx hb d_GrantServerModel_count_19 (lv_at hl 4 rfl) ?_
          refine lv_iload_n hx hb d_GrantServerModel_count_21 rfl (lv_at hl 1 rfl) ?_
          refine hm_calli hS hM hA (va_runS (As := [.int x]) (rest := [.int (nI (m_fromN x + j))]) X (m_c_to l D k f x  H.size) (hm_cwS hts me_GrantServerModel_to wl_GrantServerModel_96 rfl rfl ⟨Nat.le_of_ble_eq_true rfl, Nat.le_of_ble_eq_true rfl⟩) (hm_preS hM hK) rfl rfl hl.1 rfl (lv_room (Nat.le_of_ble_eq_true rfl)) d_GrantServerModel_count_22 ⟨Nat.le_of_ble_eq_true rfl, Nat.le_of_ble_eq_true rfl⟩) (fun r8 f6 H locs p7 hM hS => ?_)
          obtain ⟨rfl, rfl⟩ := p7
          refine hm_top (z := nI (m_toN x)) (m_to_eq x) ?_
          refine lv_icmp_ge (tgt := 65) hx hb d_GrantServerModel_count_25 (by decide) (fun h9 => ?_) (fun h9 => ?_)
          · have hge : j = m_toN x - m_fromN x := by have z := (nI_leI (a := m_toN x) (b := m_fromN x + j) (by omega) (by omega)).mp h9; omega
            subst hge
            refine lv_iload_n hx hb d_GrantServerModel_count_65 rfl (lv_at hl 3 rfl) ?_
            exact hm_iret X hQ hr hlk hK hM hS d_GrantServerModel_count_66 ⟨rfl, rfl⟩
          · have hlt : m_fromN x + j < m_toN x := by have z := mt (nI_leI (a := m_toN x) (b := m_fromN x + j) (by omega) (by omega)).mpr h9; omega
            refine lv_aload_n hx hb d_GrantServerModel_count_28 rfl (lv_at hl 0 rfl) ?_
            refine hm_get X hK hM hmo.1 fl_GrantServerModel_23 (v := .ref (ad 10)) rfl d_GrantServerModel_count_29 ?_
            refine lv_iload hx hb d_GrantServerModel_count_32 (lv_at hl 4 rfl) ?_
            have g10 : f (ad 10) = some (.inl (k 0, 64, .inl (c 10))) := hmo.arr 10 (by decide) (by decide)
            refine hm_iald X hK hM g10 0 rfl (m_fromN x + j) rfl (by omega) (by decide) d_GrantServerModel_count_34 ?_
            refine lv_if_eq (tgt := 57) hx hb d_GrantServerModel_count_35 (by decide) (fun h11 => ?_) (fun h11 => ?_)
            · refine lv_iload_n hx hb d_GrantServerModel_count_57 rfl (lv_at hl 3 rfl) ?_
              refine hm_top (z := nI (m_cnt v c y (m_fromN x) (j + 1))) (by rw [show m_cnt v c y (m_fromN x) (j + 1) = m_cnt v c y (m_fromN x) j from by simp [m_cnt, h11]]) ?_
              refine lv_istore_n (lv' := [(3, .int (nI (m_cnt v c y (m_fromN x) (j + 1)))), (0, .ref h), (1, .int x), (2, .int y), (4, .int (nI (m_fromN x + j)))]) hx hb d_GrantServerModel_count_58 rfl hl (by decide) rfl (fun ls hl => ?_)
              refine lv_iinc (lv' := [(4, .int (nI (m_fromN x + (j + 1)))), (3, .int (nI (m_cnt v c y (m_fromN x) (j + 1)))), (0, .ref h), (1, .int x), (2, .int y)]) hx hb d_GrantServerModel_count_59 hl (k := 4) rfl (hm_inc _) (by decide) rfl (fun ls hl => ?_)
              refine lv_goto (tgt := 19) hx hb d_GrantServerModel_count_62 (by decide) ?_
              exact ih (j + 1)  H locs ls (by omega) (by omega)  hM hS (lv_sub hl [2, 3, 4, 1, 0] rfl)
            · refine lv_iload_n hx hb d_GrantServerModel_count_38 rfl (lv_at hl 2 rfl) ?_
              refine lv_if_eq (tgt := 51) hx hb d_GrantServerModel_count_39 (by decide) (fun h12 => ?_) (fun h12 => ?_)
              · refine lv_iload_n hx hb d_GrantServerModel_count_51 rfl (lv_at hl 3 rfl) ?_
                refine lv_iconst (v := 1) hx hb d_GrantServerModel_count_52 (by decide) ?_
                refine lv_iadd hx hb d_GrantServerModel_count_53 ?_
                refine hm_top (nI_1 _) ?_
                refine lv_goto (tgt := 58) hx hb d_GrantServerModel_count_54 (by decide) ?_
                refine hm_top (z := nI (m_cnt v c y (m_fromN x) (j + 1))) (by rw [show m_cnt v c y (m_fromN x) (j + 1) = m_cnt v c y (m_fromN x) j + 1 from by simp [m_cnt, h11, h12]]) ?_
                refine lv_istore_n (lv' := [(3, .int (nI (m_cnt v c y (m_fromN x) (j + 1)))), (0, .ref h), (1, .int x), (2, .int y), (4, .int (nI (m_fromN x + j)))]) hx hb d_GrantServerModel_count_58 rfl hl (by decide) rfl (fun ls hl => ?_)
                refine lv_iinc (lv' := [(4, .int (nI (m_fromN x + (j + 1)))), (3, .int (nI (m_cnt v c y (m_fromN x) (j + 1)))), (0, .ref h), (1, .int x), (2, .int y)]) hx hb d_GrantServerModel_count_59 hl (k := 4) rfl (hm_inc _) (by decide) rfl (fun ls hl => ?_)
                refine lv_goto (tgt := 19) hx hb d_GrantServerModel_count_62 (by decide) ?_
                exact ih (j + 1)  H locs ls (by omega) (by omega)  hM hS (lv_sub hl [2, 3, 4, 1, 0] rfl)
              · refine lv_aload_n hx hb d_GrantServerModel_count_42 rfl (lv_at hl 0 rfl) ?_
                refine lv_iload hx hb d_GrantServerModel_count_43 (lv_at hl 4 rfl) ?_
                refine hm_calli hS hM hA (va_runV (As := [.int (nI (m_fromN x + j))]) (rest := []) X (m_c_isActive l D k f h ad sk v c (m_fromN x + j) hmo (by omega) (hfam _ (by omega)) H.size) (hm_cwV hts me_GrantServerModel_isActive wl_GrantServerModel_145 rfl rfl ⟨Nat.le_of_ble_eq_true rfl, Nat.le_of_ble_eq_true rfl⟩) (hm_preV hM hK hmo.1 rfl) rfl rfl hl.1 rfl (lv_room (Nat.le_of_ble_eq_true rfl)) d_GrantServerModel_count_45 ⟨Nat.le_of_ble_eq_true rfl, Nat.le_of_ble_eq_true rfl⟩) (fun r15 f13 H locs p14 hM hS => ?_)
                obtain ⟨rfl, rfl⟩ := p14
                refine lv_if_eq (tgt := 57) hx hb d_GrantServerModel_count_48 (by decide) (fun h16 => ?_) (fun h16 => ?_)
                · refine lv_iload_n hx hb d_GrantServerModel_count_57 rfl (lv_at hl 3 rfl) ?_
                  refine hm_top (z := nI (m_cnt v c y (m_fromN x) (j + 1))) (by rw [show m_cnt v c y (m_fromN x) (j + 1) = m_cnt v c y (m_fromN x) j from by simp [m_cnt, h11, h12, h16]]) ?_
                  refine lv_istore_n (lv' := [(3, .int (nI (m_cnt v c y (m_fromN x) (j + 1)))), (0, .ref h), (1, .int x), (2, .int y), (4, .int (nI (m_fromN x + j)))]) hx hb d_GrantServerModel_count_58 rfl hl (by decide) rfl (fun ls hl => ?_)
                  refine lv_iinc (lv' := [(4, .int (nI (m_fromN x + (j + 1)))), (3, .int (nI (m_cnt v c y (m_fromN x) (j + 1)))), (0, .ref h), (1, .int x), (2, .int y)]) hx hb d_GrantServerModel_count_59 hl (k := 4) rfl (hm_inc _) (by decide) rfl (fun ls hl => ?_)
                  refine lv_goto (tgt := 19) hx hb d_GrantServerModel_count_62 (by decide) ?_
                  exact ih (j + 1)  H locs ls (by omega) (by omega)  hM hS (lv_sub hl [2, 3, 4, 1, 0] rfl)
                · refine lv_iload_n hx hb d_GrantServerModel_count_51 rfl (lv_at hl 3 rfl) ?_
                  refine lv_iconst (v := 1) hx hb d_GrantServerModel_count_52 (by decide) ?_
                  refine lv_iadd hx hb d_GrantServerModel_count_53 ?_
                  refine hm_top (nI_1 _) ?_
                  refine lv_goto (tgt := 58) hx hb d_GrantServerModel_count_54 (by decide) ?_
                  refine hm_top (z := nI (m_cnt v c y (m_fromN x) (j + 1))) (by rw [show m_cnt v c y (m_fromN x) (j + 1) = m_cnt v c y (m_fromN x) j + 1 from by simp [m_cnt, h11, h12, h16]]) ?_
                  refine lv_istore_n (lv' := [(3, .int (nI (m_cnt v c y (m_fromN x) (j + 1)))), (0, .ref h), (1, .int x), (2, .int y), (4, .int (nI (m_fromN x + j)))]) hx hb d_GrantServerModel_count_58 rfl hl (by decide) rfl (fun ls hl => ?_)
                  refine lv_iinc (lv' := [(4, .int (nI (m_fromN x + (j + 1)))), (3, .int (nI (m_cnt v c y (m_fromN x) (j + 1)))), (0, .ref h), (1, .int x), (2, .int y)]) hx hb d_GrantServerModel_count_59 hl (k := 4) rfl (hm_inc _) (by decide) rfl (fun ls hl => ?_)
                  refine lv_goto (tgt := 19) hx hb d_GrantServerModel_count_62 (by decide) ?_
                  exact ih (j + 1)  H locs ls (by omega) (by omega)  hM hS (lv_sub hl [2, 3, 4, 1, 0] rfl)
      exact loop19 _ 0  H locs ls (Nat.lt_succ_self _) (Nat.zero_le _)  hM hS (lv_sub hl [2, 3, 4, 1, 0] rfl)
    · exact absurd (Int32.not_lt.mp hx9) h2
