theorem d_GrantServerModel_client_0 : decode b_GrantServerModel_client 0 = .ok (.aload_n 0, 1) := by decide +kernel
theorem d_GrantServerModel_client_1 : decode b_GrantServerModel_client 1 = .ok (.getfield 86, 3) := by decide +kernel
theorem d_GrantServerModel_client_4 : decode b_GrantServerModel_client 4 = .ok (.iconst 4, 1) := by decide +kernel
theorem d_GrantServerModel_client_5 : decode b_GrantServerModel_client 5 = .ok (.if_icmp .eq 14, 3) := by decide +kernel
theorem d_GrantServerModel_client_8 : decode b_GrantServerModel_client 8 = .ok (.iload_n 3, 1) := by decide +kernel
theorem d_GrantServerModel_client_9 : decode b_GrantServerModel_client 9 = .ok (.iconst 1, 1) := by decide +kernel
theorem d_GrantServerModel_client_10 : decode b_GrantServerModel_client 10 = .ok (.if_icmp .lt 9, 3) := by decide +kernel
theorem d_GrantServerModel_client_13 : decode b_GrantServerModel_client 13 = .ok (.iload_n 3, 1) := by decide +kernel
theorem d_GrantServerModel_client_14 : decode b_GrantServerModel_client 14 = .ok (.bipush 15, 2) := by decide +kernel
theorem d_GrantServerModel_client_16 : decode b_GrantServerModel_client 16 = .ok (.if_icmp .le 5, 3) := by decide +kernel
theorem d_GrantServerModel_client_19 : decode b_GrantServerModel_client 19 = .ok (.iconst (-1), 1) := by decide +kernel
theorem d_GrantServerModel_client_20 : decode b_GrantServerModel_client 20 = .ok (.ireturn, 1) := by decide +kernel
theorem d_GrantServerModel_client_21 : decode b_GrantServerModel_client 21 = .ok (.aload_n 0, 1) := by decide +kernel
theorem d_GrantServerModel_client_22 : decode b_GrantServerModel_client 22 = .ok (.getfield 7, 3) := by decide +kernel
theorem d_GrantServerModel_client_25 : decode b_GrantServerModel_client 25 = .ok (.aload_n 0, 1) := by decide +kernel
theorem d_GrantServerModel_client_26 : decode b_GrantServerModel_client 26 = .ok (.getfield 86, 3) := by decide +kernel
theorem d_GrantServerModel_client_29 : decode b_GrantServerModel_client 29 = .ok (.iload_n 1, 1) := by decide +kernel
theorem d_GrantServerModel_client_30 : decode b_GrantServerModel_client 30 = .ok (.iastore, 1) := by decide +kernel
theorem d_GrantServerModel_client_31 : decode b_GrantServerModel_client 31 = .ok (.aload_n 0, 1) := by decide +kernel
theorem d_GrantServerModel_client_32 : decode b_GrantServerModel_client 32 = .ok (.getfield 13, 3) := by decide +kernel
theorem d_GrantServerModel_client_35 : decode b_GrantServerModel_client 35 = .ok (.aload_n 0, 1) := by decide +kernel
theorem d_GrantServerModel_client_36 : decode b_GrantServerModel_client 36 = .ok (.getfield 86, 3) := by decide +kernel
theorem d_GrantServerModel_client_39 : decode b_GrantServerModel_client 39 = .ok (.iload_n 2, 1) := by decide +kernel
theorem d_GrantServerModel_client_40 : decode b_GrantServerModel_client 40 = .ok (.iastore, 1) := by decide +kernel
theorem d_GrantServerModel_client_41 : decode b_GrantServerModel_client 41 = .ok (.aload_n 0, 1) := by decide +kernel
theorem d_GrantServerModel_client_42 : decode b_GrantServerModel_client 42 = .ok (.getfield 16, 3) := by decide +kernel
theorem d_GrantServerModel_client_45 : decode b_GrantServerModel_client 45 = .ok (.aload_n 0, 1) := by decide +kernel
theorem d_GrantServerModel_client_46 : decode b_GrantServerModel_client 46 = .ok (.getfield 86, 3) := by decide +kernel
theorem d_GrantServerModel_client_49 : decode b_GrantServerModel_client 49 = .ok (.iload_n 3, 1) := by decide +kernel
theorem d_GrantServerModel_client_50 : decode b_GrantServerModel_client 50 = .ok (.iastore, 1) := by decide +kernel
theorem d_GrantServerModel_client_51 : decode b_GrantServerModel_client 51 = .ok (.aload_n 0, 1) := by decide +kernel
theorem d_GrantServerModel_client_52 : decode b_GrantServerModel_client 52 = .ok (.dup, 1) := by decide +kernel
theorem d_GrantServerModel_client_53 : decode b_GrantServerModel_client 53 = .ok (.getfield 86, 3) := by decide +kernel
theorem d_GrantServerModel_client_56 : decode b_GrantServerModel_client 56 = .ok (.iconst 1, 1) := by decide +kernel
theorem d_GrantServerModel_client_57 : decode b_GrantServerModel_client 57 = .ok (.iadd, 1) := by decide +kernel
theorem d_GrantServerModel_client_58 : decode b_GrantServerModel_client 58 = .ok (.putfield 86, 3) := by decide +kernel
theorem d_GrantServerModel_client_61 : decode b_GrantServerModel_client 61 = .ok (.aload_n 0, 1) := by decide +kernel
theorem d_GrantServerModel_client_62 : decode b_GrantServerModel_client 62 = .ok (.getfield 86, 3) := by decide +kernel
theorem d_GrantServerModel_client_65 : decode b_GrantServerModel_client 65 = .ok (.iconst 1, 1) := by decide +kernel
theorem d_GrantServerModel_client_66 : decode b_GrantServerModel_client 66 = .ok (.isub, 1) := by decide +kernel
theorem d_GrantServerModel_client_67 : decode b_GrantServerModel_client 67 = .ok (.ireturn, 1) := by decide +kernel
theorem d_GrantServerModel_login_0 : decode b_GrantServerModel_login 0 = .ok (.aload_n 0, 1) := by decide +kernel
theorem d_GrantServerModel_login_1 : decode b_GrantServerModel_login 1 = .ok (.aload_n 0, 1) := by decide +kernel
theorem d_GrantServerModel_login_2 : decode b_GrantServerModel_login 2 = .ok (.iload_n 1, 1) := by decide +kernel
theorem d_GrantServerModel_login_3 : decode b_GrantServerModel_login 3 = .ok (.invokevirtual 89, 3) := by decide +kernel
theorem d_GrantServerModel_login_6 : decode b_GrantServerModel_login 6 = .ok (.ifCond .eq 17, 3) := by decide +kernel
theorem d_GrantServerModel_login_9 : decode b_GrantServerModel_login 9 = .ok (.aload_n 0, 1) := by decide +kernel
theorem d_GrantServerModel_login_10 : decode b_GrantServerModel_login 10 = .ok (.getfield 7, 3) := by decide +kernel
theorem d_GrantServerModel_login_13 : decode b_GrantServerModel_login 13 = .ok (.iload_n 1, 1) := by decide +kernel
theorem d_GrantServerModel_login_14 : decode b_GrantServerModel_login 14 = .ok (.iaload, 1) := by decide +kernel
theorem d_GrantServerModel_login_15 : decode b_GrantServerModel_login 15 = .ok (.iload_n 2, 1) := by decide +kernel
theorem d_GrantServerModel_login_16 : decode b_GrantServerModel_login 16 = .ok (.if_icmp .ne 7, 3) := by decide +kernel
theorem d_GrantServerModel_login_19 : decode b_GrantServerModel_login 19 = .ok (.iload_n 1, 1) := by decide +kernel
theorem d_GrantServerModel_login_20 : decode b_GrantServerModel_login 20 = .ok (.goto 4, 3) := by decide +kernel
theorem d_GrantServerModel_login_23 : decode b_GrantServerModel_login 23 = .ok (.iconst (-1), 1) := by decide +kernel
theorem d_GrantServerModel_login_24 : decode b_GrantServerModel_login 24 = .ok (.putfield 19, 3) := by decide +kernel
theorem d_GrantServerModel_login_27 : decode b_GrantServerModel_login 27 = .ok (.aload_n 0, 1) := by decide +kernel
theorem d_GrantServerModel_login_28 : decode b_GrantServerModel_login 28 = .ok (.getfield 19, 3) := by decide +kernel
theorem d_GrantServerModel_login_31 : decode b_GrantServerModel_login 31 = .ok (.ifCond .lt 7, 3) := by decide +kernel
theorem d_GrantServerModel_login_34 : decode b_GrantServerModel_login 34 = .ok (.iconst 1, 1) := by decide +kernel
theorem d_GrantServerModel_login_35 : decode b_GrantServerModel_login 35 = .ok (.goto 4, 3) := by decide +kernel
theorem d_GrantServerModel_login_38 : decode b_GrantServerModel_login 38 = .ok (.iconst 0, 1) := by decide +kernel
theorem d_GrantServerModel_login_39 : decode b_GrantServerModel_login 39 = .ok (.ireturn, 1) := by decide +kernel
theorem d_GrantServerModel_isFree_0 : decode b_GrantServerModel_isFree 0 = .ok (.iload_n 1, 1) := by decide +kernel
theorem d_GrantServerModel_isFree_1 : decode b_GrantServerModel_isFree 1 = .ok (.iconst 1, 1) := by decide +kernel
theorem d_GrantServerModel_isFree_2 : decode b_GrantServerModel_isFree 2 = .ok (.if_icmp .lt 31, 3) := by decide +kernel
theorem d_GrantServerModel_isFree_5 : decode b_GrantServerModel_isFree 5 = .ok (.iload_n 1, 1) := by decide +kernel
theorem d_GrantServerModel_isFree_6 : decode b_GrantServerModel_isFree 6 = .ok (.ldc 99, 2) := by decide +kernel
theorem d_GrantServerModel_isFree_8 : decode b_GrantServerModel_isFree 8 = .ok (.if_icmp .gt 25, 3) := by decide +kernel
theorem d_GrantServerModel_isFree_11 : decode b_GrantServerModel_isFree 11 = .ok (.aload_n 0, 1) := by decide +kernel
theorem d_GrantServerModel_isFree_12 : decode b_GrantServerModel_isFree 12 = .ok (.iconst 0, 1) := by decide +kernel
theorem d_GrantServerModel_isFree_13 : decode b_GrantServerModel_isFree 13 = .ok (.iload_n 1, 1) := by decide +kernel
theorem d_GrantServerModel_isFree_14 : decode b_GrantServerModel_isFree 14 = .ok (.invokevirtual 100, 3) := by decide +kernel
theorem d_GrantServerModel_isFree_17 : decode b_GrantServerModel_isFree 17 = .ok (.ifCond .ge 16, 3) := by decide +kernel
theorem d_GrantServerModel_isFree_20 : decode b_GrantServerModel_isFree 20 = .ok (.aload_n 0, 1) := by decide +kernel
theorem d_GrantServerModel_isFree_21 : decode b_GrantServerModel_isFree 21 = .ok (.iconst 1, 1) := by decide +kernel
theorem d_GrantServerModel_isFree_22 : decode b_GrantServerModel_isFree 22 = .ok (.iload_n 1, 1) := by decide +kernel
theorem d_GrantServerModel_isFree_23 : decode b_GrantServerModel_isFree 23 = .ok (.invokevirtual 100, 3) := by decide +kernel
theorem d_GrantServerModel_isFree_26 : decode b_GrantServerModel_isFree 26 = .ok (.ifCond .ge 7, 3) := by decide +kernel
theorem d_GrantServerModel_isFree_29 : decode b_GrantServerModel_isFree 29 = .ok (.iconst 1, 1) := by decide +kernel
theorem d_GrantServerModel_isFree_30 : decode b_GrantServerModel_isFree 30 = .ok (.goto 4, 3) := by decide +kernel
theorem d_GrantServerModel_isFree_33 : decode b_GrantServerModel_isFree 33 = .ok (.iconst 0, 1) := by decide +kernel
theorem d_GrantServerModel_isFree_34 : decode b_GrantServerModel_isFree 34 = .ok (.ireturn, 1) := by decide +kernel
theorem d_GrantServerModel_key_0 : decode b_GrantServerModel_key 0 = .ok (.iload_n 1, 1) := by decide +kernel
theorem d_GrantServerModel_key_1 : decode b_GrantServerModel_key 1 = .ok (.invokestatic 178, 3) := by decide +kernel
theorem d_GrantServerModel_key_4 : decode b_GrantServerModel_key 4 = .ok (.ifCond .eq 12, 3) := by decide +kernel
theorem d_GrantServerModel_key_7 : decode b_GrantServerModel_key 7 = .ok (.aload_n 0, 1) := by decide +kernel
theorem d_GrantServerModel_key_8 : decode b_GrantServerModel_key 8 = .ok (.getfield 175, 3) := by decide +kernel
theorem d_GrantServerModel_key_11 : decode b_GrantServerModel_key 11 = .ok (.bipush 120, 2) := by decide +kernel
theorem d_GrantServerModel_key_13 : decode b_GrantServerModel_key 13 = .ok (.if_icmp .ne 5, 3) := by decide +kernel
theorem d_GrantServerModel_key_16 : decode b_GrantServerModel_key 16 = .ok (.iconst 0, 1) := by decide +kernel
theorem d_GrantServerModel_key_17 : decode b_GrantServerModel_key 17 = .ok (.ireturn, 1) := by decide +kernel
theorem d_GrantServerModel_key_18 : decode b_GrantServerModel_key 18 = .ok (.aload_n 0, 1) := by decide +kernel
theorem d_GrantServerModel_key_19 : decode b_GrantServerModel_key 19 = .ok (.getfield 57, 3) := by decide +kernel
theorem d_GrantServerModel_key_22 : decode b_GrantServerModel_key 22 = .ok (.aload_n 0, 1) := by decide +kernel
theorem d_GrantServerModel_key_23 : decode b_GrantServerModel_key 23 = .ok (.getfield 175, 3) := by decide +kernel
theorem d_GrantServerModel_key_26 : decode b_GrantServerModel_key 26 = .ok (.iload_n 1, 1) := by decide +kernel
theorem d_GrantServerModel_key_27 : decode b_GrantServerModel_key 27 = .ok (.iastore, 1) := by decide +kernel
theorem d_GrantServerModel_key_28 : decode b_GrantServerModel_key 28 = .ok (.aload_n 0, 1) := by decide +kernel
theorem d_GrantServerModel_key_29 : decode b_GrantServerModel_key 29 = .ok (.dup, 1) := by decide +kernel
theorem d_GrantServerModel_key_30 : decode b_GrantServerModel_key 30 = .ok (.getfield 175, 3) := by decide +kernel
theorem d_GrantServerModel_key_33 : decode b_GrantServerModel_key 33 = .ok (.iconst 1, 1) := by decide +kernel
theorem d_GrantServerModel_key_34 : decode b_GrantServerModel_key 34 = .ok (.iadd, 1) := by decide +kernel
theorem d_GrantServerModel_key_35 : decode b_GrantServerModel_key 35 = .ok (.putfield 175, 3) := by decide +kernel
theorem d_GrantServerModel_key_38 : decode b_GrantServerModel_key 38 = .ok (.iconst 1, 1) := by decide +kernel
theorem d_GrantServerModel_key_39 : decode b_GrantServerModel_key 39 = .ok (.ireturn, 1) := by decide +kernel
theorem d_GrantServerModel_alter_0 : decode b_GrantServerModel_alter 0 = .ok (.iload_n 1, 1) := by decide +kernel
theorem d_GrantServerModel_alter_1 : decode b_GrantServerModel_alter 1 = .ok (.ifCond .lt 18, 3) := by decide +kernel
theorem d_GrantServerModel_alter_4 : decode b_GrantServerModel_alter 4 = .ok (.iload_n 1, 1) := by decide +kernel
theorem d_GrantServerModel_alter_5 : decode b_GrantServerModel_alter 5 = .ok (.aload_n 0, 1) := by decide +kernel
theorem d_GrantServerModel_alter_6 : decode b_GrantServerModel_alter 6 = .ok (.getfield 175, 3) := by decide +kernel
theorem d_GrantServerModel_alter_9 : decode b_GrantServerModel_alter 9 = .ok (.if_icmp .ge 10, 3) := by decide +kernel
theorem d_GrantServerModel_alter_12 : decode b_GrantServerModel_alter 12 = .ok (.iload_n 2, 1) := by decide +kernel
theorem d_GrantServerModel_alter_13 : decode b_GrantServerModel_alter 13 = .ok (.invokestatic 178, 3) := by decide +kernel
theorem d_GrantServerModel_alter_16 : decode b_GrantServerModel_alter 16 = .ok (.ifCond .ne 5, 3) := by decide +kernel
theorem d_GrantServerModel_alter_19 : decode b_GrantServerModel_alter 19 = .ok (.iconst 0, 1) := by decide +kernel
theorem d_GrantServerModel_alter_20 : decode b_GrantServerModel_alter 20 = .ok (.ireturn, 1) := by decide +kernel
theorem d_GrantServerModel_alter_21 : decode b_GrantServerModel_alter 21 = .ok (.aload_n 0, 1) := by decide +kernel
theorem d_GrantServerModel_alter_22 : decode b_GrantServerModel_alter 22 = .ok (.getfield 57, 3) := by decide +kernel
theorem d_GrantServerModel_alter_25 : decode b_GrantServerModel_alter 25 = .ok (.iload_n 1, 1) := by decide +kernel
theorem d_GrantServerModel_alter_26 : decode b_GrantServerModel_alter 26 = .ok (.iload_n 2, 1) := by decide +kernel
theorem d_GrantServerModel_alter_27 : decode b_GrantServerModel_alter 27 = .ok (.iastore, 1) := by decide +kernel
theorem d_GrantServerModel_alter_28 : decode b_GrantServerModel_alter 28 = .ok (.iconst 1, 1) := by decide +kernel
theorem d_GrantServerModel_alter_29 : decode b_GrantServerModel_alter 29 = .ok (.ireturn, 1) := by decide +kernel
theorem d_GrantServerModel_take_0 : decode b_GrantServerModel_take 0 = .ok (.aload_n 0, 1) := by decide +kernel
theorem d_GrantServerModel_take_1 : decode b_GrantServerModel_take 1 = .ok (.iload_n 1, 1) := by decide +kernel
theorem d_GrantServerModel_take_2 : decode b_GrantServerModel_take 2 = .ok (.ifCond .eq 10, 3) := by decide +kernel
theorem d_GrantServerModel_take_5 : decode b_GrantServerModel_take 5 = .ok (.aload_n 0, 1) := by decide +kernel
theorem d_GrantServerModel_take_6 : decode b_GrantServerModel_take 6 = .ok (.getfield 160, 3) := by decide +kernel
theorem d_GrantServerModel_take_9 : decode b_GrantServerModel_take 9 = .ok (.goto 4, 3) := by decide +kernel
theorem d_GrantServerModel_take_12 : decode b_GrantServerModel_take 12 = .ok (.iconst 0, 1) := by decide +kernel
theorem d_GrantServerModel_take_13 : decode b_GrantServerModel_take 13 = .ok (.putfield 175, 3) := by decide +kernel
theorem d_GrantServerModel_take_16 : decode b_GrantServerModel_take 16 = .ok (.iconst 0, 1) := by decide +kernel
theorem d_GrantServerModel_take_17 : decode b_GrantServerModel_take 17 = .ok (.istore_n 2, 1) := by decide +kernel
theorem d_GrantServerModel_take_18 : decode b_GrantServerModel_take 18 = .ok (.iload_n 2, 1) := by decide +kernel
theorem d_GrantServerModel_take_19 : decode b_GrantServerModel_take 19 = .ok (.aload_n 0, 1) := by decide +kernel
theorem d_GrantServerModel_take_20 : decode b_GrantServerModel_take 20 = .ok (.getfield 175, 3) := by decide +kernel
theorem d_GrantServerModel_take_23 : decode b_GrantServerModel_take 23 = .ok (.if_icmp .ge 21, 3) := by decide +kernel
theorem d_GrantServerModel_take_26 : decode b_GrantServerModel_take 26 = .ok (.aload_n 0, 1) := by decide +kernel
theorem d_GrantServerModel_take_27 : decode b_GrantServerModel_take 27 = .ok (.getfield 57, 3) := by decide +kernel
theorem d_GrantServerModel_take_30 : decode b_GrantServerModel_take 30 = .ok (.iload_n 2, 1) := by decide +kernel
theorem d_GrantServerModel_take_31 : decode b_GrantServerModel_take 31 = .ok (.aload_n 0, 1) := by decide +kernel
theorem d_GrantServerModel_take_32 : decode b_GrantServerModel_take 32 = .ok (.getfield 60, 3) := by decide +kernel
theorem d_GrantServerModel_take_35 : decode b_GrantServerModel_take 35 = .ok (.iload_n 2, 1) := by decide +kernel
theorem d_GrantServerModel_take_36 : decode b_GrantServerModel_take 36 = .ok (.iaload, 1) := by decide +kernel
theorem d_GrantServerModel_take_37 : decode b_GrantServerModel_take 37 = .ok (.iastore, 1) := by decide +kernel
theorem d_GrantServerModel_take_38 : decode b_GrantServerModel_take 38 = .ok (.iinc 2 1, 3) := by decide +kernel
theorem d_GrantServerModel_take_41 : decode b_GrantServerModel_take 41 = .ok (.goto (-23), 3) := by decide +kernel
theorem d_GrantServerModel_take_44 : decode b_GrantServerModel_take 44 = .ok (.aload_n 0, 1) := by decide +kernel
theorem d_GrantServerModel_take_45 : decode b_GrantServerModel_take 45 = .ok (.getfield 175, 3) := by decide +kernel
theorem d_GrantServerModel_take_48 : decode b_GrantServerModel_take 48 = .ok (.ireturn, 1) := by decide +kernel
theorem d_GrantServerModel_letter_0 : decode b_GrantServerModel_letter 0 = .ok (.iload_n 2, 1) := by decide +kernel
theorem d_GrantServerModel_letter_1 : decode b_GrantServerModel_letter 1 = .ok (.ifCond .lt 22, 3) := by decide +kernel
theorem d_GrantServerModel_letter_4 : decode b_GrantServerModel_letter 4 = .ok (.iload_n 2, 1) := by decide +kernel
theorem d_GrantServerModel_letter_5 : decode b_GrantServerModel_letter 5 = .ok (.iload_n 1, 1) := by decide +kernel
theorem d_GrantServerModel_letter_6 : decode b_GrantServerModel_letter 6 = .ok (.ifCond .eq 10, 3) := by decide +kernel
theorem d_GrantServerModel_letter_9 : decode b_GrantServerModel_letter 9 = .ok (.aload_n 0, 1) := by decide +kernel
theorem d_GrantServerModel_letter_10 : decode b_GrantServerModel_letter 10 = .ok (.getfield 160, 3) := by decide +kernel
theorem d_GrantServerModel_letter_13 : decode b_GrantServerModel_letter 13 = .ok (.goto 7, 3) := by decide +kernel
theorem d_GrantServerModel_letter_16 : decode b_GrantServerModel_letter 16 = .ok (.aload_n 0, 1) := by decide +kernel
theorem d_GrantServerModel_letter_17 : decode b_GrantServerModel_letter 17 = .ok (.getfield 175, 3) := by decide +kernel
theorem d_GrantServerModel_letter_20 : decode b_GrantServerModel_letter 20 = .ok (.if_icmp .lt 5, 3) := by decide +kernel
theorem d_GrantServerModel_letter_23 : decode b_GrantServerModel_letter 23 = .ok (.iconst (-1), 1) := by decide +kernel
theorem d_GrantServerModel_letter_24 : decode b_GrantServerModel_letter 24 = .ok (.ireturn, 1) := by decide +kernel
theorem d_GrantServerModel_letter_25 : decode b_GrantServerModel_letter 25 = .ok (.iload_n 1, 1) := by decide +kernel
theorem d_GrantServerModel_letter_26 : decode b_GrantServerModel_letter 26 = .ok (.ifCond .eq 12, 3) := by decide +kernel
theorem d_GrantServerModel_letter_29 : decode b_GrantServerModel_letter 29 = .ok (.aload_n 0, 1) := by decide +kernel
theorem d_GrantServerModel_letter_30 : decode b_GrantServerModel_letter 30 = .ok (.getfield 60, 3) := by decide +kernel
theorem d_GrantServerModel_letter_33 : decode b_GrantServerModel_letter 33 = .ok (.iload_n 2, 1) := by decide +kernel
theorem d_GrantServerModel_letter_34 : decode b_GrantServerModel_letter 34 = .ok (.iaload, 1) := by decide +kernel
theorem d_GrantServerModel_letter_35 : decode b_GrantServerModel_letter 35 = .ok (.goto 9, 3) := by decide +kernel
theorem d_GrantServerModel_letter_38 : decode b_GrantServerModel_letter 38 = .ok (.aload_n 0, 1) := by decide +kernel
theorem d_GrantServerModel_letter_39 : decode b_GrantServerModel_letter 39 = .ok (.getfield 57, 3) := by decide +kernel
theorem d_GrantServerModel_letter_42 : decode b_GrantServerModel_letter 42 = .ok (.iload_n 2, 1) := by decide +kernel
theorem d_GrantServerModel_letter_43 : decode b_GrantServerModel_letter 43 = .ok (.iaload, 1) := by decide +kernel
theorem d_GrantServerModel_letter_44 : decode b_GrantServerModel_letter 44 = .ok (.ireturn, 1) := by decide +kernel
theorem d_GrantServerModel_challenge_0 : decode b_GrantServerModel_challenge 0 = .ok (.aload_n 0, 1) := by decide +kernel
theorem d_GrantServerModel_challenge_1 : decode b_GrantServerModel_challenge 1 = .ok (.getfield 175, 3) := by decide +kernel
theorem d_GrantServerModel_challenge_4 : decode b_GrantServerModel_challenge 4 = .ok (.i2l, 1) := by decide +kernel
theorem d_GrantServerModel_challenge_5 : decode b_GrantServerModel_challenge 5 = .ok (.lstore_n 1, 1) := by decide +kernel
theorem d_GrantServerModel_challenge_6 : decode b_GrantServerModel_challenge 6 = .ok (.iconst 0, 1) := by decide +kernel
theorem d_GrantServerModel_challenge_7 : decode b_GrantServerModel_challenge 7 = .ok (.istore_n 3, 1) := by decide +kernel
theorem d_GrantServerModel_challenge_8 : decode b_GrantServerModel_challenge 8 = .ok (.iload_n 3, 1) := by decide +kernel
theorem d_GrantServerModel_challenge_9 : decode b_GrantServerModel_challenge 9 = .ok (.aload_n 0, 1) := by decide +kernel
theorem d_GrantServerModel_challenge_10 : decode b_GrantServerModel_challenge 10 = .ok (.getfield 175, 3) := by decide +kernel
theorem d_GrantServerModel_challenge_13 : decode b_GrantServerModel_challenge 13 = .ok (.if_icmp .ge 27, 3) := by decide +kernel
theorem d_GrantServerModel_challenge_16 : decode b_GrantServerModel_challenge 16 = .ok (.lload_n 1, 1) := by decide +kernel
theorem d_GrantServerModel_challenge_17 : decode b_GrantServerModel_challenge 17 = .ok (.ldc2_w 181, 3) := by decide +kernel
theorem d_GrantServerModel_challenge_20 : decode b_GrantServerModel_challenge 20 = .ok (.lmul, 1) := by decide +kernel
theorem d_GrantServerModel_challenge_21 : decode b_GrantServerModel_challenge 21 = .ok (.aload_n 0, 1) := by decide +kernel
theorem d_GrantServerModel_challenge_22 : decode b_GrantServerModel_challenge 22 = .ok (.getfield 57, 3) := by decide +kernel
theorem d_GrantServerModel_challenge_25 : decode b_GrantServerModel_challenge 25 = .ok (.iload_n 3, 1) := by decide +kernel
theorem d_GrantServerModel_challenge_26 : decode b_GrantServerModel_challenge 26 = .ok (.iaload, 1) := by decide +kernel
theorem d_GrantServerModel_challenge_27 : decode b_GrantServerModel_challenge 27 = .ok (.i2l, 1) := by decide +kernel
theorem d_GrantServerModel_challenge_28 : decode b_GrantServerModel_challenge 28 = .ok (.ladd, 1) := by decide +kernel
theorem d_GrantServerModel_challenge_29 : decode b_GrantServerModel_challenge 29 = .ok (.ldc2_w 183, 3) := by decide +kernel
theorem d_GrantServerModel_challenge_32 : decode b_GrantServerModel_challenge 32 = .ok (.land, 1) := by decide +kernel
theorem d_GrantServerModel_challenge_33 : decode b_GrantServerModel_challenge 33 = .ok (.lstore_n 1, 1) := by decide +kernel
theorem d_GrantServerModel_challenge_34 : decode b_GrantServerModel_challenge 34 = .ok (.iinc 3 1, 3) := by decide +kernel
theorem d_GrantServerModel_challenge_37 : decode b_GrantServerModel_challenge 37 = .ok (.goto (-29), 3) := by decide +kernel
theorem d_GrantServerModel_challenge_40 : decode b_GrantServerModel_challenge 40 = .ok (.lload_n 1, 1) := by decide +kernel
theorem d_GrantServerModel_challenge_41 : decode b_GrantServerModel_challenge 41 = .ok (.l2i, 1) := by decide +kernel
theorem d_GrantServerModel_challenge_42 : decode b_GrantServerModel_challenge 42 = .ok (.ireturn, 1) := by decide +kernel
set_option maxRecDepth 20000 in
theorem fl_GrantServerModel_13 : hm_fl vwCl TB R_GrantServerModel 13 8 6 true (.array .int) := ⟨_, _, _, _, cl_GrantServerModel, by decide, (TBm 698 (by decide +kernel) rfl), rfl, rfl⟩
set_option maxRecDepth 20000 in
theorem fl_GrantServerModel_16 : hm_fl vwCl TB R_GrantServerModel 16 8 7 true (.array .int) := ⟨_, _, _, _, cl_GrantServerModel, by decide, (TBm 699 (by decide +kernel) rfl), rfl, rfl⟩
set_option maxRecDepth 20000 in
theorem fl_GrantServerModel_160 : hm_fl vwCl TB R_GrantServerModel 160 8 26 false .int := ⟨_, _, _, _, cl_GrantServerModel, by decide, (TBm 718 (by decide +kernel) rfl), rfl, rfl⟩
set_option maxRecDepth 20000 in
theorem fl_GrantServerModel_175 : hm_fl vwCl TB R_GrantServerModel 175 8 24 false .int := ⟨_, _, _, _, cl_GrantServerModel, by decide, (TBm 716 (by decide +kernel) rfl), rfl, rfl⟩
set_option maxRecDepth 20000 in
theorem fl_GrantServerModel_57 : hm_fl vwCl TB R_GrantServerModel 57 8 23 true (.array .int) := ⟨_, _, _, _, cl_GrantServerModel, by decide, (TBm 715 (by decide +kernel) rfl), rfl, rfl⟩
set_option maxRecDepth 20000 in
theorem fl_GrantServerModel_60 : hm_fl vwCl TB R_GrantServerModel 60 8 25 true (.array .int) := ⟨_, _, _, _, cl_GrantServerModel, by decide, (TBm 717 (by decide +kernel) rfl), rfl, rfl⟩
set_option maxRecDepth 20000 in
theorem fl_GrantServerModel_7 : hm_fl vwCl TB R_GrantServerModel 7 8 5 true (.array .int) := ⟨_, _, _, _, cl_GrantServerModel, by decide, (TBm 697 (by decide +kernel) rfl), rfl, rfl⟩
set_option maxRecDepth 20000 in
theorem me_GrantServerModel_find : hm_meV y_GrantServerModel_find b_GrantServerModel_find 4 (some .int) 2 := ⟨⟨(TBm 811 rfl rfl), (TBm 47 (by decide +kernel) rfl), by decide +kernel⟩, (TBm 810 (by decide +kernel) rfl), (TBm 19 (by decide +kernel) rfl)⟩
set_option maxRecDepth 20000 in
theorem me_GrantServerModel_isClient : hm_meV y_GrantServerModel_isClient b_GrantServerModel_isClient 2 (some .boolean) 1 := ⟨⟨(TBm 797 rfl rfl), (TBm 47 (by decide +kernel) rfl), by decide +kernel⟩, (TBm 796 (by decide +kernel) rfl), (TBm 17 (by decide +kernel) rfl)⟩
set_option maxRecDepth 20000 in
theorem me_GrantServerModel_isText : hm_meS y_GrantServerModel_isText b_GrantServerModel_isText 1 (some .boolean) 1 := ⟨⟨(TBm 913 rfl rfl), (TBm 47 (by decide +kernel) rfl), by decide +kernel⟩, (TBm 912 (by decide +kernel) rfl)⟩
set_option maxRecDepth 20000 in
theorem wc_GrantServerModel_181 : Cond.constantLong R_GrantServerModel 181 1000003 ∈ TB := TBm 834 (by decide +kernel) rfl
set_option maxRecDepth 20000 in
theorem wc_GrantServerModel_183 : Cond.constantLong R_GrantServerModel 183 1073741823 ∈ TB := TBm 835 (by decide +kernel) rfl
set_option maxRecDepth 20000 in
theorem wc_GrantServerModel_99 : Cond.constant R_GrantServerModel 99 65535 ∈ TB := TBm 807 (by decide +kernel) rfl
set_option maxRecDepth 20000 in
theorem wl_GrantServerModel_100 : Cond.methodLink R_GrantServerModel 100 y_GrantServerModel_find ∈ TB := TBm 808 (by decide +kernel) rfl
set_option maxRecDepth 20000 in
theorem wl_GrantServerModel_178 : Cond.methodLink R_GrantServerModel 178 y_GrantServerModel_isText ∈ TB := TBm 911 (by decide +kernel) rfl
set_option maxRecDepth 20000 in
theorem wl_GrantServerModel_89 : Cond.methodLink R_GrantServerModel 89 y_GrantServerModel_isClient ∈ TB := TBm 794 (by decide +kernel) rfl
set_option maxHeartbeats 4000000 in
set_option maxRecDepth 100000 in
theorem m_c_client_no (l : Launch) (D : va_G) (k : Nat → ClassId) (f : hm) (h : Nat) (ad : Nat → Nat) (sk : Int64) (v : Nat → Int32) (c : Nat → Nat → Int32) (a : Int32) (b : Int32) (d : Int32) (n : Nat) (hmo : mo k f h ad sk v c) (hn : v 8 = nI n) (hn4 : n ≤ 4) (hx9 : n = 4 ∨ z_some d = 0) : hm_Mi l D vwCl (tyL k) y_GrantServerModel_client (Cond.code y_GrantServerModel_client b_GrantServerModel_client 4 (some .int) :: TB) ({ frames := 0, cells := 0, slots := 0, locals := 0 }) [.ref h, .int a, .int b, .int d] f (fun (r : Int32) (f1 : hm) => (-1) = r ∧ f = f1) 0 0 := by
  refine hm_enter (Qc := fun sz => va_Qi _ (hm_R D vwCl (tyL k) f sz) (hm_A f sz)) (by decide) rfl (Nat.le_of_ble_eq_true rfl) ?_
  intro p e s m below meth cd ls X0 hr hlk hin hK hM hS hA hl Q hQ
  have X : CallFix p m cd b_GrantServerModel_client 4 s ([.ref h, .int a, .int b, .int d] : List Value).toArray TB R_GrantServerModel := ⟨X0.1, X0.2.1, X0.2.2.1, X0.2.2.2.1, fun w h => X0.2.2.2.2 w (List.mem_cons_of_mem _ h)⟩
  have hx := X.1; have hb := X.2.1; have hml := X.2.2.1; have hown := X.2.2.2.1; have hts := X.2.2.2.2
  have hl : lv_has ls 4 [(0, .ref h), (1, .int a), (2, .int b), (3, .int d)] := hl
  have hfr : mo_fr h ad f f := mo_fr.rf
  refine lv_aload_n hx hb d_GrantServerModel_client_0 rfl (lv_at hl 0 rfl) ?_
  refine hm_get X hK hM hmo.1 fl_GrantServerModel_86 (v := .int (v 8)) rfl d_GrantServerModel_client_1 ?_
  refine lv_iconst (v := 4) hx hb d_GrantServerModel_client_4 (by decide) ?_
  refine lv_icmp_eq (tgt := 19) hx hb d_GrantServerModel_client_5 (by decide) (fun h1 => ?_) (fun h1 => ?_)
  · refine lv_iconst (v := (-1)) hx hb d_GrantServerModel_client_19 (by decide) ?_
    exact hm_iret X hQ hr hlk hK hM hS d_GrantServerModel_client_20 ⟨rfl, rfl⟩
  · refine lv_iload_n hx hb d_GrantServerModel_client_8 rfl (lv_at hl 3 rfl) ?_
    refine lv_iconst (v := 1) hx hb d_GrantServerModel_client_9 (by decide) ?_
    refine lv_icmp_lt (tgt := 19) hx hb d_GrantServerModel_client_10 (by decide) (fun h2 => ?_) (fun h2 => ?_)
    · refine lv_iconst (v := (-1)) hx hb d_GrantServerModel_client_19 (by decide) ?_
      exact hm_iret X hQ hr hlk hK hM hS d_GrantServerModel_client_20 ⟨rfl, rfl⟩
    · refine lv_iload_n hx hb d_GrantServerModel_client_13 rfl (lv_at hl 3 rfl) ?_
      refine lv_bipush (v := 15) hx hb d_GrantServerModel_client_14 (by decide) ?_
      refine lv_icmp_le (tgt := 21) hx hb d_GrantServerModel_client_16 (by decide) (fun h3 => ?_) (fun h3 => ?_)
      · exact hx9.elim (fun z => absurd (by rw [hn, z]; rfl) h1) (fun z => absurd z (by simp [z_some, h2, Int32.not_lt.mpr h3]))
      · refine lv_iconst (v := (-1)) hx hb d_GrantServerModel_client_19 (by decide) ?_
        exact hm_iret X hQ hr hlk hK hM hS d_GrantServerModel_client_20 ⟨rfl, rfl⟩
set_option maxHeartbeats 4000000 in
set_option maxRecDepth 100000 in
theorem m_c_client (l : Launch) (D : va_G) (k : Nat → ClassId) (f : hm) (h : Nat) (ad : Nat → Nat) (sk : Int64) (v : Nat → Int32) (c : Nat → Nat → Int32) (a : Int32) (b : Int32) (d : Int32) (n : Nat) (hmo : mo k f h ad sk v c) (hn : v 8 = nI n) (hn4 : n < 4) (hz : ¬ z_some d = 0) : hm_Mi l D vwCl (tyL k) y_GrantServerModel_client (Cond.code y_GrantServerModel_client b_GrantServerModel_client 4 (some .int) :: TB) ({ frames := 0, cells := 0, slots := 0, locals := 0 }) [.ref h, .int a, .int b, .int d] f (fun (r : Int32) (f1 : hm) => nI n = r ∧ mo k f1 h ad sk (upd v 8 (nI (n + 1))) (va_up (va_up (va_up c 5 (upd (c 5) n a)) 6 (upd (c 6) n b)) 7 (upd (c 7) n d)) ∧ mo_fr h ad f f1) 0 0 := by
  refine hm_enter (Qc := fun sz => va_Qi _ (hm_R D vwCl (tyL k) f sz) (hm_A f sz)) (by decide) rfl (Nat.le_of_ble_eq_true rfl) ?_
  intro p e s m below meth cd ls X0 hr hlk hin hK hM hS hA hl Q hQ
  have X : CallFix p m cd b_GrantServerModel_client 4 s ([.ref h, .int a, .int b, .int d] : List Value).toArray TB R_GrantServerModel := ⟨X0.1, X0.2.1, X0.2.2.1, X0.2.2.2.1, fun w h => X0.2.2.2.2 w (List.mem_cons_of_mem _ h)⟩
  have hx := X.1; have hb := X.2.1; have hml := X.2.2.1; have hown := X.2.2.2.1; have hts := X.2.2.2.2
  have hl : lv_has ls 4 [(0, .ref h), (1, .int a), (2, .int b), (3, .int d)] := hl
  have hfr : mo_fr h ad f f := mo_fr.rf
  refine lv_aload_n hx hb d_GrantServerModel_client_0 rfl (lv_at hl 0 rfl) ?_
  refine hm_get X hK hM hmo.1 fl_GrantServerModel_86 (v := .int (v 8)) rfl d_GrantServerModel_client_1 ?_
  refine lv_iconst (v := 4) hx hb d_GrantServerModel_client_4 (by decide) ?_
  refine lv_icmp_eq (tgt := 19) hx hb d_GrantServerModel_client_5 (by decide) (fun h1 => ?_) (fun h1 => ?_)
  · exact absurd (hn.symm.trans h1) (fun z => absurd ((nI_eq (b := 4) (by omega) (by decide)).mp z) (by omega))
  · refine lv_iload_n hx hb d_GrantServerModel_client_8 rfl (lv_at hl 3 rfl) ?_
    refine lv_iconst (v := 1) hx hb d_GrantServerModel_client_9 (by decide) ?_
    refine lv_icmp_lt (tgt := 19) hx hb d_GrantServerModel_client_10 (by decide) (fun h2 => ?_) (fun h2 => ?_)
    · exact absurd (by simp [z_some, h2]) hz
    · refine lv_iload_n hx hb d_GrantServerModel_client_13 rfl (lv_at hl 3 rfl) ?_
      refine lv_bipush (v := 15) hx hb d_GrantServerModel_client_14 (by decide) ?_
      refine lv_icmp_le (tgt := 21) hx hb d_GrantServerModel_client_16 (by decide) (fun h3 => ?_) (fun h3 => ?_)
      · refine lv_aload_n hx hb d_GrantServerModel_client_21 rfl (lv_at hl 0 rfl) ?_
        refine hm_get X hK hM hmo.1 fl_GrantServerModel_7 (v := .ref (ad 5)) rfl d_GrantServerModel_client_22 ?_
        refine lv_aload_n hx hb d_GrantServerModel_client_25 rfl (lv_at hl 0 rfl) ?_
        refine hm_get X hK hM hmo.1 fl_GrantServerModel_86 (v := .int (v 8)) rfl d_GrantServerModel_client_26 ?_
        refine lv_iload_n hx hb d_GrantServerModel_client_29 rfl (lv_at hl 1 rfl) ?_
        have g4 : f (ad 5) = some (.inl (k 0, 4, .inl (c 5))) := hmo.arr 5 (by decide) (by decide)
        refine hm_iast X hK hM hS g4 0 rfl n hn (by omega) (by decide) d_GrantServerModel_client_30 (fun f5 H locs e6 hM hS => ?_)
        have hfr := hfr.ast 5 (by decide) (by decide) e6; have hmo : mo k f5 h ad sk v (va_up c 5 (upd (c 5) n a)) := hmo.ast 5 (by decide) (by decide) e6
        refine lv_aload_n hx hb d_GrantServerModel_client_31 rfl (lv_at hl 0 rfl) ?_
        refine hm_get X hK hM hmo.1 fl_GrantServerModel_13 (v := .ref (ad 6)) rfl d_GrantServerModel_client_32 ?_
        refine lv_aload_n hx hb d_GrantServerModel_client_35 rfl (lv_at hl 0 rfl) ?_
        refine hm_get X hK hM hmo.1 fl_GrantServerModel_86 (v := .int (v 8)) rfl d_GrantServerModel_client_36 ?_
        refine lv_iload_n hx hb d_GrantServerModel_client_39 rfl (lv_at hl 2 rfl) ?_
        have g7 : f5 (ad 6) = some (.inl (k 0, 4, .inl (c 6))) := hmo.arr 6 (by decide) (by decide)
        refine hm_iast X hK hM hS g7 0 rfl n hn (by omega) (by decide) d_GrantServerModel_client_40 (fun f8 H locs e9 hM hS => ?_)
        have hfr := hfr.ast 6 (by decide) (by decide) e9; have hmo : mo k f8 h ad sk v (va_up (va_up c 5 (upd (c 5) n a)) 6 (upd (c 6) n b)) := hmo.ast 6 (by decide) (by decide) e9
        refine lv_aload_n hx hb d_GrantServerModel_client_41 rfl (lv_at hl 0 rfl) ?_
        refine hm_get X hK hM hmo.1 fl_GrantServerModel_16 (v := .ref (ad 7)) rfl d_GrantServerModel_client_42 ?_
        refine lv_aload_n hx hb d_GrantServerModel_client_45 rfl (lv_at hl 0 rfl) ?_
        refine hm_get X hK hM hmo.1 fl_GrantServerModel_86 (v := .int (v 8)) rfl d_GrantServerModel_client_46 ?_
        refine lv_iload_n hx hb d_GrantServerModel_client_49 rfl (lv_at hl 3 rfl) ?_
        have g10 : f8 (ad 7) = some (.inl (k 0, 4, .inl (c 7))) := hmo.arr 7 (by decide) (by decide)
        refine hm_iast X hK hM hS g10 0 rfl n hn (by omega) (by decide) d_GrantServerModel_client_50 (fun f11 H locs e12 hM hS => ?_)
        have hfr := hfr.ast 7 (by decide) (by decide) e12; have hmo : mo k f11 h ad sk v (va_up (va_up (va_up c 5 (upd (c 5) n a)) 6 (upd (c 6) n b)) 7 (upd (c 7) n d)) := hmo.ast 7 (by decide) (by decide) e12
        refine lv_aload_n hx hb d_GrantServerModel_client_51 rfl (lv_at hl 0 rfl) ?_
        refine lv_dup hx hb d_GrantServerModel_client_52 rfl ?_
        refine hm_get X hK hM hmo.1 fl_GrantServerModel_86 (v := .int (v 8)) rfl d_GrantServerModel_client_53 ?_
        refine lv_iconst (v := 1) hx hb d_GrantServerModel_client_56 (by decide) ?_
        refine lv_iadd hx hb d_GrantServerModel_client_57 ?_
        refine hm_top (z := nI (n + 1)) (by rw [hn]; exact nI_1 n) ?_
        refine hm_put X hK hM hS (fs' := moV sk (upd v 8 (nI (n + 1))) ad) hmo.1 fl_GrantServerModel_86 rfl rfl (Nat.le_of_ble_eq_true rfl) rfl d_GrantServerModel_client_58 (fun f13 H locs e14 hM hS => ?_)
        have hfr := hfr.put e14; have hmo : mo k f13 h ad sk (upd v 8 (nI (n + 1))) (va_up (va_up (va_up c 5 (upd (c 5) n a)) 6 (upd (c 6) n b)) 7 (upd (c 7) n d)) := hmo.put e14
        refine lv_aload_n hx hb d_GrantServerModel_client_61 rfl (lv_at hl 0 rfl) ?_
        refine hm_get X hK hM hmo.1 fl_GrantServerModel_86 (v := .int (nI (n + 1))) rfl d_GrantServerModel_client_62 ?_
        refine lv_iconst (v := 1) hx hb d_GrantServerModel_client_65 (by decide) ?_
        refine lv_isub hx hb d_GrantServerModel_client_66 ?_
        refine hm_top (z := nI n) (nI_pred n) ?_
        exact hm_iret X hQ hr hlk hK hM hS d_GrantServerModel_client_67 ⟨rfl, hmo, hfr⟩
      · exact absurd (by simp [z_some, Int32.not_le.mp h3]) hz
set_option maxHeartbeats 4000000 in
set_option maxRecDepth 100000 in
theorem m_c_login_no (l : Launch) (D : va_G) (k : Nat → ClassId) (f : hm) (h : Nat) (ad : Nat → Nat) (sk : Int64) (v : Nat → Int32) (c : Nat → Nat → Int32) (x : Int32) (y : Int32) (hmo : mo k f h ad sk v c) (hz : m_isC (v 8) x = 0) : hm_Mi l D vwCl (tyL k) y_GrantServerModel_login (Cond.code y_GrantServerModel_login b_GrantServerModel_login 3 (some .boolean) :: TB) ({ frames := 1, cells := 0, slots := 0, locals := 21 }) [.ref h, .int x, .int y] f (fun (r : Int32) (f1 : hm) => 0 = r ∧ mo k f1 h ad sk (upd v 9 (-1)) c ∧ mo_fr h ad f f1) 0 0 := by
  refine hm_enter (Qc := fun sz => va_Qi _ (hm_R D vwCl (tyL k) f sz) (hm_A f sz)) (by decide) rfl (Nat.le_of_ble_eq_true rfl) ?_
  intro p e s m below meth cd ls X0 hr hlk hin hK hM hS hA hl Q hQ
  have X : CallFix p m cd b_GrantServerModel_login 3 s ([.ref h, .int x, .int y] : List Value).toArray TB R_GrantServerModel := ⟨X0.1, X0.2.1, X0.2.2.1, X0.2.2.2.1, fun w h => X0.2.2.2.2 w (List.mem_cons_of_mem _ h)⟩
  have hx := X.1; have hb := X.2.1; have hml := X.2.2.1; have hown := X.2.2.2.1; have hts := X.2.2.2.2
  have hl : lv_has ls 3 [(0, .ref h), (1, .int x), (2, .int y)] := hl
  have hfr : mo_fr h ad f f := mo_fr.rf
  refine lv_aload_n hx hb d_GrantServerModel_login_0 rfl (lv_at hl 0 rfl) ?_
  refine lv_aload_n hx hb d_GrantServerModel_login_1 rfl (lv_at hl 0 rfl) ?_
  refine lv_iload_n hx hb d_GrantServerModel_login_2 rfl (lv_at hl 1 rfl) ?_
  refine hm_calli hS hM hA (va_runV (As := [.int x]) (rest := [.ref h]) X (m_c_isClient l D k f h ad sk v c x hmo  s.heap.size) (hm_cwV hts me_GrantServerModel_isClient wl_GrantServerModel_89 rfl rfl ⟨Nat.le_of_ble_eq_true rfl, Nat.le_of_ble_eq_true rfl⟩) (hm_preV hM hK hmo.1 rfl) rfl rfl hl.1 rfl (lv_room (Nat.le_of_ble_eq_true rfl)) d_GrantServerModel_login_3 ⟨Nat.le_of_ble_eq_true rfl, Nat.le_of_ble_eq_true rfl⟩) (fun r3 f1 H locs p2 hM hS => ?_)
  obtain ⟨rfl, rfl⟩ := p2
  refine lv_if_eq (tgt := 23) hx hb d_GrantServerModel_login_6 (by decide) (fun h4 => ?_) (fun h4 => ?_)
  · refine lv_iconst (v := (-1)) hx hb d_GrantServerModel_login_23 (by decide) ?_
    refine hm_put X hK hM hS (fs' := moV sk (upd v 9 (-1)) ad) hmo.1 fl_GrantServerModel_19 rfl rfl (Nat.le_of_ble_eq_true rfl) rfl d_GrantServerModel_login_24 (fun f5 H locs e6 hM hS => ?_)
    have hfr := hfr.put e6; have hmo : mo k f5 h ad sk (upd v 9 (-1)) c := hmo.put e6
    refine lv_aload_n hx hb d_GrantServerModel_login_27 rfl (lv_at hl 0 rfl) ?_
    refine hm_get X hK hM hmo.1 fl_GrantServerModel_19 (v := .int (-1)) rfl d_GrantServerModel_login_28 ?_
    refine lv_if_lt (tgt := 38) hx hb d_GrantServerModel_login_31 (by decide) (fun h7 => ?_) (fun h7 => ?_)
    · refine lv_iconst (v := 0) hx hb d_GrantServerModel_login_38 (by decide) ?_
      exact hm_zret X hQ hr hlk hK hM hS rfl d_GrantServerModel_login_39 ⟨rfl, hmo, hfr⟩
    · exact absurd h7 (by decide)
  · exact absurd hz h4
set_option maxHeartbeats 4000000 in
set_option maxRecDepth 100000 in
theorem m_c_login (l : Launch) (D : va_G) (k : Nat → ClassId) (f : hm) (h : Nat) (ad : Nat → Nat) (sk : Int64) (v : Nat → Int32) (c : Nat → Nat → Int32) (j : Nat) (y : Int32) (hmo : mo k f h ad sk v c) (hz : ¬ m_isC (v 8) (nI j) = 0) (hj : j < 4) (hs : c 5 j = y) : hm_Mi l D vwCl (tyL k) y_GrantServerModel_login (Cond.code y_GrantServerModel_login b_GrantServerModel_login 3 (some .boolean) :: TB) ({ frames := 1, cells := 0, slots := 0, locals := 21 }) [.ref h, .int (nI j), .int y] f (fun (r : Int32) (f1 : hm) => 1 = r ∧ mo k f1 h ad sk (upd v 9 (nI j)) c ∧ mo_fr h ad f f1) 0 0 := by
  refine hm_enter (Qc := fun sz => va_Qi _ (hm_R D vwCl (tyL k) f sz) (hm_A f sz)) (by decide) rfl (Nat.le_of_ble_eq_true rfl) ?_
  intro p e s m below meth cd ls X0 hr hlk hin hK hM hS hA hl Q hQ
  have X : CallFix p m cd b_GrantServerModel_login 3 s ([.ref h, .int (nI j), .int y] : List Value).toArray TB R_GrantServerModel := ⟨X0.1, X0.2.1, X0.2.2.1, X0.2.2.2.1, fun w h => X0.2.2.2.2 w (List.mem_cons_of_mem _ h)⟩
  have hx := X.1; have hb := X.2.1; have hml := X.2.2.1; have hown := X.2.2.2.1; have hts := X.2.2.2.2
  have hl : lv_has ls 3 [(0, .ref h), (1, .int (nI j)), (2, .int y)] := hl
  have hfr : mo_fr h ad f f := mo_fr.rf
  refine lv_aload_n hx hb d_GrantServerModel_login_0 rfl (lv_at hl 0 rfl) ?_
  refine lv_aload_n hx hb d_GrantServerModel_login_1 rfl (lv_at hl 0 rfl) ?_
  refine lv_iload_n hx hb d_GrantServerModel_login_2 rfl (lv_at hl 1 rfl) ?_
  refine hm_calli hS hM hA (va_runV (As := [.int (nI j)]) (rest := [.ref h]) X (m_c_isClient l D k f h ad sk v c (nI j) hmo  s.heap.size) (hm_cwV hts me_GrantServerModel_isClient wl_GrantServerModel_89 rfl rfl ⟨Nat.le_of_ble_eq_true rfl, Nat.le_of_ble_eq_true rfl⟩) (hm_preV hM hK hmo.1 rfl) rfl rfl hl.1 rfl (lv_room (Nat.le_of_ble_eq_true rfl)) d_GrantServerModel_login_3 ⟨Nat.le_of_ble_eq_true rfl, Nat.le_of_ble_eq_true rfl⟩) (fun r3 f1 H locs p2 hM hS => ?_)
  obtain ⟨rfl, rfl⟩ := p2
  refine lv_if_eq (tgt := 23) hx hb d_GrantServerModel_login_6 (by decide) (fun h4 => ?_) (fun h4 => ?_)
  · exact absurd h4 hz
  · refine lv_aload_n hx hb d_GrantServerModel_login_9 rfl (lv_at hl 0 rfl) ?_
    refine hm_get X hK hM hmo.1 fl_GrantServerModel_7 (v := .ref (ad 5)) rfl d_GrantServerModel_login_10 ?_
    refine lv_iload_n hx hb d_GrantServerModel_login_13 rfl (lv_at hl 1 rfl) ?_
    have g5 : f (ad 5) = some (.inl (k 0, 4, .inl (c 5))) := hmo.arr 5 (by decide) (by decide)
    refine hm_iald X hK hM g5 0 rfl j rfl (by omega) (by decide) d_GrantServerModel_login_14 ?_
    refine lv_iload_n hx hb d_GrantServerModel_login_15 rfl (lv_at hl 2 rfl) ?_
    refine lv_icmp_ne (tgt := 23) hx hb d_GrantServerModel_login_16 (by decide) (fun h6 => ?_) (fun h6 => ?_)
    · exact absurd hs h6
    · refine lv_iload_n hx hb d_GrantServerModel_login_19 rfl (lv_at hl 1 rfl) ?_
      refine lv_goto (tgt := 24) hx hb d_GrantServerModel_login_20 (by decide) ?_
      refine hm_put X hK hM hS (fs' := moV sk (upd v 9 (nI j)) ad) hmo.1 fl_GrantServerModel_19 rfl rfl (Nat.le_of_ble_eq_true rfl) rfl d_GrantServerModel_login_24 (fun f7 H locs e8 hM hS => ?_)
      have hfr := hfr.put e8; have hmo : mo k f7 h ad sk (upd v 9 (nI j)) c := hmo.put e8
      refine lv_aload_n hx hb d_GrantServerModel_login_27 rfl (lv_at hl 0 rfl) ?_
      refine hm_get X hK hM hmo.1 fl_GrantServerModel_19 (v := .int (nI j)) rfl d_GrantServerModel_login_28 ?_
      refine lv_if_lt (tgt := 38) hx hb d_GrantServerModel_login_31 (by decide) (fun h9 => ?_) (fun h9 => ?_)
      · exact absurd h9 (nI_pos (by omega))
      · refine lv_iconst (v := 1) hx hb d_GrantServerModel_login_34 (by decide) ?_
        refine lv_goto (tgt := 39) hx hb d_GrantServerModel_login_35 (by decide) ?_
        exact hm_zret X hQ hr hlk hK hM hS rfl d_GrantServerModel_login_39 ⟨rfl, hmo, hfr⟩
set_option maxHeartbeats 4000000 in
set_option maxRecDepth 100000 in
theorem m_c_login_bad (l : Launch) (D : va_G) (k : Nat → ClassId) (f : hm) (h : Nat) (ad : Nat → Nat) (sk : Int64) (v : Nat → Int32) (c : Nat → Nat → Int32) (j : Nat) (y : Int32) (hmo : mo k f h ad sk v c) (hz : ¬ m_isC (v 8) (nI j) = 0) (hj : j < 4) (hs : ¬ c 5 j = y) : hm_Mi l D vwCl (tyL k) y_GrantServerModel_login (Cond.code y_GrantServerModel_login b_GrantServerModel_login 3 (some .boolean) :: TB) ({ frames := 1, cells := 0, slots := 0, locals := 21 }) [.ref h, .int (nI j), .int y] f (fun (r : Int32) (f1 : hm) => 0 = r ∧ mo k f1 h ad sk (upd v 9 (-1)) c ∧ mo_fr h ad f f1) 0 0 := by
  refine hm_enter (Qc := fun sz => va_Qi _ (hm_R D vwCl (tyL k) f sz) (hm_A f sz)) (by decide) rfl (Nat.le_of_ble_eq_true rfl) ?_
  intro p e s m below meth cd ls X0 hr hlk hin hK hM hS hA hl Q hQ
  have X : CallFix p m cd b_GrantServerModel_login 3 s ([.ref h, .int (nI j), .int y] : List Value).toArray TB R_GrantServerModel := ⟨X0.1, X0.2.1, X0.2.2.1, X0.2.2.2.1, fun w h => X0.2.2.2.2 w (List.mem_cons_of_mem _ h)⟩
  have hx := X.1; have hb := X.2.1; have hml := X.2.2.1; have hown := X.2.2.2.1; have hts := X.2.2.2.2
  have hl : lv_has ls 3 [(0, .ref h), (1, .int (nI j)), (2, .int y)] := hl
  have hfr : mo_fr h ad f f := mo_fr.rf
  refine lv_aload_n hx hb d_GrantServerModel_login_0 rfl (lv_at hl 0 rfl) ?_
  refine lv_aload_n hx hb d_GrantServerModel_login_1 rfl (lv_at hl 0 rfl) ?_
  refine lv_iload_n hx hb d_GrantServerModel_login_2 rfl (lv_at hl 1 rfl) ?_
  refine hm_calli hS hM hA (va_runV (As := [.int (nI j)]) (rest := [.ref h]) X (m_c_isClient l D k f h ad sk v c (nI j) hmo  s.heap.size) (hm_cwV hts me_GrantServerModel_isClient wl_GrantServerModel_89 rfl rfl ⟨Nat.le_of_ble_eq_true rfl, Nat.le_of_ble_eq_true rfl⟩) (hm_preV hM hK hmo.1 rfl) rfl rfl hl.1 rfl (lv_room (Nat.le_of_ble_eq_true rfl)) d_GrantServerModel_login_3 ⟨Nat.le_of_ble_eq_true rfl, Nat.le_of_ble_eq_true rfl⟩) (fun r3 f1 H locs p2 hM hS => ?_)
  obtain ⟨rfl, rfl⟩ := p2
  refine lv_if_eq (tgt := 23) hx hb d_GrantServerModel_login_6 (by decide) (fun h4 => ?_) (fun h4 => ?_)
  · exact absurd h4 hz
  · refine lv_aload_n hx hb d_GrantServerModel_login_9 rfl (lv_at hl 0 rfl) ?_
    refine hm_get X hK hM hmo.1 fl_GrantServerModel_7 (v := .ref (ad 5)) rfl d_GrantServerModel_login_10 ?_
    refine lv_iload_n hx hb d_GrantServerModel_login_13 rfl (lv_at hl 1 rfl) ?_
    have g5 : f (ad 5) = some (.inl (k 0, 4, .inl (c 5))) := hmo.arr 5 (by decide) (by decide)
    refine hm_iald X hK hM g5 0 rfl j rfl (by omega) (by decide) d_GrantServerModel_login_14 ?_
    refine lv_iload_n hx hb d_GrantServerModel_login_15 rfl (lv_at hl 2 rfl) ?_
    refine lv_icmp_ne (tgt := 23) hx hb d_GrantServerModel_login_16 (by decide) (fun h6 => ?_) (fun h6 => ?_)
    · refine lv_iconst (v := (-1)) hx hb d_GrantServerModel_login_23 (by decide) ?_
      refine hm_put X hK hM hS (fs' := moV sk (upd v 9 (-1)) ad) hmo.1 fl_GrantServerModel_19 rfl rfl (Nat.le_of_ble_eq_true rfl) rfl d_GrantServerModel_login_24 (fun f7 H locs e8 hM hS => ?_)
      have hfr := hfr.put e8; have hmo : mo k f7 h ad sk (upd v 9 (-1)) c := hmo.put e8
      refine lv_aload_n hx hb d_GrantServerModel_login_27 rfl (lv_at hl 0 rfl) ?_
      refine hm_get X hK hM hmo.1 fl_GrantServerModel_19 (v := .int (-1)) rfl d_GrantServerModel_login_28 ?_
      refine lv_if_lt (tgt := 38) hx hb d_GrantServerModel_login_31 (by decide) (fun h9 => ?_) (fun h9 => ?_)
      · refine lv_iconst (v := 0) hx hb d_GrantServerModel_login_38 (by decide) ?_
        exact hm_zret X hQ hr hlk hK hM hS rfl d_GrantServerModel_login_39 ⟨rfl, hmo, hfr⟩
      · exact absurd h9 (by decide)
    · exact absurd h6 hs
set_option maxHeartbeats 4000000 in
set_option maxRecDepth 100000 in
theorem m_c_isFree (l : Launch) (D : va_G) (k : Nat → ClassId) (f : hm) (h : Nat) (ad : Nat → Nat) (sk : Int64) (v : Nat → Int32) (c : Nat → Nat → Int32) (x : Int32) (hmo : mo k f h ad sk v c) : hm_Mi l D vwCl (tyL k) y_GrantServerModel_isFree (Cond.code y_GrantServerModel_isFree b_GrantServerModel_isFree 2 (some .boolean) :: TB) ({ frames := 2, cells := 0, slots := 0, locals := 43 }) [.ref h, .int x] f (fun (r : Int32) (f1 : hm) => m_free (c 10) x = r ∧ f = f1) 0 0 := by
  refine hm_enter (Qc := fun sz => va_Qi _ (hm_R D vwCl (tyL k) f sz) (hm_A f sz)) (by decide) rfl (Nat.le_of_ble_eq_true rfl) ?_
  intro p e s m below meth cd ls X0 hr hlk hin hK hM hS hA hl Q hQ
  have X : CallFix p m cd b_GrantServerModel_isFree 2 s ([.ref h, .int x] : List Value).toArray TB R_GrantServerModel := ⟨X0.1, X0.2.1, X0.2.2.1, X0.2.2.2.1, fun w h => X0.2.2.2.2 w (List.mem_cons_of_mem _ h)⟩
  have hx := X.1; have hb := X.2.1; have hml := X.2.2.1; have hown := X.2.2.2.1; have hts := X.2.2.2.2
  have hl : lv_has ls 2 [(0, .ref h), (1, .int x)] := hl
  have hfr : mo_fr h ad f f := mo_fr.rf
  refine lv_iload_n hx hb d_GrantServerModel_isFree_0 rfl (lv_at hl 1 rfl) ?_
  refine lv_iconst (v := 1) hx hb d_GrantServerModel_isFree_1 (by decide) ?_
  refine lv_icmp_lt (tgt := 33) hx hb d_GrantServerModel_isFree_2 (by decide) (fun h1 => ?_) (fun h1 => ?_)
  · refine lv_iconst (v := 0) hx hb d_GrantServerModel_isFree_33 (by decide) ?_
    exact hm_zret X hQ hr hlk hK hM hS rfl d_GrantServerModel_isFree_34 ⟨(by simp [m_free, h1, Int32.not_le.mpr h1]), rfl⟩
  · refine lv_iload_n hx hb d_GrantServerModel_isFree_5 rfl (lv_at hl 1 rfl) ?_
    refine lv_ldc (v := 65535) hx hb hown (hts _ wc_GrantServerModel_99) d_GrantServerModel_isFree_6 ?_
    refine lv_icmp_gt (tgt := 33) hx hb d_GrantServerModel_isFree_8 (by decide) (fun h2 => ?_) (fun h2 => ?_)
    · refine lv_iconst (v := 0) hx hb d_GrantServerModel_isFree_33 (by decide) ?_
      exact hm_zret X hQ hr hlk hK hM hS rfl d_GrantServerModel_isFree_34 ⟨(by simp [m_free, h1, Int32.not_lt.mp h1, h2, Int32.not_le.mpr h2]), rfl⟩
    · refine lv_aload_n hx hb d_GrantServerModel_isFree_11 rfl (lv_at hl 0 rfl) ?_
      refine lv_iconst (v := 0) hx hb d_GrantServerModel_isFree_12 (by decide) ?_
      refine lv_iload_n hx hb d_GrantServerModel_isFree_13 rfl (lv_at hl 1 rfl) ?_
      refine hm_calli hS hM hA (va_runV (As := [.int 0, .int x]) (rest := []) X (m_c_find l D k f h ad sk v c 0 x hmo  s.heap.size) (hm_cwV hts me_GrantServerModel_find wl_GrantServerModel_100 rfl rfl ⟨Nat.le_of_ble_eq_true rfl, Nat.le_of_ble_eq_true rfl⟩) (hm_preV hM hK hmo.1 rfl) rfl rfl hl.1 rfl (lv_room (Nat.le_of_ble_eq_true rfl)) d_GrantServerModel_isFree_14 ⟨Nat.le_of_ble_eq_true rfl, Nat.le_of_ble_eq_true rfl⟩) (fun r5 f3 H locs p4 hM hS => ?_)
      obtain ⟨rfl, rfl⟩ := p4
      refine hm_top (z := m_findF (c 10) x 16 0) (by simp [m_toN, m_fromN]) ?_
      refine lv_if_ge (tgt := 33) hx hb d_GrantServerModel_isFree_17 (by decide) (fun h6 => ?_) (fun h6 => ?_)
      · refine lv_iconst (v := 0) hx hb d_GrantServerModel_isFree_33 (by decide) ?_
        exact hm_zret X hQ hr hlk hK hM hS rfl d_GrantServerModel_isFree_34 ⟨(by simp [m_free, h1, Int32.not_lt.mp h1, h2, Int32.not_lt.mp h2, h6, Int32.not_lt.mpr h6]), rfl⟩
      · refine lv_aload_n hx hb d_GrantServerModel_isFree_20 rfl (lv_at hl 0 rfl) ?_
        refine lv_iconst (v := 1) hx hb d_GrantServerModel_isFree_21 (by decide) ?_
        refine lv_iload_n hx hb d_GrantServerModel_isFree_22 rfl (lv_at hl 1 rfl) ?_
        refine hm_calli hS hM hA (va_runV (As := [.int 1, .int x]) (rest := []) X (m_c_find l D k f h ad sk v c 1 x hmo  H.size) (hm_cwV hts me_GrantServerModel_find wl_GrantServerModel_100 rfl rfl ⟨Nat.le_of_ble_eq_true rfl, Nat.le_of_ble_eq_true rfl⟩) (hm_preV hM hK hmo.1 rfl) rfl rfl hl.1 rfl (lv_room (Nat.le_of_ble_eq_true rfl)) d_GrantServerModel_isFree_23 ⟨Nat.le_of_ble_eq_true rfl, Nat.le_of_ble_eq_true rfl⟩) (fun r9 f7 H locs p8 hM hS => ?_)
        obtain ⟨rfl, rfl⟩ := p8
        refine hm_top (z := m_findF (c 10) x 24 16) (by simp [m_toN, m_fromN]) ?_
        refine lv_if_ge (tgt := 33) hx hb d_GrantServerModel_isFree_26 (by decide) (fun h10 => ?_) (fun h10 => ?_)
        · refine lv_iconst (v := 0) hx hb d_GrantServerModel_isFree_33 (by decide) ?_
          exact hm_zret X hQ hr hlk hK hM hS rfl d_GrantServerModel_isFree_34 ⟨(by simp [m_free, h1, Int32.not_lt.mp h1, h2, Int32.not_lt.mp h2, h6, Int32.not_le.mp h6, h10, Int32.not_lt.mpr h10]), rfl⟩
        · refine lv_iconst (v := 1) hx hb d_GrantServerModel_isFree_29 (by decide) ?_
          refine lv_goto (tgt := 34) hx hb d_GrantServerModel_isFree_30 (by decide) ?_
          exact hm_zret X hQ hr hlk hK hM hS rfl d_GrantServerModel_isFree_34 ⟨(by simp [m_free, h1, Int32.not_lt.mp h1, h2, Int32.not_lt.mp h2, h6, Int32.not_le.mp h6, h10, Int32.not_le.mp h10]), rfl⟩
set_option maxHeartbeats 4000000 in
set_option maxRecDepth 100000 in
theorem m_c_key_no (l : Launch) (D : va_G) (k : Nat → ClassId) (f : hm) (h : Nat) (ad : Nat → Nat) (sk : Int64) (v : Nat → Int32) (c : Nat → Nat → Int32) (y : Int32) (n : Nat) (hmo : mo k f h ad sk v c) (hn : v 24 = nI n) (hn9 : n ≤ 120) (hz : z_text y = 0 ∨ ¬ n < 120) : hm_Mi l D vwCl (tyL k) y_GrantServerModel_key (Cond.code y_GrantServerModel_key b_GrantServerModel_key 2 (some .boolean) :: TB) ({ frames := 1, cells := 0, slots := 0, locals := 20 }) [.ref h, .int y] f (fun (r : Int32) (f1 : hm) => 0 = r ∧ f = f1) 0 0 := by
  refine hm_enter (Qc := fun sz => va_Qi _ (hm_R D vwCl (tyL k) f sz) (hm_A f sz)) (by decide) rfl (Nat.le_of_ble_eq_true rfl) ?_
  intro p e s m below meth cd ls X0 hr hlk hin hK hM hS hA hl Q hQ
  have X : CallFix p m cd b_GrantServerModel_key 2 s ([.ref h, .int y] : List Value).toArray TB R_GrantServerModel := ⟨X0.1, X0.2.1, X0.2.2.1, X0.2.2.2.1, fun w h => X0.2.2.2.2 w (List.mem_cons_of_mem _ h)⟩
  have hx := X.1; have hb := X.2.1; have hml := X.2.2.1; have hown := X.2.2.2.1; have hts := X.2.2.2.2
  have hl : lv_has ls 2 [(0, .ref h), (1, .int y)] := hl
  have hfr : mo_fr h ad f f := mo_fr.rf
  refine lv_iload_n hx hb d_GrantServerModel_key_0 rfl (lv_at hl 1 rfl) ?_
  refine hm_calli hS hM hA (va_runS (As := [.int y]) (rest := []) X (m_c_isText l D k f y  s.heap.size) (hm_cwS hts me_GrantServerModel_isText wl_GrantServerModel_178 rfl rfl ⟨Nat.le_of_ble_eq_true rfl, Nat.le_of_ble_eq_true rfl⟩) (hm_preS hM hK) rfl rfl hl.1 rfl (lv_room (Nat.le_of_ble_eq_true rfl)) d_GrantServerModel_key_1 ⟨Nat.le_of_ble_eq_true rfl, Nat.le_of_ble_eq_true rfl⟩) (fun r3 f1 H locs p2 hM hS => ?_)
  obtain ⟨rfl, rfl⟩ := p2
  refine lv_if_eq (tgt := 16) hx hb d_GrantServerModel_key_4 (by decide) (fun h4 => ?_) (fun h4 => ?_)
  · refine lv_iconst (v := 0) hx hb d_GrantServerModel_key_16 (by decide) ?_
    exact hm_zret X hQ hr hlk hK hM hS rfl d_GrantServerModel_key_17 ⟨rfl, rfl⟩
  · refine lv_aload_n hx hb d_GrantServerModel_key_7 rfl (lv_at hl 0 rfl) ?_
    refine hm_get X hK hM hmo.1 fl_GrantServerModel_175 (v := .int (v 24)) rfl d_GrantServerModel_key_8 ?_
    refine lv_bipush (v := 120) hx hb d_GrantServerModel_key_11 (by decide) ?_
    refine lv_icmp_ne (tgt := 18) hx hb d_GrantServerModel_key_13 (by decide) (fun h5 => ?_) (fun h5 => ?_)
    · exact hz.elim (fun z => absurd z h4) (fun z => absurd (by rw [hn, show n = 120 by omega]; rfl) h5)
    · refine lv_iconst (v := 0) hx hb d_GrantServerModel_key_16 (by decide) ?_
      exact hm_zret X hQ hr hlk hK hM hS rfl d_GrantServerModel_key_17 ⟨rfl, rfl⟩
set_option maxHeartbeats 4000000 in
set_option maxRecDepth 100000 in
theorem m_c_key (l : Launch) (D : va_G) (k : Nat → ClassId) (f : hm) (h : Nat) (ad : Nat → Nat) (sk : Int64) (v : Nat → Int32) (c : Nat → Nat → Int32) (y : Int32) (n : Nat) (hmo : mo k f h ad sk v c) (hn : v 24 = nI n) (hn9 : n < 120) (hz : ¬ z_text y = 0) : hm_Mi l D vwCl (tyL k) y_GrantServerModel_key (Cond.code y_GrantServerModel_key b_GrantServerModel_key 2 (some .boolean) :: TB) ({ frames := 1, cells := 0, slots := 0, locals := 20 }) [.ref h, .int y] f (fun (r : Int32) (f1 : hm) => 1 = r ∧ mo k f1 h ad sk (upd v 24 (nI (n + 1))) (va_up c 23 (upd (c 23) n y)) ∧ mo_fr h ad f f1) 0 0 := by
  refine hm_enter (Qc := fun sz => va_Qi _ (hm_R D vwCl (tyL k) f sz) (hm_A f sz)) (by decide) rfl (Nat.le_of_ble_eq_true rfl) ?_
  intro p e s m below meth cd ls X0 hr hlk hin hK hM hS hA hl Q hQ
  have X : CallFix p m cd b_GrantServerModel_key 2 s ([.ref h, .int y] : List Value).toArray TB R_GrantServerModel := ⟨X0.1, X0.2.1, X0.2.2.1, X0.2.2.2.1, fun w h => X0.2.2.2.2 w (List.mem_cons_of_mem _ h)⟩
  have hx := X.1; have hb := X.2.1; have hml := X.2.2.1; have hown := X.2.2.2.1; have hts := X.2.2.2.2
  have hl : lv_has ls 2 [(0, .ref h), (1, .int y)] := hl
  have hfr : mo_fr h ad f f := mo_fr.rf
  refine lv_iload_n hx hb d_GrantServerModel_key_0 rfl (lv_at hl 1 rfl) ?_
  refine hm_calli hS hM hA (va_runS (As := [.int y]) (rest := []) X (m_c_isText l D k f y  s.heap.size) (hm_cwS hts me_GrantServerModel_isText wl_GrantServerModel_178 rfl rfl ⟨Nat.le_of_ble_eq_true rfl, Nat.le_of_ble_eq_true rfl⟩) (hm_preS hM hK) rfl rfl hl.1 rfl (lv_room (Nat.le_of_ble_eq_true rfl)) d_GrantServerModel_key_1 ⟨Nat.le_of_ble_eq_true rfl, Nat.le_of_ble_eq_true rfl⟩) (fun r3 f1 H locs p2 hM hS => ?_)
  obtain ⟨rfl, rfl⟩ := p2
  refine lv_if_eq (tgt := 16) hx hb d_GrantServerModel_key_4 (by decide) (fun h4 => ?_) (fun h4 => ?_)
  · exact absurd h4 hz
  · refine lv_aload_n hx hb d_GrantServerModel_key_7 rfl (lv_at hl 0 rfl) ?_
    refine hm_get X hK hM hmo.1 fl_GrantServerModel_175 (v := .int (v 24)) rfl d_GrantServerModel_key_8 ?_
    refine lv_bipush (v := 120) hx hb d_GrantServerModel_key_11 (by decide) ?_
    refine lv_icmp_ne (tgt := 18) hx hb d_GrantServerModel_key_13 (by decide) (fun h5 => ?_) (fun h5 => ?_)
    · refine lv_aload_n hx hb d_GrantServerModel_key_18 rfl (lv_at hl 0 rfl) ?_
      refine hm_get X hK hM hmo.1 fl_GrantServerModel_57 (v := .ref (ad 23)) rfl d_GrantServerModel_key_19 ?_
      refine lv_aload_n hx hb d_GrantServerModel_key_22 rfl (lv_at hl 0 rfl) ?_
      refine hm_get X hK hM hmo.1 fl_GrantServerModel_175 (v := .int (v 24)) rfl d_GrantServerModel_key_23 ?_
      refine lv_iload_n hx hb d_GrantServerModel_key_26 rfl (lv_at hl 1 rfl) ?_
      have g6 : f (ad 23) = some (.inl (k 0, 120, .inl (c 23))) := hmo.arr 23 (by decide) (by decide)
      refine hm_iast X hK hM hS g6 0 rfl n hn (by omega) (by decide) d_GrantServerModel_key_27 (fun f7 H locs e8 hM hS => ?_)
      have hfr := hfr.ast 23 (by decide) (by decide) e8; have hmo : mo k f7 h ad sk v (va_up c 23 (upd (c 23) n y)) := hmo.ast 23 (by decide) (by decide) e8
      refine lv_aload_n hx hb d_GrantServerModel_key_28 rfl (lv_at hl 0 rfl) ?_
      refine lv_dup hx hb d_GrantServerModel_key_29 rfl ?_
      refine hm_get X hK hM hmo.1 fl_GrantServerModel_175 (v := .int (v 24)) rfl d_GrantServerModel_key_30 ?_
      refine lv_iconst (v := 1) hx hb d_GrantServerModel_key_33 (by decide) ?_
      refine lv_iadd hx hb d_GrantServerModel_key_34 ?_
      refine hm_top (z := nI (n + 1)) (by rw [hn]; exact nI_1 n) ?_
      refine hm_put X hK hM hS (fs' := moV sk (upd v 24 (nI (n + 1))) ad) hmo.1 fl_GrantServerModel_175 rfl rfl (Nat.le_of_ble_eq_true rfl) rfl d_GrantServerModel_key_35 (fun f9 H locs e10 hM hS => ?_)
      have hfr := hfr.put e10; have hmo : mo k f9 h ad sk (upd v 24 (nI (n + 1))) (va_up c 23 (upd (c 23) n y)) := hmo.put e10
      refine lv_iconst (v := 1) hx hb d_GrantServerModel_key_38 (by decide) ?_
      exact hm_zret X hQ hr hlk hK hM hS rfl d_GrantServerModel_key_39 ⟨rfl, hmo, hfr⟩
    · exact absurd (hn.symm.trans h5) (fun z => absurd ((nI_eq (b := 120) (by omega) (by decide)).mp z) (by omega))
set_option maxHeartbeats 4000000 in
set_option maxRecDepth 100000 in
theorem m_c_alter_no (l : Launch) (D : va_G) (k : Nat → ClassId) (f : hm) (h : Nat) (ad : Nat → Nat) (sk : Int64) (v : Nat → Int32) (c : Nat → Nat → Int32) (x : Int32) (y : Int32) (n : Nat) (hmo : mo k f h ad sk v c) (hn : v 24 = nI n) (hz : z_text y = 0 ∨ x < 0 ∨ nI n ≤ x) : hm_Mi l D vwCl (tyL k) y_GrantServerModel_alter (Cond.code y_GrantServerModel_alter b_GrantServerModel_alter 3 (some .boolean) :: TB) ({ frames := 1, cells := 0, slots := 0, locals := 20 }) [.ref h, .int x, .int y] f (fun (r : Int32) (f1 : hm) => 0 = r ∧ f = f1) 0 0 := by
  refine hm_enter (Qc := fun sz => va_Qi _ (hm_R D vwCl (tyL k) f sz) (hm_A f sz)) (by decide) rfl (Nat.le_of_ble_eq_true rfl) ?_
  intro p e s m below meth cd ls X0 hr hlk hin hK hM hS hA hl Q hQ
  have X : CallFix p m cd b_GrantServerModel_alter 3 s ([.ref h, .int x, .int y] : List Value).toArray TB R_GrantServerModel := ⟨X0.1, X0.2.1, X0.2.2.1, X0.2.2.2.1, fun w h => X0.2.2.2.2 w (List.mem_cons_of_mem _ h)⟩
  have hx := X.1; have hb := X.2.1; have hml := X.2.2.1; have hown := X.2.2.2.1; have hts := X.2.2.2.2
  have hl : lv_has ls 3 [(0, .ref h), (1, .int x), (2, .int y)] := hl
  have hfr : mo_fr h ad f f := mo_fr.rf
  refine lv_iload_n hx hb d_GrantServerModel_alter_0 rfl (lv_at hl 1 rfl) ?_
  refine lv_if_lt (tgt := 19) hx hb d_GrantServerModel_alter_1 (by decide) (fun h1 => ?_) (fun h1 => ?_)
  · refine lv_iconst (v := 0) hx hb d_GrantServerModel_alter_19 (by decide) ?_
    exact hm_zret X hQ hr hlk hK hM hS rfl d_GrantServerModel_alter_20 ⟨rfl, rfl⟩
  · refine lv_iload_n hx hb d_GrantServerModel_alter_4 rfl (lv_at hl 1 rfl) ?_
    refine lv_aload_n hx hb d_GrantServerModel_alter_5 rfl (lv_at hl 0 rfl) ?_
    refine hm_get X hK hM hmo.1 fl_GrantServerModel_175 (v := .int (v 24)) rfl d_GrantServerModel_alter_6 ?_
    refine lv_icmp_ge (tgt := 19) hx hb d_GrantServerModel_alter_9 (by decide) (fun h2 => ?_) (fun h2 => ?_)
    · refine lv_iconst (v := 0) hx hb d_GrantServerModel_alter_19 (by decide) ?_
      exact hm_zret X hQ hr hlk hK hM hS rfl d_GrantServerModel_alter_20 ⟨rfl, rfl⟩
    · refine lv_iload_n hx hb d_GrantServerModel_alter_12 rfl (lv_at hl 2 rfl) ?_
      refine hm_calli hS hM hA (va_runS (As := [.int y]) (rest := []) X (m_c_isText l D k f y  s.heap.size) (hm_cwS hts me_GrantServerModel_isText wl_GrantServerModel_178 rfl rfl ⟨Nat.le_of_ble_eq_true rfl, Nat.le_of_ble_eq_true rfl⟩) (hm_preS hM hK) rfl rfl hl.1 rfl (lv_room (Nat.le_of_ble_eq_true rfl)) d_GrantServerModel_alter_13 ⟨Nat.le_of_ble_eq_true rfl, Nat.le_of_ble_eq_true rfl⟩) (fun r5 f3 H locs p4 hM hS => ?_)
      obtain ⟨rfl, rfl⟩ := p4
      refine lv_if_ne (tgt := 21) hx hb d_GrantServerModel_alter_16 (by decide) (fun h6 => ?_) (fun h6 => ?_)
      · exact absurd hz (by simp [h6, h1, hn ▸ h2])
      · refine lv_iconst (v := 0) hx hb d_GrantServerModel_alter_19 (by decide) ?_
        exact hm_zret X hQ hr hlk hK hM hS rfl d_GrantServerModel_alter_20 ⟨rfl, rfl⟩
set_option maxHeartbeats 4000000 in
set_option maxRecDepth 100000 in
theorem m_c_alter (l : Launch) (D : va_G) (k : Nat → ClassId) (f : hm) (h : Nat) (ad : Nat → Nat) (sk : Int64) (v : Nat → Int32) (c : Nat → Nat → Int32) (j : Nat) (y : Int32) (n : Nat) (hmo : mo k f h ad sk v c) (hn : v 24 = nI n) (hn9 : n ≤ 120) (hj : j < n) (hz : ¬ z_text y = 0) : hm_Mi l D vwCl (tyL k) y_GrantServerModel_alter (Cond.code y_GrantServerModel_alter b_GrantServerModel_alter 3 (some .boolean) :: TB) ({ frames := 1, cells := 0, slots := 0, locals := 20 }) [.ref h, .int (nI j), .int y] f (fun (r : Int32) (f1 : hm) => 1 = r ∧ mo k f1 h ad sk v (va_up c 23 (upd (c 23) j y)) ∧ mo_fr h ad f f1) 0 0 := by
  refine hm_enter (Qc := fun sz => va_Qi _ (hm_R D vwCl (tyL k) f sz) (hm_A f sz)) (by decide) rfl (Nat.le_of_ble_eq_true rfl) ?_
  intro p e s m below meth cd ls X0 hr hlk hin hK hM hS hA hl Q hQ
  have X : CallFix p m cd b_GrantServerModel_alter 3 s ([.ref h, .int (nI j), .int y] : List Value).toArray TB R_GrantServerModel := ⟨X0.1, X0.2.1, X0.2.2.1, X0.2.2.2.1, fun w h => X0.2.2.2.2 w (List.mem_cons_of_mem _ h)⟩
  have hx := X.1; have hb := X.2.1; have hml := X.2.2.1; have hown := X.2.2.2.1; have hts := X.2.2.2.2
  have hl : lv_has ls 3 [(0, .ref h), (1, .int (nI j)), (2, .int y)] := hl
  have hfr : mo_fr h ad f f := mo_fr.rf
  refine lv_iload_n hx hb d_GrantServerModel_alter_0 rfl (lv_at hl 1 rfl) ?_
  refine lv_if_lt (tgt := 19) hx hb d_GrantServerModel_alter_1 (by decide) (fun h1 => ?_) (fun h1 => ?_)
  · exact absurd h1 (nI_pos (by omega))
  · refine lv_iload_n hx hb d_GrantServerModel_alter_4 rfl (lv_at hl 1 rfl) ?_
    refine lv_aload_n hx hb d_GrantServerModel_alter_5 rfl (lv_at hl 0 rfl) ?_
    refine hm_get X hK hM hmo.1 fl_GrantServerModel_175 (v := .int (v 24)) rfl d_GrantServerModel_alter_6 ?_
    refine lv_icmp_ge (tgt := 19) hx hb d_GrantServerModel_alter_9 (by decide) (fun h2 => ?_) (fun h2 => ?_)
    · exact absurd (hn ▸ h2) (nI_ge hj (by omega))
    · refine lv_iload_n hx hb d_GrantServerModel_alter_12 rfl (lv_at hl 2 rfl) ?_
      refine hm_calli hS hM hA (va_runS (As := [.int y]) (rest := []) X (m_c_isText l D k f y  s.heap.size) (hm_cwS hts me_GrantServerModel_isText wl_GrantServerModel_178 rfl rfl ⟨Nat.le_of_ble_eq_true rfl, Nat.le_of_ble_eq_true rfl⟩) (hm_preS hM hK) rfl rfl hl.1 rfl (lv_room (Nat.le_of_ble_eq_true rfl)) d_GrantServerModel_alter_13 ⟨Nat.le_of_ble_eq_true rfl, Nat.le_of_ble_eq_true rfl⟩) (fun r5 f3 H locs p4 hM hS => ?_)
      obtain ⟨rfl, rfl⟩ := p4
      refine lv_if_ne (tgt := 21) hx hb d_GrantServerModel_alter_16 (by decide) (fun h6 => ?_) (fun h6 => ?_)
      · refine lv_aload_n hx hb d_GrantServerModel_alter_21 rfl (lv_at hl 0 rfl) ?_
        refine hm_get X hK hM hmo.1 fl_GrantServerModel_57 (v := .ref (ad 23)) rfl d_GrantServerModel_alter_22 ?_
        refine lv_iload_n hx hb d_GrantServerModel_alter_25 rfl (lv_at hl 1 rfl) ?_
        refine lv_iload_n hx hb d_GrantServerModel_alter_26 rfl (lv_at hl 2 rfl) ?_
        have g7 : f (ad 23) = some (.inl (k 0, 120, .inl (c 23))) := hmo.arr 23 (by decide) (by decide)
        refine hm_iast X hK hM hS g7 0 rfl j rfl (by omega) (by decide) d_GrantServerModel_alter_27 (fun f8 H locs e9 hM hS => ?_)
        have hfr := hfr.ast 23 (by decide) (by decide) e9; have hmo : mo k f8 h ad sk v (va_up c 23 (upd (c 23) j y)) := hmo.ast 23 (by decide) (by decide) e9
        refine lv_iconst (v := 1) hx hb d_GrantServerModel_alter_28 (by decide) ?_
        exact hm_zret X hQ hr hlk hK hM hS rfl d_GrantServerModel_alter_29 ⟨rfl, hmo, hfr⟩
      · exact absurd h6 hz
set_option maxHeartbeats 4000000 in
set_option maxRecDepth 100000 in
theorem m_c_take (l : Launch) (D : va_G) (k : Nat → ClassId) (f : hm) (h : Nat) (ad : Nat → Nat) (sk : Int64) (v : Nat → Int32) (c : Nat → Nat → Int32) (x : Int32) (n : Nat) (hmo : mo k f h ad sk v c) (hx9 : ¬ x = 0) (hn : v 26 = nI n) (hn9 : n ≤ 120) : hm_Mi l D vwCl (tyL k) y_GrantServerModel_take (Cond.code y_GrantServerModel_take b_GrantServerModel_take 3 (some .int) :: TB) ({ frames := 0, cells := 0, slots := 0, locals := 0 }) [.ref h, .int x] f (fun (r : Int32) (f1 : hm) => ∃ (g : Nat → Int32), nI n = r ∧ (∀ i, i < n → g i = c 25 i) ∧ mo k f1 h ad sk (upd v 24 (nI n)) (va_up c 23 g) ∧ mo_fr h ad f f1) 0 0 := by
  refine hm_enter (Qc := fun sz => va_Qi _ (hm_R D vwCl (tyL k) f sz) (hm_A f sz)) (by decide) rfl (Nat.le_of_ble_eq_true rfl) ?_
  intro p e s m below meth cd ls X0 hr hlk hin hK hM hS hA hl Q hQ
  have X : CallFix p m cd b_GrantServerModel_take 3 s ([.ref h, .int x] : List Value).toArray TB R_GrantServerModel := ⟨X0.1, X0.2.1, X0.2.2.1, X0.2.2.2.1, fun w h => X0.2.2.2.2 w (List.mem_cons_of_mem _ h)⟩
  have hx := X.1; have hb := X.2.1; have hml := X.2.2.1; have hown := X.2.2.2.1; have hts := X.2.2.2.2
  have hl : lv_has ls 3 [(0, .ref h), (1, .int x)] := hl
  have hfr : mo_fr h ad f f := mo_fr.rf
  refine lv_aload_n hx hb d_GrantServerModel_take_0 rfl (lv_at hl 0 rfl) ?_
  refine lv_iload_n hx hb d_GrantServerModel_take_1 rfl (lv_at hl 1 rfl) ?_
  refine lv_if_eq (tgt := 12) hx hb d_GrantServerModel_take_2 (by decide) (fun h1 => ?_) (fun h1 => ?_)
  · exact absurd h1 hx9
  · refine lv_aload_n hx hb d_GrantServerModel_take_5 rfl (lv_at hl 0 rfl) ?_
    refine hm_get X hK hM hmo.1 fl_GrantServerModel_160 (v := .int (v 26)) rfl d_GrantServerModel_take_6 ?_
    refine lv_goto (tgt := 13) hx hb d_GrantServerModel_take_9 (by decide) ?_
    refine hm_top (z := nI n) hn ?_
    refine hm_put X hK hM hS (fs' := moV sk (upd v 24 (nI n)) ad) hmo.1 fl_GrantServerModel_175 rfl rfl (Nat.le_of_ble_eq_true rfl) rfl d_GrantServerModel_take_13 (fun f2 H locs e3 hM hS => ?_)
    have hfr := hfr.put e3; have hmo : mo k f2 h ad sk (upd v 24 (nI n)) c := hmo.put e3
    refine lv_iconst (v := 0) hx hb d_GrantServerModel_take_16 (by decide) ?_
    refine lv_istore_n (lv' := [(2, .int 0), (0, .ref h), (1, .int x)]) hx hb d_GrantServerModel_take_17 rfl hl (by decide) rfl (fun ls hl => ?_)
    have loop18 : ∀ (fu : Nat) (j : Nat) (g : Nat → Int32) (fL : hm) (H : Heap) (locs : List Loc) (ls : Array Slot) (hmu : n - j < fu) (hj : j ≤ n) (hg : ∀ i, i < j → g i = c 25 i) (hmo : mo k fL h ad sk (upd v 24 (nI n)) (va_up c 23 g)) (hfr : mo_fr h ad f fL) (hM : hm_W D vwCl (hm_A f s.heap.size) fL H) (hS : va_S (hm_A f s.heap.size) s.heap H locs) (hl : lv_has ls 3 [(0, .ref h), (1, .int x), (2, .int (nI j))]), W p l e ({ frames := 0, cells := 0, slots := 0, locals := 0 }) s m ([.ref h, .int x] : List Value).toArray below meth cd H locs 0 0 Q (F0 m 18 ls []) := by
      intro fu
      induction fu with
      | zero => intro j g fL H locs ls hmu; exact absurd hmu (Nat.not_lt_zero _)
      | succ fu ih =>
        intro j g fL H locs ls hmu hj hg  hmo hfr hM hS hl
        refine lv_iload_n hx hb d_GrantServerModel_take_18 rfl (lv_at hl 2 rfl) ?_
        refine lv_aload_n hx hb d_GrantServerModel_take_19 rfl (lv_at hl 0 rfl) ?_
        refine hm_get X hK hM hmo.1 fl_GrantServerModel_175 (v := .int (nI n)) rfl d_GrantServerModel_take_20 ?_
        refine lv_icmp_ge (tgt := 44) hx hb d_GrantServerModel_take_23 (by decide) (fun h4 => ?_) (fun h4 => ?_)
        · have hge : n ≤ j := by have z := h4; rw [nI_leI (by omega) (by omega)] at z; omega
          refine lv_aload_n hx hb d_GrantServerModel_take_44 rfl (lv_at hl 0 rfl) ?_
          refine hm_get X hK hM hmo.1 fl_GrantServerModel_175 (v := .int (nI n)) rfl d_GrantServerModel_take_45 ?_
          exact hm_iret X hQ hr hlk hK hM hS d_GrantServerModel_take_48 ⟨g, rfl, (fun i hi => hg i (by omega)), hmo, hfr⟩
        · have hlt : j < n := by have z := h4; rw [nI_leI (by omega) (by omega)] at z; omega
          refine lv_aload_n hx hb d_GrantServerModel_take_26 rfl (lv_at hl 0 rfl) ?_
          refine hm_get X hK hM hmo.1 fl_GrantServerModel_57 (v := .ref (ad 23)) rfl d_GrantServerModel_take_27 ?_
          refine lv_iload_n hx hb d_GrantServerModel_take_30 rfl (lv_at hl 2 rfl) ?_
          refine lv_aload_n hx hb d_GrantServerModel_take_31 rfl (lv_at hl 0 rfl) ?_
          refine hm_get X hK hM hmo.1 fl_GrantServerModel_60 (v := .ref (ad 25)) rfl d_GrantServerModel_take_32 ?_
          refine lv_iload_n hx hb d_GrantServerModel_take_35 rfl (lv_at hl 2 rfl) ?_
          have g5 : fL (ad 25) = some (.inl (k 0, 120, .inl (c 25))) := hmo.arr 25 (by decide) (by decide)
          refine hm_iald X hK hM g5 0 rfl j rfl (by omega) (by decide) d_GrantServerModel_take_36 ?_
          have g6 : fL (ad 23) = some (.inl (k 0, 120, .inl g)) := hmo.arr 23 (by decide) (by decide)
          refine hm_iast X hK hM hS g6 0 rfl j rfl (by omega) (by decide) d_GrantServerModel_take_37 (fun f7 H locs e8 hM hS => ?_)
          have hfr := hfr.ast 23 (by decide) (by decide) e8; have hmo : mo k f7 h ad sk (upd v 24 (nI n)) (va_up (va_up c 23 g) 23 (upd g j ((c 25) j))) := hmo.ast 23 (by decide) (by decide) e8
          refine lv_iinc (lv' := [(2, .int (nI (j + 1))), (0, .ref h), (1, .int x)]) hx hb d_GrantServerModel_take_38 hl (k := 2) rfl (hm_inc _) (by decide) rfl (fun ls hl => ?_)
          refine lv_goto (tgt := 18) hx hb d_GrantServerModel_take_41 (by decide) ?_
          exact ih (j + 1) (upd g j (c 25 j)) f7 H locs ls (by omega) (by omega) (fun i hi => by by_cases e : i = j <;> simp [upd, e]; exact hg i (by omega))  (hmo.cv rfl (bx_uu _ _ _ _).symm) hfr hM hS (lv_sub hl [1, 2, 0] rfl)
    exact loop18 _ 0 (c 23) f2 H locs ls (Nat.lt_succ_self _) (Nat.zero_le _) (fun i h => absurd h (Nat.not_lt_zero _))  (hmo.cv rfl (va_up_id _ _)) hfr hM hS (lv_sub hl [1, 2, 0] rfl)
set_option maxHeartbeats 4000000 in
set_option maxRecDepth 100000 in
theorem m_c_take_no (l : Launch) (D : va_G) (k : Nat → ClassId) (f : hm) (h : Nat) (ad : Nat → Nat) (sk : Int64) (v : Nat → Int32) (c : Nat → Nat → Int32) (x : Int32) (n : Nat) (hmo : mo k f h ad sk v c) (hx9 : x = 0) (hn : n = 0) (hn9 : n ≤ 120) : hm_Mi l D vwCl (tyL k) y_GrantServerModel_take (Cond.code y_GrantServerModel_take b_GrantServerModel_take 3 (some .int) :: TB) ({ frames := 0, cells := 0, slots := 0, locals := 0 }) [.ref h, .int x] f (fun (r : Int32) (f1 : hm) => ∃ (g : Nat → Int32), nI n = r ∧ (∀ i, i < n → g i = c 25 i) ∧ mo k f1 h ad sk (upd v 24 (nI n)) (va_up c 23 g) ∧ mo_fr h ad f f1) 0 0 := by
  refine hm_enter (Qc := fun sz => va_Qi _ (hm_R D vwCl (tyL k) f sz) (hm_A f sz)) (by decide) rfl (Nat.le_of_ble_eq_true rfl) ?_
  intro p e s m below meth cd ls X0 hr hlk hin hK hM hS hA hl Q hQ
  have X : CallFix p m cd b_GrantServerModel_take 3 s ([.ref h, .int x] : List Value).toArray TB R_GrantServerModel := ⟨X0.1, X0.2.1, X0.2.2.1, X0.2.2.2.1, fun w h => X0.2.2.2.2 w (List.mem_cons_of_mem _ h)⟩
  have hx := X.1; have hb := X.2.1; have hml := X.2.2.1; have hown := X.2.2.2.1; have hts := X.2.2.2.2
  have hl : lv_has ls 3 [(0, .ref h), (1, .int x)] := hl
  have hfr : mo_fr h ad f f := mo_fr.rf
  refine lv_aload_n hx hb d_GrantServerModel_take_0 rfl (lv_at hl 0 rfl) ?_
  refine lv_iload_n hx hb d_GrantServerModel_take_1 rfl (lv_at hl 1 rfl) ?_
  refine lv_if_eq (tgt := 12) hx hb d_GrantServerModel_take_2 (by decide) (fun h1 => ?_) (fun h1 => ?_)
  · refine lv_iconst (v := 0) hx hb d_GrantServerModel_take_12 (by decide) ?_
    refine hm_top (z := nI n) (by rw [hn]; rfl) ?_
    refine hm_put X hK hM hS (fs' := moV sk (upd v 24 (nI n)) ad) hmo.1 fl_GrantServerModel_175 rfl rfl (Nat.le_of_ble_eq_true rfl) rfl d_GrantServerModel_take_13 (fun f2 H locs e3 hM hS => ?_)
    have hfr := hfr.put e3; have hmo : mo k f2 h ad sk (upd v 24 (nI n)) c := hmo.put e3
    refine lv_iconst (v := 0) hx hb d_GrantServerModel_take_16 (by decide) ?_
    refine lv_istore_n (lv' := [(2, .int 0), (0, .ref h), (1, .int x)]) hx hb d_GrantServerModel_take_17 rfl hl (by decide) rfl (fun ls hl => ?_)
    have loop18 : ∀ (fu : Nat) (j : Nat) (g : Nat → Int32) (fL : hm) (H : Heap) (locs : List Loc) (ls : Array Slot) (hmu : n - j < fu) (hj : j ≤ n) (hg : ∀ i, i < j → g i = c 25 i) (hmo : mo k fL h ad sk (upd v 24 (nI n)) (va_up c 23 g)) (hfr : mo_fr h ad f fL) (hM : hm_W D vwCl (hm_A f s.heap.size) fL H) (hS : va_S (hm_A f s.heap.size) s.heap H locs) (hl : lv_has ls 3 [(0, .ref h), (1, .int x), (2, .int (nI j))]), W p l e ({ frames := 0, cells := 0, slots := 0, locals := 0 }) s m ([.ref h, .int x] : List Value).toArray below meth cd H locs 0 0 Q (F0 m 18 ls []) := by
      intro fu
      induction fu with
      | zero => intro j g fL H locs ls hmu; exact absurd hmu (Nat.not_lt_zero _)
      | succ fu ih =>
        intro j g fL H locs ls hmu hj hg  hmo hfr hM hS hl
        refine lv_iload_n hx hb d_GrantServerModel_take_18 rfl (lv_at hl 2 rfl) ?_
        refine lv_aload_n hx hb d_GrantServerModel_take_19 rfl (lv_at hl 0 rfl) ?_
        refine hm_get X hK hM hmo.1 fl_GrantServerModel_175 (v := .int (nI n)) rfl d_GrantServerModel_take_20 ?_
        refine lv_icmp_ge (tgt := 44) hx hb d_GrantServerModel_take_23 (by decide) (fun h4 => ?_) (fun h4 => ?_)
        · have hge : n ≤ j := by have z := h4; rw [nI_leI (by omega) (by omega)] at z; omega
          refine lv_aload_n hx hb d_GrantServerModel_take_44 rfl (lv_at hl 0 rfl) ?_
          refine hm_get X hK hM hmo.1 fl_GrantServerModel_175 (v := .int (nI n)) rfl d_GrantServerModel_take_45 ?_
          exact hm_iret X hQ hr hlk hK hM hS d_GrantServerModel_take_48 ⟨g, rfl, (fun i hi => hg i (by omega)), hmo, hfr⟩
        · have hlt : j < n := by have z := h4; rw [nI_leI (by omega) (by omega)] at z; omega
          refine lv_aload_n hx hb d_GrantServerModel_take_26 rfl (lv_at hl 0 rfl) ?_
          refine hm_get X hK hM hmo.1 fl_GrantServerModel_57 (v := .ref (ad 23)) rfl d_GrantServerModel_take_27 ?_
          refine lv_iload_n hx hb d_GrantServerModel_take_30 rfl (lv_at hl 2 rfl) ?_
          refine lv_aload_n hx hb d_GrantServerModel_take_31 rfl (lv_at hl 0 rfl) ?_
          refine hm_get X hK hM hmo.1 fl_GrantServerModel_60 (v := .ref (ad 25)) rfl d_GrantServerModel_take_32 ?_
          refine lv_iload_n hx hb d_GrantServerModel_take_35 rfl (lv_at hl 2 rfl) ?_
          have g5 : fL (ad 25) = some (.inl (k 0, 120, .inl (c 25))) := hmo.arr 25 (by decide) (by decide)
          refine hm_iald X hK hM g5 0 rfl j rfl (by omega) (by decide) d_GrantServerModel_take_36 ?_
          have g6 : fL (ad 23) = some (.inl (k 0, 120, .inl g)) := hmo.arr 23 (by decide) (by decide)
          refine hm_iast X hK hM hS g6 0 rfl j rfl (by omega) (by decide) d_GrantServerModel_take_37 (fun f7 H locs e8 hM hS => ?_)
          have hfr := hfr.ast 23 (by decide) (by decide) e8; have hmo : mo k f7 h ad sk (upd v 24 (nI n)) (va_up (va_up c 23 g) 23 (upd g j ((c 25) j))) := hmo.ast 23 (by decide) (by decide) e8
          refine lv_iinc (lv' := [(2, .int (nI (j + 1))), (0, .ref h), (1, .int x)]) hx hb d_GrantServerModel_take_38 hl (k := 2) rfl (hm_inc _) (by decide) rfl (fun ls hl => ?_)
          refine lv_goto (tgt := 18) hx hb d_GrantServerModel_take_41 (by decide) ?_
          exact ih (j + 1) (upd g j (c 25 j)) f7 H locs ls (by omega) (by omega) (fun i hi => by by_cases e : i = j <;> simp [upd, e]; exact hg i (by omega))  (hmo.cv rfl (bx_uu _ _ _ _).symm) hfr hM hS (lv_sub hl [1, 2, 0] rfl)
    exact loop18 _ 0 (c 23) f2 H locs ls (Nat.lt_succ_self _) (Nat.zero_le _) (fun i h => absurd h (Nat.not_lt_zero _))  (hmo.cv rfl (va_up_id _ _)) hfr hM hS (lv_sub hl [1, 2, 0] rfl)
  · exact absurd hx9 h1
set_option maxHeartbeats 4000000 in
set_option maxRecDepth 100000 in
theorem m_c_letter (l : Launch) (D : va_G) (k : Nat → ClassId) (f : hm) (h : Nat) (ad : Nat → Nat) (sk : Int64) (v : Nat → Int32) (c : Nat → Nat → Int32) (x : Int32) (i : Int32) (n : Nat) (hmo : mo k f h ad sk v c) (hn : (if x = 0 then v 24 else v 26) = nI n) (hn9 : n ≤ 120) : hm_Mi l D vwCl (tyL k) y_GrantServerModel_letter (Cond.code y_GrantServerModel_letter b_GrantServerModel_letter 3 (some .int) :: TB) ({ frames := 0, cells := 0, slots := 0, locals := 0 }) [.ref h, .int x, .int i] f (fun (r : Int32) (f1 : hm) => m_letter (v 24) (v 26) (c 23) (c 25) x i = r ∧ f = f1) 0 0 := by
  refine hm_enter (Qc := fun sz => va_Qi _ (hm_R D vwCl (tyL k) f sz) (hm_A f sz)) (by decide) rfl (Nat.le_of_ble_eq_true rfl) ?_
  intro p e s m below meth cd ls X0 hr hlk hin hK hM hS hA hl Q hQ
  have X : CallFix p m cd b_GrantServerModel_letter 3 s ([.ref h, .int x, .int i] : List Value).toArray TB R_GrantServerModel := ⟨X0.1, X0.2.1, X0.2.2.1, X0.2.2.2.1, fun w h => X0.2.2.2.2 w (List.mem_cons_of_mem _ h)⟩
  have hx := X.1; have hb := X.2.1; have hml := X.2.2.1; have hown := X.2.2.2.1; have hts := X.2.2.2.2
  have hl : lv_has ls 3 [(0, .ref h), (1, .int x), (2, .int i)] := hl
  have hfr : mo_fr h ad f f := mo_fr.rf
  refine lv_iload_n hx hb d_GrantServerModel_letter_0 rfl (lv_at hl 2 rfl) ?_
  refine lv_if_lt (tgt := 23) hx hb d_GrantServerModel_letter_1 (by decide) (fun h1 => ?_) (fun h1 => ?_)
  · refine lv_iconst (v := (-1)) hx hb d_GrantServerModel_letter_23 (by decide) ?_
    exact hm_iret X hQ hr hlk hK hM hS d_GrantServerModel_letter_24 ⟨(by simp [m_letter, h1, Int32.not_le.mpr h1]), rfl⟩
  · refine lv_iload_n hx hb d_GrantServerModel_letter_4 rfl (lv_at hl 2 rfl) ?_
    refine lv_iload_n hx hb d_GrantServerModel_letter_5 rfl (lv_at hl 1 rfl) ?_
    refine lv_if_eq (tgt := 16) hx hb d_GrantServerModel_letter_6 (by decide) (fun h2 => ?_) (fun h2 => ?_)
    · refine lv_aload_n hx hb d_GrantServerModel_letter_16 rfl (lv_at hl 0 rfl) ?_
      refine hm_get X hK hM hmo.1 fl_GrantServerModel_175 (v := .int (v 24)) rfl d_GrantServerModel_letter_17 ?_
      refine lv_icmp_lt (tgt := 25) hx hb d_GrantServerModel_letter_20 (by decide) (fun h3 => ?_) (fun h3 => ?_)
      · obtain ⟨j, hj, hij⟩ := hm_ix (n := n) h1 (by rw [← hn]; simp [h2, Int32.not_le.mpr h3]) (by omega)
        refine lv_iload_n hx hb d_GrantServerModel_letter_25 rfl (lv_at hl 1 rfl) ?_
        refine lv_if_eq (tgt := 38) hx hb d_GrantServerModel_letter_26 (by decide) (fun h4 => ?_) (fun h4 => ?_)
        · refine lv_aload_n hx hb d_GrantServerModel_letter_38 rfl (lv_at hl 0 rfl) ?_
          refine hm_get X hK hM hmo.1 fl_GrantServerModel_57 (v := .ref (ad 23)) rfl d_GrantServerModel_letter_39 ?_
          refine lv_iload_n hx hb d_GrantServerModel_letter_42 rfl (lv_at hl 2 rfl) ?_
          have g5 : f (ad 23) = some (.inl (k 0, 120, .inl (c 23))) := hmo.arr 23 (by decide) (by decide)
          refine hm_iald X hK hM g5 0 rfl j hij (by omega) (by decide) d_GrantServerModel_letter_43 ?_
          exact hm_iret X hQ hr hlk hK hM hS d_GrantServerModel_letter_44 ⟨(by have hz := nI_clamp (show j < 2 ^ 31 by omega); simp [m_letter, h1, Int32.not_lt.mp h1, h2, h3, Int32.not_le.mpr h3, h4]; rw [hij, hz]), rfl⟩
        · exact absurd h2 h4
      · refine lv_iconst (v := (-1)) hx hb d_GrantServerModel_letter_23 (by decide) ?_
        exact hm_iret X hQ hr hlk hK hM hS d_GrantServerModel_letter_24 ⟨(by simp [m_letter, h1, Int32.not_lt.mp h1, h2, h3, Int32.not_lt.mp h3]), rfl⟩
    · refine lv_aload_n hx hb d_GrantServerModel_letter_9 rfl (lv_at hl 0 rfl) ?_
      refine hm_get X hK hM hmo.1 fl_GrantServerModel_160 (v := .int (v 26)) rfl d_GrantServerModel_letter_10 ?_
      refine lv_goto (tgt := 20) hx hb d_GrantServerModel_letter_13 (by decide) ?_
      refine lv_icmp_lt (tgt := 25) hx hb d_GrantServerModel_letter_20 (by decide) (fun h3 => ?_) (fun h3 => ?_)
      · obtain ⟨j, hj, hij⟩ := hm_ix (n := n) h1 (by rw [← hn]; simp [h2, Int32.not_le.mpr h3]) (by omega)
        refine lv_iload_n hx hb d_GrantServerModel_letter_25 rfl (lv_at hl 1 rfl) ?_
        refine lv_if_eq (tgt := 38) hx hb d_GrantServerModel_letter_26 (by decide) (fun h4 => ?_) (fun h4 => ?_)
        · exact absurd h4 h2
        · refine lv_aload_n hx hb d_GrantServerModel_letter_29 rfl (lv_at hl 0 rfl) ?_
          refine hm_get X hK hM hmo.1 fl_GrantServerModel_60 (v := .ref (ad 25)) rfl d_GrantServerModel_letter_30 ?_
          refine lv_iload_n hx hb d_GrantServerModel_letter_33 rfl (lv_at hl 2 rfl) ?_
          have g5 : f (ad 25) = some (.inl (k 0, 120, .inl (c 25))) := hmo.arr 25 (by decide) (by decide)
          refine hm_iald X hK hM g5 0 rfl j hij (by omega) (by decide) d_GrantServerModel_letter_34 ?_
          refine lv_goto (tgt := 44) hx hb d_GrantServerModel_letter_35 (by decide) ?_
          exact hm_iret X hQ hr hlk hK hM hS d_GrantServerModel_letter_44 ⟨(by have hz := nI_clamp (show j < 2 ^ 31 by omega); simp [m_letter, h1, Int32.not_lt.mp h1, h2, h3, Int32.not_le.mpr h3, h4]; rw [hij, hz]), rfl⟩
      · refine lv_iconst (v := (-1)) hx hb d_GrantServerModel_letter_23 (by decide) ?_
        exact hm_iret X hQ hr hlk hK hM hS d_GrantServerModel_letter_24 ⟨(by simp [m_letter, h1, Int32.not_lt.mp h1, h2, h3, Int32.not_lt.mp h3]), rfl⟩
set_option maxHeartbeats 4000000 in
set_option maxRecDepth 100000 in
theorem m_c_challenge (l : Launch) (D : va_G) (k : Nat → ClassId) (f : hm) (h : Nat) (ad : Nat → Nat) (sk : Int64) (v : Nat → Int32) (c : Nat → Nat → Int32) (n : Nat) (hmo : mo k f h ad sk v c) (hn : v 24 = nI n) (hn9 : n ≤ 120) : hm_Mi l D vwCl (tyL k) y_GrantServerModel_challenge (Cond.code y_GrantServerModel_challenge b_GrantServerModel_challenge 4 (some .int) :: TB) ({ frames := 0, cells := 0, slots := 0, locals := 0 }) [.ref h] f (fun (r : Int32) (f1 : hm) => (m_hash (c 23) n n).toInt32 = r ∧ f = f1) 0 0 := by
  refine hm_enter (Qc := fun sz => va_Qi _ (hm_R D vwCl (tyL k) f sz) (hm_A f sz)) (by decide) rfl (Nat.le_of_ble_eq_true rfl) ?_
  intro p e s m below meth cd ls X0 hr hlk hin hK hM hS hA hl Q hQ
  have X : CallFix p m cd b_GrantServerModel_challenge 4 s ([.ref h] : List Value).toArray TB R_GrantServerModel := ⟨X0.1, X0.2.1, X0.2.2.1, X0.2.2.2.1, fun w h => X0.2.2.2.2 w (List.mem_cons_of_mem _ h)⟩
  have hx := X.1; have hb := X.2.1; have hml := X.2.2.1; have hown := X.2.2.2.1; have hts := X.2.2.2.2
  have hl : lv_has ls 4 [(0, .ref h)] := hl
  have hfr : mo_fr h ad f f := mo_fr.rf
  refine lv_aload_n hx hb d_GrantServerModel_challenge_0 rfl (lv_at hl 0 rfl) ?_
  refine hm_get X hK hM hmo.1 fl_GrantServerModel_175 (v := .int (v 24)) rfl d_GrantServerModel_challenge_1 ?_
  refine hm_top hn ?_
  refine lv_i2l hx hb d_GrantServerModel_challenge_4 rfl ?_
  refine lv_lstore_n (lv' := [(1, .long ((nI n).toInt64)), (0, .ref h)]) hx hb d_GrantServerModel_challenge_5 rfl hl (by decide) rfl (fun ls hl => ?_)
  refine lv_iconst (v := 0) hx hb d_GrantServerModel_challenge_6 (by decide) ?_
  refine lv_istore_n (lv' := [(3, .int 0), (1, .long ((nI n).toInt64)), (0, .ref h)]) hx hb d_GrantServerModel_challenge_7 rfl hl (by decide) rfl (fun ls hl => ?_)
  have loop8 : ∀ (fu : Nat) (j : Nat) (H : Heap) (locs : List Loc) (ls : Array Slot) (hmu : n - j < fu) (hj : j ≤ n) (hM : hm_W D vwCl (hm_A f s.heap.size) f H) (hS : va_S (hm_A f s.heap.size) s.heap H locs) (hl : lv_has ls 4 [(0, .ref h), (1, .long (m_hash (c 23) n j)), (3, .int (nI j))]), W p l e ({ frames := 0, cells := 0, slots := 0, locals := 0 }) s m ([.ref h] : List Value).toArray below meth cd H locs 0 0 Q (F0 m 8 ls []) := by
    intro fu
    induction fu with
    | zero => intro j H locs ls hmu; exact absurd hmu (Nat.not_lt_zero _)
    | succ fu ih =>
      intro j H locs ls hmu hj  hM hS hl
      refine lv_iload_n hx hb d_GrantServerModel_challenge_8 rfl (lv_at hl 2 rfl) ?_
      refine lv_aload_n hx hb d_GrantServerModel_challenge_9 rfl (lv_at hl 0 rfl) ?_
      refine hm_get X hK hM hmo.1 fl_GrantServerModel_175 (v := .int (v 24)) rfl d_GrantServerModel_challenge_10 ?_
      refine hm_top hn ?_
      refine lv_icmp_ge (tgt := 40) hx hb d_GrantServerModel_challenge_13 (by decide) (fun h1 => ?_) (fun h1 => ?_)
      · have hge : j = n := by have z := h1; rw [nI_leI (by omega) (by omega)] at z; omega
        subst hge
        refine lv_lload_n hx hb d_GrantServerModel_challenge_40 rfl (lv_at hl 1 rfl) ?_
        refine lv_l2i hx hb d_GrantServerModel_challenge_41 rfl ?_
        exact hm_iret X hQ hr hlk hK hM hS d_GrantServerModel_challenge_42 ⟨rfl, rfl⟩
      · have hlt : j < n := by have z := h1; rw [nI_leI (by omega) (by omega)] at z; omega
        refine lv_lload_n hx hb d_GrantServerModel_challenge_16 rfl (lv_at hl 1 rfl) ?_
        refine lv_ldc2 (v := 1000003) hx hb hown (hts _ wc_GrantServerModel_181) d_GrantServerModel_challenge_17 ?_
        refine lv_lmul hx hb d_GrantServerModel_challenge_20 ?_
        refine lv_aload_n hx hb d_GrantServerModel_challenge_21 rfl (lv_at hl 0 rfl) ?_
        refine hm_get X hK hM hmo.1 fl_GrantServerModel_57 (v := .ref (ad 23)) rfl d_GrantServerModel_challenge_22 ?_
        refine lv_iload_n hx hb d_GrantServerModel_challenge_25 rfl (lv_at hl 2 rfl) ?_
        have g2 : f (ad 23) = some (.inl (k 0, 120, .inl (c 23))) := hmo.arr 23 (by decide) (by decide)
        refine hm_iald X hK hM g2 0 rfl j rfl (by omega) (by decide) d_GrantServerModel_challenge_26 ?_
        refine lv_i2l hx hb d_GrantServerModel_challenge_27 rfl ?_
        refine lv_ladd hx hb d_GrantServerModel_challenge_28 ?_
        refine lv_ldc2 (v := 1073741823) hx hb hown (hts _ wc_GrantServerModel_183) d_GrantServerModel_challenge_29 ?_
        refine lv_land hx hb d_GrantServerModel_challenge_32 ?_
        refine lv_lstore_n (lv' := [(1, .long ((((m_hash (c 23) n j) * 1000003) + (((c 23) j).toInt64)) &&& 1073741823)), (0, .ref h), (3, .int (nI j))]) hx hb d_GrantServerModel_challenge_33 rfl hl (by decide) rfl (fun ls hl => ?_)
        refine lv_iinc (lv' := [(3, .int (nI (j + 1))), (1, .long ((((m_hash (c 23) n j) * 1000003) + (((c 23) j).toInt64)) &&& 1073741823)), (0, .ref h)]) hx hb d_GrantServerModel_challenge_34 hl (k := 2) rfl (hm_inc _) (by decide) rfl (fun ls hl => ?_)
        refine lv_goto (tgt := 8) hx hb d_GrantServerModel_challenge_37 (by decide) ?_
        exact ih (j + 1)  H locs ls (by omega) (by omega)  hM hS (lv_sub hl [2, 1, 0] rfl)
  exact loop8 _ 0  s.heap [] ls (Nat.lt_succ_self _) (Nat.zero_le _)  hM hS (lv_sub hl [2, 1, 0] rfl)
