theorem d_GrantServer_keptLife_0 : decode b_GrantServer_keptLife 0 = .ok (.iconst 1, 1) := by decide +kernel
theorem d_GrantServer_keptLife_1 : decode b_GrantServer_keptLife 1 = .ok (.sipush 1000, 3) := by decide +kernel
theorem d_GrantServer_keptLife_4 : decode b_GrantServer_keptLife 4 = .ok (.iload_n 0, 1) := by decide +kernel
theorem d_GrantServer_keptLife_5 : decode b_GrantServer_keptLife 5 = .ok (.invokestatic 243, 3) := by decide +kernel
theorem d_GrantServer_keptLife_8 : decode b_GrantServer_keptLife 8 = .ok (.invokestatic 248, 3) := by decide +kernel
theorem d_GrantServer_keptLife_11 : decode b_GrantServer_keptLife 11 = .ok (.ireturn, 1) := by decide +kernel
theorem d_GrantServer_isSomeScopes_0 : decode b_GrantServer_isSomeScopes 0 = .ok (.iload_n 0, 1) := by decide +kernel
theorem d_GrantServer_isSomeScopes_1 : decode b_GrantServer_isSomeScopes 1 = .ok (.iconst 1, 1) := by decide +kernel
theorem d_GrantServer_isSomeScopes_2 : decode b_GrantServer_isSomeScopes 2 = .ok (.if_icmp .lt 13, 3) := by decide +kernel
theorem d_GrantServer_isSomeScopes_5 : decode b_GrantServer_isSomeScopes 5 = .ok (.iload_n 0, 1) := by decide +kernel
theorem d_GrantServer_isSomeScopes_6 : decode b_GrantServer_isSomeScopes 6 = .ok (.bipush 15, 2) := by decide +kernel
theorem d_GrantServer_isSomeScopes_8 : decode b_GrantServer_isSomeScopes 8 = .ok (.if_icmp .gt 7, 3) := by decide +kernel
theorem d_GrantServer_isSomeScopes_11 : decode b_GrantServer_isSomeScopes 11 = .ok (.iconst 1, 1) := by decide +kernel
theorem d_GrantServer_isSomeScopes_12 : decode b_GrantServer_isSomeScopes 12 = .ok (.goto 4, 3) := by decide +kernel
theorem d_GrantServer_isSomeScopes_15 : decode b_GrantServer_isSomeScopes 15 = .ok (.iconst 0, 1) := by decide +kernel
theorem d_GrantServer_isSomeScopes_16 : decode b_GrantServer_isSomeScopes 16 = .ok (.ireturn, 1) := by decide +kernel
theorem d_GrantServer_isWithin_0 : decode b_GrantServer_isWithin 0 = .ok (.iload_n 0, 1) := by decide +kernel
theorem d_GrantServer_isWithin_1 : decode b_GrantServer_isWithin 1 = .ok (.iload_n 1, 1) := by decide +kernel
theorem d_GrantServer_isWithin_2 : decode b_GrantServer_isWithin 2 = .ok (.iconst (-1), 1) := by decide +kernel
theorem d_GrantServer_isWithin_3 : decode b_GrantServer_isWithin 3 = .ok (.ixor, 1) := by decide +kernel
theorem d_GrantServer_isWithin_4 : decode b_GrantServer_isWithin 4 = .ok (.iand, 1) := by decide +kernel
theorem d_GrantServer_isWithin_5 : decode b_GrantServer_isWithin 5 = .ok (.ifCond .ne 7, 3) := by decide +kernel
theorem d_GrantServer_isWithin_8 : decode b_GrantServer_isWithin 8 = .ok (.iconst 1, 1) := by decide +kernel
theorem d_GrantServer_isWithin_9 : decode b_GrantServer_isWithin 9 = .ok (.goto 4, 3) := by decide +kernel
theorem d_GrantServer_isWithin_12 : decode b_GrantServer_isWithin 12 = .ok (.iconst 0, 1) := by decide +kernel
theorem d_GrantServer_isWithin_13 : decode b_GrantServer_isWithin 13 = .ok (.ireturn, 1) := by decide +kernel
theorem d_GrantServer_isWritable_0 : decode b_GrantServer_isWritable 0 = .ok (.iload_n 0, 1) := by decide +kernel
theorem d_GrantServer_isWritable_1 : decode b_GrantServer_isWritable 1 = .ok (.bipush 32, 2) := by decide +kernel
theorem d_GrantServer_isWritable_3 : decode b_GrantServer_isWritable 3 = .ok (.if_icmp .lt 13, 3) := by decide +kernel
theorem d_GrantServer_isWritable_6 : decode b_GrantServer_isWritable 6 = .ok (.iload_n 0, 1) := by decide +kernel
theorem d_GrantServer_isWritable_7 : decode b_GrantServer_isWritable 7 = .ok (.bipush 126, 2) := by decide +kernel
theorem d_GrantServer_isWritable_9 : decode b_GrantServer_isWritable 9 = .ok (.if_icmp .gt 7, 3) := by decide +kernel
theorem d_GrantServer_isWritable_12 : decode b_GrantServer_isWritable 12 = .ok (.iconst 1, 1) := by decide +kernel
theorem d_GrantServer_isWritable_13 : decode b_GrantServer_isWritable 13 = .ok (.goto 4, 3) := by decide +kernel
theorem d_GrantServer_isWritable_16 : decode b_GrantServer_isWritable 16 = .ok (.iconst 0, 1) := by decide +kernel
theorem d_GrantServer_isWritable_17 : decode b_GrantServer_isWritable 17 = .ok (.ireturn, 1) := by decide +kernel
theorem d_Client_init_0 : decode b_Client_init 0 = .ok (.aload_n 0, 1) := by decide +kernel
theorem d_Client_init_1 : decode b_Client_init 1 = .ok (.invokespecial 1, 3) := by decide +kernel
theorem d_Client_init_4 : decode b_Client_init 4 = .ok (.aload_n 0, 1) := by decide +kernel
theorem d_Client_init_5 : decode b_Client_init 5 = .ok (.iload_n 1, 1) := by decide +kernel
theorem d_Client_init_6 : decode b_Client_init 6 = .ok (.putfield 7, 3) := by decide +kernel
theorem d_Client_init_9 : decode b_Client_init 9 = .ok (.aload_n 0, 1) := by decide +kernel
theorem d_Client_init_10 : decode b_Client_init 10 = .ok (.iload_n 2, 1) := by decide +kernel
theorem d_Client_init_11 : decode b_Client_init 11 = .ok (.putfield 13, 3) := by decide +kernel
theorem d_Client_init_14 : decode b_Client_init 14 = .ok (.aload_n 0, 1) := by decide +kernel
theorem d_Client_init_15 : decode b_Client_init 15 = .ok (.iload_n 3, 1) := by decide +kernel
theorem d_Client_init_16 : decode b_Client_init 16 = .ok (.putfield 16, 3) := by decide +kernel
theorem d_Client_init_19 : decode b_Client_init 19 = .ok (.return_, 1) := by decide +kernel
theorem d_Family_init_0 : decode b_Family_init 0 = .ok (.aload_n 0, 1) := by decide +kernel
theorem d_Family_init_1 : decode b_Family_init 1 = .ok (.invokespecial 1, 3) := by decide +kernel
theorem d_Family_init_4 : decode b_Family_init 4 = .ok (.aload_n 0, 1) := by decide +kernel
theorem d_Family_init_5 : decode b_Family_init 5 = .ok (.iconst 0, 1) := by decide +kernel
theorem d_Family_init_6 : decode b_Family_init 6 = .ok (.putfield 7, 3) := by decide +kernel
theorem d_Family_init_9 : decode b_Family_init 9 = .ok (.aload_n 0, 1) := by decide +kernel
theorem d_Family_init_10 : decode b_Family_init 10 = .ok (.iload_n 1, 1) := by decide +kernel
theorem d_Family_init_11 : decode b_Family_init 11 = .ok (.putfield 13, 3) := by decide +kernel
theorem d_Family_init_14 : decode b_Family_init 14 = .ok (.aload_n 0, 1) := by decide +kernel
theorem d_Family_init_15 : decode b_Family_init 15 = .ok (.iload_n 2, 1) := by decide +kernel
theorem d_Family_init_16 : decode b_Family_init 16 = .ok (.putfield 17, 3) := by decide +kernel
theorem d_Family_init_19 : decode b_Family_init 19 = .ok (.return_, 1) := by decide +kernel
theorem d_Grant_init_0 : decode b_Grant_init 0 = .ok (.aload_n 0, 1) := by decide +kernel
theorem d_Grant_init_1 : decode b_Grant_init 1 = .ok (.invokespecial 1, 3) := by decide +kernel
theorem d_Grant_init_4 : decode b_Grant_init 4 = .ok (.return_, 1) := by decide +kernel
theorem d_Grant_begin_0 : decode b_Grant_begin 0 = .ok (.aload_n 0, 1) := by decide +kernel
theorem d_Grant_begin_1 : decode b_Grant_begin 1 = .ok (.iload_n 1, 1) := by decide +kernel
theorem d_Grant_begin_2 : decode b_Grant_begin 2 = .ok (.putfield 7, 3) := by decide +kernel
theorem d_Grant_begin_5 : decode b_Grant_begin 5 = .ok (.aload_n 0, 1) := by decide +kernel
theorem d_Grant_begin_6 : decode b_Grant_begin 6 = .ok (.iload_n 2, 1) := by decide +kernel
theorem d_Grant_begin_7 : decode b_Grant_begin 7 = .ok (.putfield 13, 3) := by decide +kernel
theorem d_Grant_begin_10 : decode b_Grant_begin 10 = .ok (.aload_n 0, 1) := by decide +kernel
theorem d_Grant_begin_11 : decode b_Grant_begin 11 = .ok (.iload_n 3, 1) := by decide +kernel
theorem d_Grant_begin_12 : decode b_Grant_begin 12 = .ok (.putfield 16, 3) := by decide +kernel
theorem d_Grant_begin_15 : decode b_Grant_begin 15 = .ok (.aload_n 0, 1) := by decide +kernel
theorem d_Grant_begin_16 : decode b_Grant_begin 16 = .ok (.iload 4, 2) := by decide +kernel
theorem d_Grant_begin_18 : decode b_Grant_begin 18 = .ok (.putfield 19, 3) := by decide +kernel
theorem d_Grant_begin_21 : decode b_Grant_begin 21 = .ok (.aload_n 0, 1) := by decide +kernel
theorem d_Grant_begin_22 : decode b_Grant_begin 22 = .ok (.aload 5, 2) := by decide +kernel
theorem d_Grant_begin_24 : decode b_Grant_begin 24 = .ok (.putfield 22, 3) := by decide +kernel
theorem d_Grant_begin_27 : decode b_Grant_begin 27 = .ok (.aload_n 0, 1) := by decide +kernel
theorem d_Grant_begin_28 : decode b_Grant_begin 28 = .ok (.iconst 0, 1) := by decide +kernel
theorem d_Grant_begin_29 : decode b_Grant_begin 29 = .ok (.putfield 26, 3) := by decide +kernel
theorem d_Grant_begin_32 : decode b_Grant_begin 32 = .ok (.aload_n 0, 1) := by decide +kernel
theorem d_Grant_begin_33 : decode b_Grant_begin 33 = .ok (.iconst 0, 1) := by decide +kernel
theorem d_Grant_begin_34 : decode b_Grant_begin 34 = .ok (.putfield 30, 3) := by decide +kernel
theorem d_Grant_begin_37 : decode b_Grant_begin 37 = .ok (.return_, 1) := by decide +kernel
theorem d_Grant_isActive_0 : decode b_Grant_isActive 0 = .ok (.aload_n 0, 1) := by decide +kernel
theorem d_Grant_isActive_1 : decode b_Grant_isActive 1 = .ok (.getfield 26, 3) := by decide +kernel
theorem d_Grant_isActive_4 : decode b_Grant_isActive 4 = .ok (.ifCond .ne 39, 3) := by decide +kernel
theorem d_Grant_isActive_7 : decode b_Grant_isActive 7 = .ok (.aload_n 0, 1) := by decide +kernel
theorem d_Grant_isActive_8 : decode b_Grant_isActive 8 = .ok (.getfield 30, 3) := by decide +kernel
theorem d_Grant_isActive_11 : decode b_Grant_isActive 11 = .ok (.ifCond .ne 32, 3) := by decide +kernel
theorem d_Grant_isActive_14 : decode b_Grant_isActive 14 = .ok (.aload_n 0, 1) := by decide +kernel
theorem d_Grant_isActive_15 : decode b_Grant_isActive 15 = .ok (.getfield 22, 3) := by decide +kernel
theorem d_Grant_isActive_18 : decode b_Grant_isActive 18 = .ok (.ifnull 13, 3) := by decide +kernel
theorem d_Grant_isActive_21 : decode b_Grant_isActive 21 = .ok (.aload_n 0, 1) := by decide +kernel
theorem d_Grant_isActive_22 : decode b_Grant_isActive 22 = .ok (.getfield 22, 3) := by decide +kernel
theorem d_Grant_isActive_25 : decode b_Grant_isActive 25 = .ok (.getfield 33, 3) := by decide +kernel
theorem d_Grant_isActive_28 : decode b_Grant_isActive 28 = .ok (.ifCond .ne 15, 3) := by decide +kernel
theorem d_Grant_isActive_31 : decode b_Grant_isActive 31 = .ok (.aload_n 0, 1) := by decide +kernel
theorem d_Grant_isActive_32 : decode b_Grant_isActive 32 = .ok (.getfield 19, 3) := by decide +kernel
theorem d_Grant_isActive_35 : decode b_Grant_isActive 35 = .ok (.iload_n 1, 1) := by decide +kernel
theorem d_Grant_isActive_36 : decode b_Grant_isActive 36 = .ok (.if_icmp .le 7, 3) := by decide +kernel
theorem d_Grant_isActive_39 : decode b_Grant_isActive 39 = .ok (.iconst 1, 1) := by decide +kernel
theorem d_Grant_isActive_40 : decode b_Grant_isActive 40 = .ok (.goto 4, 3) := by decide +kernel
theorem d_Grant_isActive_43 : decode b_Grant_isActive 43 = .ok (.iconst 0, 1) := by decide +kernel
theorem d_Grant_isActive_44 : decode b_Grant_isActive 44 = .ok (.ireturn, 1) := by decide +kernel
theorem d_Shelf_init_0 : decode b_Shelf_init 0 = .ok (.aload_n 0, 1) := by decide +kernel
theorem d_Shelf_init_1 : decode b_Shelf_init 1 = .ok (.invokespecial 1, 3) := by decide +kernel
theorem d_Shelf_init_4 : decode b_Shelf_init 4 = .ok (.aload_n 0, 1) := by decide +kernel
theorem d_Shelf_init_5 : decode b_Shelf_init 5 = .ok (.iconst 0, 1) := by decide +kernel
theorem d_Shelf_init_6 : decode b_Shelf_init 6 = .ok (.putfield 7, 3) := by decide +kernel
theorem d_Shelf_init_9 : decode b_Shelf_init 9 = .ok (.aload_n 0, 1) := by decide +kernel
theorem d_Shelf_init_10 : decode b_Shelf_init 10 = .ok (.iload_n 1, 1) := by decide +kernel
theorem d_Shelf_init_11 : decode b_Shelf_init 11 = .ok (.anewarray 13, 3) := by decide +kernel
theorem d_Shelf_init_14 : decode b_Shelf_init 14 = .ok (.putfield 15, 3) := by decide +kernel
theorem d_Shelf_init_17 : decode b_Shelf_init 17 = .ok (.iconst 0, 1) := by decide +kernel
theorem d_Shelf_init_18 : decode b_Shelf_init 18 = .ok (.istore_n 2, 1) := by decide +kernel
theorem d_Shelf_init_19 : decode b_Shelf_init 19 = .ok (.iload_n 2, 1) := by decide +kernel
theorem d_Shelf_init_20 : decode b_Shelf_init 20 = .ok (.iload_n 1, 1) := by decide +kernel
theorem d_Shelf_init_21 : decode b_Shelf_init 21 = .ok (.if_icmp .ge 22, 3) := by decide +kernel
theorem d_Shelf_init_24 : decode b_Shelf_init 24 = .ok (.aload_n 0, 1) := by decide +kernel
theorem d_Shelf_init_25 : decode b_Shelf_init 25 = .ok (.getfield 15, 3) := by decide +kernel
theorem d_Shelf_init_28 : decode b_Shelf_init 28 = .ok (.iload_n 2, 1) := by decide +kernel
theorem d_Shelf_init_29 : decode b_Shelf_init 29 = .ok (.new 13, 3) := by decide +kernel
theorem d_Shelf_init_32 : decode b_Shelf_init 32 = .ok (.dup, 1) := by decide +kernel
theorem d_Shelf_init_33 : decode b_Shelf_init 33 = .ok (.invokespecial 19, 3) := by decide +kernel
theorem d_Shelf_init_36 : decode b_Shelf_init 36 = .ok (.aastore, 1) := by decide +kernel
theorem d_Shelf_init_37 : decode b_Shelf_init 37 = .ok (.iinc 2 1, 3) := by decide +kernel
theorem d_Shelf_init_40 : decode b_Shelf_init 40 = .ok (.goto (-21), 3) := by decide +kernel
theorem d_Shelf_init_43 : decode b_Shelf_init 43 = .ok (.return_, 1) := by decide +kernel
theorem d_Shelf_rows_0 : decode b_Shelf_rows 0 = .ok (.aload_n 0, 1) := by decide +kernel
theorem d_Shelf_rows_1 : decode b_Shelf_rows 1 = .ok (.getfield 7, 3) := by decide +kernel
theorem d_Shelf_rows_4 : decode b_Shelf_rows 4 = .ok (.ireturn, 1) := by decide +kernel
theorem d_Shelf_isFull_0 : decode b_Shelf_isFull 0 = .ok (.aload_n 0, 1) := by decide +kernel
theorem d_Shelf_isFull_1 : decode b_Shelf_isFull 1 = .ok (.getfield 7, 3) := by decide +kernel
theorem d_Shelf_isFull_4 : decode b_Shelf_isFull 4 = .ok (.aload_n 0, 1) := by decide +kernel
theorem d_Shelf_isFull_5 : decode b_Shelf_isFull 5 = .ok (.getfield 15, 3) := by decide +kernel
theorem d_Shelf_isFull_8 : decode b_Shelf_isFull 8 = .ok (.arraylength, 1) := by decide +kernel
theorem d_Shelf_isFull_9 : decode b_Shelf_isFull 9 = .ok (.if_icmp .lt 7, 3) := by decide +kernel
theorem d_Shelf_isFull_12 : decode b_Shelf_isFull 12 = .ok (.iconst 1, 1) := by decide +kernel
theorem d_Shelf_isFull_13 : decode b_Shelf_isFull 13 = .ok (.goto 4, 3) := by decide +kernel
theorem d_Shelf_isFull_16 : decode b_Shelf_isFull 16 = .ok (.iconst 0, 1) := by decide +kernel
theorem d_Shelf_isFull_17 : decode b_Shelf_isFull 17 = .ok (.ireturn, 1) := by decide +kernel
theorem d_Text_init_0 : decode b_Text_init 0 = .ok (.aload_n 0, 1) := by decide +kernel
theorem d_Text_init_1 : decode b_Text_init 1 = .ok (.invokespecial 3, 3) := by decide +kernel
theorem d_Text_init_4 : decode b_Text_init 4 = .ok (.aload_n 0, 1) := by decide +kernel
theorem d_Text_init_5 : decode b_Text_init 5 = .ok (.bipush 120, 2) := by decide +kernel
theorem d_Text_init_7 : decode b_Text_init 7 = .ok (.newarray .char, 2) := by decide +kernel
theorem d_Text_init_9 : decode b_Text_init 9 = .ok (.putfield 11, 3) := by decide +kernel
theorem d_Text_init_12 : decode b_Text_init 12 = .ok (.aload_n 0, 1) := by decide +kernel
theorem d_Text_init_13 : decode b_Text_init 13 = .ok (.iconst 0, 1) := by decide +kernel
theorem d_Text_init_14 : decode b_Text_init 14 = .ok (.putfield 15, 3) := by decide +kernel
theorem d_Text_init_17 : decode b_Text_init 17 = .ok (.return_, 1) := by decide +kernel
theorem d_Text_size_0 : decode b_Text_size 0 = .ok (.aload_n 0, 1) := by decide +kernel
theorem d_Text_size_1 : decode b_Text_size 1 = .ok (.getfield 15, 3) := by decide +kernel
theorem d_Text_size_4 : decode b_Text_size 4 = .ok (.ireturn, 1) := by decide +kernel
theorem d_Text_codeAt_0 : decode b_Text_codeAt 0 = .ok (.iload_n 1, 1) := by decide +kernel
theorem d_Text_codeAt_1 : decode b_Text_codeAt 1 = .ok (.ifCond .lt 20, 3) := by decide +kernel
theorem d_Text_codeAt_4 : decode b_Text_codeAt 4 = .ok (.iload_n 1, 1) := by decide +kernel
theorem d_Text_codeAt_5 : decode b_Text_codeAt 5 = .ok (.aload_n 0, 1) := by decide +kernel
theorem d_Text_codeAt_6 : decode b_Text_codeAt 6 = .ok (.getfield 15, 3) := by decide +kernel
theorem d_Text_codeAt_9 : decode b_Text_codeAt 9 = .ok (.if_icmp .ge 12, 3) := by decide +kernel
theorem d_Text_codeAt_12 : decode b_Text_codeAt 12 = .ok (.aload_n 0, 1) := by decide +kernel
theorem d_Text_codeAt_13 : decode b_Text_codeAt 13 = .ok (.getfield 11, 3) := by decide +kernel
theorem d_Text_codeAt_16 : decode b_Text_codeAt 16 = .ok (.iload_n 1, 1) := by decide +kernel
theorem d_Text_codeAt_17 : decode b_Text_codeAt 17 = .ok (.caload, 1) := by decide +kernel
theorem d_Text_codeAt_18 : decode b_Text_codeAt 18 = .ok (.goto 4, 3) := by decide +kernel
theorem d_Text_codeAt_21 : decode b_Text_codeAt 21 = .ok (.iconst (-1), 1) := by decide +kernel
theorem d_Text_codeAt_22 : decode b_Text_codeAt 22 = .ok (.ireturn, 1) := by decide +kernel
theorem d_Text_clear_0 : decode b_Text_clear 0 = .ok (.aload_n 0, 1) := by decide +kernel
theorem d_Text_clear_1 : decode b_Text_clear 1 = .ok (.iconst 0, 1) := by decide +kernel
theorem d_Text_clear_2 : decode b_Text_clear 2 = .ok (.putfield 15, 3) := by decide +kernel
theorem d_Text_clear_5 : decode b_Text_clear 5 = .ok (.return_, 1) := by decide +kernel
theorem d_Text_add_0 : decode b_Text_add 0 = .ok (.aload_n 0, 1) := by decide +kernel
theorem d_Text_add_1 : decode b_Text_add 1 = .ok (.getfield 15, 3) := by decide +kernel
theorem d_Text_add_4 : decode b_Text_add 4 = .ok (.bipush 120, 2) := by decide +kernel
theorem d_Text_add_6 : decode b_Text_add 6 = .ok (.if_icmp .lt 5, 3) := by decide +kernel
theorem d_Text_add_9 : decode b_Text_add 9 = .ok (.iconst 0, 1) := by decide +kernel
theorem d_Text_add_10 : decode b_Text_add 10 = .ok (.ireturn, 1) := by decide +kernel
theorem d_Text_add_11 : decode b_Text_add 11 = .ok (.aload_n 0, 1) := by decide +kernel
theorem d_Text_add_12 : decode b_Text_add 12 = .ok (.getfield 11, 3) := by decide +kernel
theorem d_Text_add_15 : decode b_Text_add 15 = .ok (.aload_n 0, 1) := by decide +kernel
theorem d_Text_add_16 : decode b_Text_add 16 = .ok (.getfield 15, 3) := by decide +kernel
theorem d_Text_add_19 : decode b_Text_add 19 = .ok (.iload_n 1, 1) := by decide +kernel
theorem d_Text_add_20 : decode b_Text_add 20 = .ok (.castore, 1) := by decide +kernel
theorem d_Text_add_21 : decode b_Text_add 21 = .ok (.aload_n 0, 1) := by decide +kernel
theorem d_Text_add_22 : decode b_Text_add 22 = .ok (.dup, 1) := by decide +kernel
theorem d_Text_add_23 : decode b_Text_add 23 = .ok (.getfield 15, 3) := by decide +kernel
theorem d_Text_add_26 : decode b_Text_add 26 = .ok (.iconst 1, 1) := by decide +kernel
theorem d_Text_add_27 : decode b_Text_add 27 = .ok (.iadd, 1) := by decide +kernel
theorem d_Text_add_28 : decode b_Text_add 28 = .ok (.putfield 15, 3) := by decide +kernel
theorem d_Text_add_31 : decode b_Text_add 31 = .ok (.iconst 1, 1) := by decide +kernel
theorem d_Text_add_32 : decode b_Text_add 32 = .ok (.ireturn, 1) := by decide +kernel
theorem d_Text_put_0 : decode b_Text_put 0 = .ok (.iload_n 1, 1) := by decide +kernel
theorem d_Text_put_1 : decode b_Text_put 1 = .ok (.ifCond .lt 11, 3) := by decide +kernel
theorem d_Text_put_4 : decode b_Text_put 4 = .ok (.iload_n 1, 1) := by decide +kernel
theorem d_Text_put_5 : decode b_Text_put 5 = .ok (.aload_n 0, 1) := by decide +kernel
theorem d_Text_put_6 : decode b_Text_put 6 = .ok (.getfield 15, 3) := by decide +kernel
theorem d_Text_put_9 : decode b_Text_put 9 = .ok (.if_icmp .lt 5, 3) := by decide +kernel
theorem d_Text_put_12 : decode b_Text_put 12 = .ok (.iconst 0, 1) := by decide +kernel
theorem d_Text_put_13 : decode b_Text_put 13 = .ok (.ireturn, 1) := by decide +kernel
theorem d_Text_put_14 : decode b_Text_put 14 = .ok (.aload_n 0, 1) := by decide +kernel
theorem d_Text_put_15 : decode b_Text_put 15 = .ok (.getfield 11, 3) := by decide +kernel
theorem d_Text_put_18 : decode b_Text_put 18 = .ok (.iload_n 1, 1) := by decide +kernel
theorem d_Text_put_19 : decode b_Text_put 19 = .ok (.iload_n 2, 1) := by decide +kernel
theorem d_Text_put_20 : decode b_Text_put 20 = .ok (.castore, 1) := by decide +kernel
theorem d_Text_put_21 : decode b_Text_put 21 = .ok (.iconst 1, 1) := by decide +kernel
theorem d_Text_put_22 : decode b_Text_put 22 = .ok (.ireturn, 1) := by decide +kernel
theorem d_Wrapping_init_0 : decode b_Wrapping_init 0 = .ok (.aload_n 0, 1) := by decide +kernel
theorem d_Wrapping_init_1 : decode b_Wrapping_init 1 = .ok (.invokespecial 3, 3) := by decide +kernel
theorem d_Wrapping_init_4 : decode b_Wrapping_init 4 = .ok (.aload_n 0, 1) := by decide +kernel
theorem d_Wrapping_init_5 : decode b_Wrapping_init 5 = .ok (.iload_n 1, 1) := by decide +kernel
theorem d_Wrapping_init_6 : decode b_Wrapping_init 6 = .ok (.putfield 9, 3) := by decide +kernel
theorem d_Wrapping_init_9 : decode b_Wrapping_init 9 = .ok (.return_, 1) := by decide +kernel
theorem d_ClaimsReader_init_0 : decode b_ClaimsReader_init 0 = .ok (.aload_n 0, 1) := by decide +kernel
theorem d_ClaimsReader_init_1 : decode b_ClaimsReader_init 1 = .ok (.invokespecial 3, 3) := by decide +kernel
theorem d_ClaimsReader_init_4 : decode b_ClaimsReader_init 4 = .ok (.aload_n 0, 1) := by decide +kernel
theorem d_ClaimsReader_init_5 : decode b_ClaimsReader_init 5 = .ok (.iconst 5, 1) := by decide +kernel
theorem d_ClaimsReader_init_6 : decode b_ClaimsReader_init 6 = .ok (.newarray .int, 2) := by decide +kernel
theorem d_ClaimsReader_init_8 : decode b_ClaimsReader_init 8 = .ok (.putfield 11, 3) := by decide +kernel
theorem d_ClaimsReader_init_11 : decode b_ClaimsReader_init 11 = .ok (.aload_n 0, 1) := by decide +kernel
theorem d_ClaimsReader_init_12 : decode b_ClaimsReader_init 12 = .ok (.iconst 5, 1) := by decide +kernel
theorem d_ClaimsReader_init_13 : decode b_ClaimsReader_init 13 = .ok (.newarray .boolean, 2) := by decide +kernel
theorem d_ClaimsReader_init_15 : decode b_ClaimsReader_init 15 = .ok (.putfield 15, 3) := by decide +kernel
theorem d_ClaimsReader_init_18 : decode b_ClaimsReader_init 18 = .ok (.aload_n 0, 1) := by decide +kernel
theorem d_ClaimsReader_init_19 : decode b_ClaimsReader_init 19 = .ok (.iconst 0, 1) := by decide +kernel
theorem d_ClaimsReader_init_20 : decode b_ClaimsReader_init 20 = .ok (.putfield 19, 3) := by decide +kernel
theorem d_ClaimsReader_init_23 : decode b_ClaimsReader_init 23 = .ok (.return_, 1) := by decide +kernel
set_option maxRecDepth 20000 in
theorem fF_ClaimsReader_11 : hm_flF vwCl TB R_ClaimsReader 11 7 0 (.array .int) := ⟨_, _, _, _, cl_ClaimsReader, by decide, (TBm 144 (by decide +kernel) rfl), rfl, rfl, rfl⟩
set_option maxRecDepth 20000 in
theorem fF_ClaimsReader_15 : hm_flF vwCl TB R_ClaimsReader 15 7 1 (.array .boolean) := ⟨_, _, _, _, cl_ClaimsReader, by decide, (TBm 145 (by decide +kernel) rfl), rfl, rfl, rfl⟩
set_option maxRecDepth 20000 in
theorem fF_Client_13 : hm_flF vwCl TB R_Client 13 1 1 .int := ⟨_, _, _, _, cl_Client, by decide, (TBm 238 (by decide +kernel) rfl), rfl, rfl, rfl⟩
set_option maxRecDepth 20000 in
theorem fF_Client_16 : hm_flF vwCl TB R_Client 16 1 2 .int := ⟨_, _, _, _, cl_Client, by decide, (TBm 240 (by decide +kernel) rfl), rfl, rfl, rfl⟩
set_option maxRecDepth 20000 in
theorem fF_Client_7 : hm_flF vwCl TB R_Client 7 1 0 .int := ⟨_, _, _, _, cl_Client, by decide, (TBm 236 (by decide +kernel) rfl), rfl, rfl, rfl⟩
set_option maxRecDepth 20000 in
theorem fF_Family_13 : hm_flF vwCl TB R_Family 13 2 0 .int := ⟨_, _, _, _, cl_Family, by decide, (TBm 320 (by decide +kernel) rfl), rfl, rfl, rfl⟩
set_option maxRecDepth 20000 in
theorem fF_Family_17 : hm_flF vwCl TB R_Family 17 2 1 .int := ⟨_, _, _, _, cl_Family, by decide, (TBm 322 (by decide +kernel) rfl), rfl, rfl, rfl⟩
set_option maxRecDepth 20000 in
theorem fF_Shelf_15 : hm_flF vwCl TB R_Shelf 15 4 0 (.array (.object "GrantServer$Grant")) := ⟨_, _, _, _, cl_Shelf, by decide, (TBm 117 (by decide +kernel) rfl), rfl, rfl, rfl⟩
set_option maxRecDepth 20000 in
theorem fF_Text_11 : hm_flF vwCl TB R_Text 11 5 0 (.array .char) := ⟨_, _, _, _, cl_Text, by decide, (TBm 130 (by decide +kernel) rfl), rfl, rfl, rfl⟩
set_option maxRecDepth 20000 in
theorem fF_Wrapping_9 : hm_flF vwCl TB R_Wrapping 9 6 0 .int := ⟨_, _, _, _, cl_Wrapping, by decide, (TBm 162 (by decide +kernel) rfl), rfl, rfl, rfl⟩
set_option maxRecDepth 20000 in
theorem fl_ClaimsReader_19 : hm_fl vwCl TB R_ClaimsReader 19 7 2 false .int := ⟨_, _, _, _, cl_ClaimsReader, by decide, (TBm 146 (by decide +kernel) rfl), rfl, rfl⟩
set_option maxRecDepth 20000 in
theorem fl_Family_7 : hm_fl vwCl TB R_Family 7 2 2 false .boolean := ⟨_, _, _, _, cl_Family, by decide, (TBm 324 (by decide +kernel) rfl), rfl, rfl⟩
set_option maxRecDepth 20000 in
theorem fl_Grant_13 : hm_fl vwCl TB R_Grant 13 3 1 false .int := ⟨_, _, _, _, cl_Grant, by decide, (TBm 82 (by decide +kernel) rfl), rfl, rfl⟩
set_option maxRecDepth 20000 in
theorem fl_Grant_16 : hm_fl vwCl TB R_Grant 16 3 2 false .int := ⟨_, _, _, _, cl_Grant, by decide, (TBm 85 (by decide +kernel) rfl), rfl, rfl⟩
set_option maxRecDepth 20000 in
theorem fl_Grant_19 : hm_fl vwCl TB R_Grant 19 3 3 false .int := ⟨_, _, _, _, cl_Grant, by decide, (TBm 87 (by decide +kernel) rfl), rfl, rfl⟩
set_option maxRecDepth 20000 in
theorem fl_Grant_22 : hm_fl vwCl TB R_Grant 22 3 8 false (.object "GrantServer$Family") := ⟨_, _, _, _, cl_Grant, by decide, (TBm 96 (by decide +kernel) rfl), rfl, rfl⟩
set_option maxRecDepth 20000 in
theorem fl_Grant_26 : hm_fl vwCl TB R_Grant 26 3 6 false .boolean := ⟨_, _, _, _, cl_Grant, by decide, (TBm 92 (by decide +kernel) rfl), rfl, rfl⟩
set_option maxRecDepth 20000 in
theorem fl_Grant_30 : hm_fl vwCl TB R_Grant 30 3 7 false .boolean := ⟨_, _, _, _, cl_Grant, by decide, (TBm 94 (by decide +kernel) rfl), rfl, rfl⟩
set_option maxRecDepth 20000 in
theorem fl_Grant_33 : hm_fl vwCl TB R_Grant 33 2 2 false .boolean := ⟨_, _, _, _, cl_Family, by decide, (TBm 325 (by decide +kernel) rfl), rfl, rfl⟩
set_option maxRecDepth 20000 in
theorem fl_Grant_7 : hm_fl vwCl TB R_Grant 7 3 0 false .int := ⟨_, _, _, _, cl_Grant, by decide, (TBm 79 (by decide +kernel) rfl), rfl, rfl⟩
set_option maxRecDepth 20000 in
theorem fl_Shelf_15 : hm_fl vwCl TB R_Shelf 15 4 0 true (.array (.object "GrantServer$Grant")) := ⟨_, _, _, _, cl_Shelf, by decide, (TBm 117 (by decide +kernel) rfl), rfl, rfl⟩
set_option maxRecDepth 20000 in
theorem fl_Shelf_7 : hm_fl vwCl TB R_Shelf 7 4 1 false .int := ⟨_, _, _, _, cl_Shelf, by decide, (TBm 118 (by decide +kernel) rfl), rfl, rfl⟩
set_option maxRecDepth 20000 in
theorem fl_Text_11 : hm_fl vwCl TB R_Text 11 5 0 true (.array .char) := ⟨_, _, _, _, cl_Text, by decide, (TBm 130 (by decide +kernel) rfl), rfl, rfl⟩
set_option maxRecDepth 20000 in
theorem fl_Text_15 : hm_fl vwCl TB R_Text 15 5 1 false .int := ⟨_, _, _, _, cl_Text, by decide, (TBm 131 (by decide +kernel) rfl), rfl, rfl⟩
set_option maxRecDepth 20000 in
theorem me_Grant_init : hm_meI y_Grant_init b_Grant_init 1 0 := ⟨⟨(TBm 77 rfl rfl), (TBm 42 (by decide +kernel) rfl), by decide +kernel⟩, (TBm 76 (by decide +kernel) rfl), rfl⟩
set_option maxRecDepth 20000 in
theorem nw_Shelf_13 : hm_nw vwCl TB R_Shelf 13 3 9 [.int 0, .int 0, .int 0, .int 0, .int 0, .int 0, .int 0, .int 0, .null] := ⟨_, _, _, cl_Grant, (TBm 72 (by decide +kernel) rfl), (TBm 74 (by decide +kernel) rfl), (TBm 42 (by decide +kernel) rfl), by decide +kernel⟩
set_option maxRecDepth 20000 in
theorem wa_0 : Cond.arrayClass .int ∈ TB := TBm 154 (by decide +kernel) rfl
set_option maxRecDepth 20000 in
theorem wa_1 : Cond.arrayClass .boolean ∈ TB := TBm 155 (by decide +kernel) rfl
set_option maxRecDepth 20000 in
theorem wa_2 : Cond.arrayClass .char ∈ TB := TBm 137 (by decide +kernel) rfl
set_option maxRecDepth 20000 in
theorem wd_JObject_init : Cond.code objectInit ⟨#[0xb1]⟩ 1 none ∈ TB := TBm 63 rfl rfl
set_option maxRecDepth 20000 in
theorem wd_Mmax : Cond.code Lib.Math.max.name Lib.Math.max.code 2 (some .int) ∈ TB := TBm 174 (by decide +kernel) rfl
set_option maxRecDepth 20000 in
theorem wd_Mmin : Cond.code Lib.Math.min.name Lib.Math.min.code 2 (some .int) ∈ TB := TBm 171 (by decide +kernel) rfl
set_option maxRecDepth 20000 in
theorem wi_JObject_init : Cond.instanceMethod objectInit ∈ TB := TBm 62 (by decide +kernel) rfl
set_option maxRecDepth 20000 in
theorem wk_Shelf_13 : Cond.classLink R_Shelf 13 "GrantServer$Grant" ∈ TB := TBm 72 (by decide +kernel) rfl
set_option maxRecDepth 20000 in
theorem wl_ClaimsReader_3 : Cond.methodLink R_ClaimsReader 3 objectInit ∈ TB := TBm 143 (by decide +kernel) rfl
set_option maxRecDepth 20000 in
theorem wl_Client_1 : Cond.methodLink R_Client 1 objectInit ∈ TB := TBm 235 (by decide +kernel) rfl
set_option maxRecDepth 20000 in
theorem wl_Family_1 : Cond.methodLink R_Family 1 objectInit ∈ TB := TBm 319 (by decide +kernel) rfl
set_option maxRecDepth 20000 in
theorem wl_GrantServer_243 : Cond.methodLink R_GrantServer 243 Lib.Math.min.name ∈ TB := TBm 169 (by decide +kernel) rfl
set_option maxRecDepth 20000 in
theorem wl_GrantServer_248 : Cond.methodLink R_GrantServer 248 Lib.Math.max.name ∈ TB := TBm 172 (by decide +kernel) rfl
set_option maxRecDepth 20000 in
theorem wl_Grant_1 : Cond.methodLink R_Grant 1 objectInit ∈ TB := TBm 78 (by decide +kernel) rfl
set_option maxRecDepth 20000 in
theorem wl_Shelf_1 : Cond.methodLink R_Shelf 1 objectInit ∈ TB := TBm 71 (by decide +kernel) rfl
set_option maxRecDepth 20000 in
theorem wl_Shelf_19 : Cond.methodLink R_Shelf 19 y_Grant_init ∈ TB := TBm 75 (by decide +kernel) rfl
set_option maxRecDepth 20000 in
theorem wl_Text_3 : Cond.methodLink R_Text 3 objectInit ∈ TB := TBm 129 (by decide +kernel) rfl
set_option maxRecDepth 20000 in
theorem wl_Wrapping_3 : Cond.methodLink R_Wrapping 3 objectInit ∈ TB := TBm 161 (by decide +kernel) rfl
set_option maxRecDepth 20000 in
theorem wn_Math : Cond.initialized "java/lang/Math" ∈ TB := TBm 46 (by decide +kernel) rfl
set_option maxRecDepth 20000 in
theorem ws_Mmax : Cond.static Lib.Math.max.name ∈ TB := TBm 173 (by decide +kernel) rfl
set_option maxRecDepth 20000 in
theorem ws_Mmin : Cond.static Lib.Math.min.name ∈ TB := TBm 170 (by decide +kernel) rfl
set_option maxHeartbeats 4000000 in
set_option maxRecDepth 100000 in
theorem c_Client_init (l : Launch) (D : va_G) (k : Nat → ClassId) (f : hm) (h : Nat) (a : Int32) (b : Int32) (d : Int32) (hh : f h = some (.inr (1, [.int 0, .int 0, .int 0]))) : hm_Mv l D vwCl (tyL k) y_Client_init (Cond.code y_Client_init b_Client_init 4 none :: TB) ({ frames := 1, cells := 0, slots := 0, locals := 20 }) [.ref h, .int a, .int b, .int d] f (fun (f1 : hm) => f1 h = some (.inr (1, [.int a, .int b, .int d])) ∧ ∀ (zq : Nat) (zx : va_E), zq ≠ h → f zq = some zx → f1 zq = some zx) 0 0 := by
  refine hm_enter (Qc := fun sz => va_Qv _ (hm_R D vwCl (tyL k) f sz) (hm_A f sz)) (by decide) rfl (Nat.le_of_ble_eq_true rfl) ?_
  intro p e s m below meth cd ls X0 hr hlk hin hK hM hS hA hl Q hQ
  have X : CallFix p m cd b_Client_init 4 s ([.ref h, .int a, .int b, .int d] : List Value).toArray TB R_Client := ⟨X0.1, X0.2.1, X0.2.2.1, X0.2.2.2.1, fun w h => X0.2.2.2.2 w (List.mem_cons_of_mem _ h)⟩
  have hx := X.1; have hb := X.2.1; have hml := X.2.2.1; have hown := X.2.2.2.1; have hts := X.2.2.2.2
  have hl : lv_has ls 4 [(0, .ref h), (1, .int a), (2, .int b), (3, .int d)] := hl
  refine lv_aload_n hx hb d_Client_init_0 rfl (lv_at hl 0 rfl) ?_
  refine W.objInit hx hb hown (hts _ wl_Client_1) (hts _ wi_JObject_init) (hts _ wd_JObject_init) rfl (by rw [hml]; exact hl.1) rfl d_Client_init_1 (Nat.le_of_ble_eq_true rfl) (Nat.le_of_ble_eq_true rfl) ?_
  refine W.eq (g2 := F0 m 4 ls []) rfl ?_
  refine lv_aload_n hx hb d_Client_init_4 rfl (lv_at hl 0 rfl) ?_
  refine lv_iload_n hx hb d_Client_init_5 rfl (lv_at hl 1 rfl) ?_
  refine hm_putF X hK hM hS (fs' := [.int a, .int 0, .int 0]) hh fF_Client_7 hin rfl rfl (Nat.le_of_ble_eq_true rfl) rfl d_Client_init_6 (fun f1 H locs e2 hM hS => ?_)
  refine lv_aload_n hx hb d_Client_init_9 rfl (lv_at hl 0 rfl) ?_
  refine lv_iload_n hx hb d_Client_init_10 rfl (lv_at hl 2 rfl) ?_
  have g3 : f1 h = some (.inr (1, [.int a, .int 0, .int 0])) := by rw [e2, hm_up_s]
  refine hm_putF X hK hM hS (fs' := [.int a, .int b, .int 0]) g3 fF_Client_13 hin rfl rfl (Nat.le_of_ble_eq_true rfl) rfl d_Client_init_11 (fun f4 H locs e5 hM hS => ?_)
  refine lv_aload_n hx hb d_Client_init_14 rfl (lv_at hl 0 rfl) ?_
  refine lv_iload_n hx hb d_Client_init_15 rfl (lv_at hl 3 rfl) ?_
  have g6 : f4 h = some (.inr (1, [.int a, .int b, .int 0])) := by rw [e5, hm_up_s]
  refine hm_putF X hK hM hS (fs' := [.int a, .int b, .int d]) g6 fF_Client_16 hin rfl rfl (Nat.le_of_ble_eq_true rfl) rfl d_Client_init_16 (fun f7 H locs e8 hM hS => ?_)
  have g9 : f7 h = some (.inr (1, [.int a, .int b, .int d])) := by rw [e8, hm_up_s]
  exact hm_vret X hQ hr hlk hK hM hS d_Client_init_19 ⟨g9, (fun zq zx n0 hq => by have t0 := hq; have t1 := hm_keep e2 n0 t0; have t2 := hm_keep e5 n0 t1; have t3 := hm_keep e8 n0 t2; exact t3)⟩
set_option maxHeartbeats 4000000 in
set_option maxRecDepth 100000 in
theorem c_Family_init (l : Launch) (D : va_G) (k : Nat → ClassId) (f : hm) (h : Nat) (a : Int32) (b : Int32) (hh : f h = some (.inr (2, [.int 0, .int 0, .int 0]))) : hm_Mv l D vwCl (tyL k) y_Family_init (Cond.code y_Family_init b_Family_init 3 none :: TB) ({ frames := 1, cells := 0, slots := 0, locals := 20 }) [.ref h, .int a, .int b] f (fun (f1 : hm) => f1 h = some (.inr (2, [.int a, .int b, .int 0])) ∧ ∀ (zq : Nat) (zx : va_E), zq ≠ h → f zq = some zx → f1 zq = some zx) 0 0 := by
  refine hm_enter (Qc := fun sz => va_Qv _ (hm_R D vwCl (tyL k) f sz) (hm_A f sz)) (by decide) rfl (Nat.le_of_ble_eq_true rfl) ?_
  intro p e s m below meth cd ls X0 hr hlk hin hK hM hS hA hl Q hQ
  have X : CallFix p m cd b_Family_init 3 s ([.ref h, .int a, .int b] : List Value).toArray TB R_Family := ⟨X0.1, X0.2.1, X0.2.2.1, X0.2.2.2.1, fun w h => X0.2.2.2.2 w (List.mem_cons_of_mem _ h)⟩
  have hx := X.1; have hb := X.2.1; have hml := X.2.2.1; have hown := X.2.2.2.1; have hts := X.2.2.2.2
  have hl : lv_has ls 3 [(0, .ref h), (1, .int a), (2, .int b)] := hl
  refine lv_aload_n hx hb d_Family_init_0 rfl (lv_at hl 0 rfl) ?_
  refine W.objInit hx hb hown (hts _ wl_Family_1) (hts _ wi_JObject_init) (hts _ wd_JObject_init) rfl (by rw [hml]; exact hl.1) rfl d_Family_init_1 (Nat.le_of_ble_eq_true rfl) (Nat.le_of_ble_eq_true rfl) ?_
  refine W.eq (g2 := F0 m 4 ls []) rfl ?_
  refine lv_aload_n hx hb d_Family_init_4 rfl (lv_at hl 0 rfl) ?_
  refine lv_iconst (v := 0) hx hb d_Family_init_5 (by decide) ?_
  refine hm_put X hK hM hS (fs' := [.int 0, .int 0, .int 0]) hh fl_Family_7 rfl rfl (Nat.le_of_ble_eq_true rfl) rfl d_Family_init_6 (fun f1 H locs e2 hM hS => ?_)
  refine lv_aload_n hx hb d_Family_init_9 rfl (lv_at hl 0 rfl) ?_
  refine lv_iload_n hx hb d_Family_init_10 rfl (lv_at hl 1 rfl) ?_
  have g3 : f1 h = some (.inr (2, [.int 0, .int 0, .int 0])) := by rw [e2, hm_up_s]
  refine hm_putF X hK hM hS (fs' := [.int a, .int 0, .int 0]) g3 fF_Family_13 hin rfl rfl (Nat.le_of_ble_eq_true rfl) rfl d_Family_init_11 (fun f4 H locs e5 hM hS => ?_)
  refine lv_aload_n hx hb d_Family_init_14 rfl (lv_at hl 0 rfl) ?_
  refine lv_iload_n hx hb d_Family_init_15 rfl (lv_at hl 2 rfl) ?_
  have g6 : f4 h = some (.inr (2, [.int a, .int 0, .int 0])) := by rw [e5, hm_up_s]
  refine hm_putF X hK hM hS (fs' := [.int a, .int b, .int 0]) g6 fF_Family_17 hin rfl rfl (Nat.le_of_ble_eq_true rfl) rfl d_Family_init_16 (fun f7 H locs e8 hM hS => ?_)
  have g9 : f7 h = some (.inr (2, [.int a, .int b, .int 0])) := by rw [e8, hm_up_s]
  exact hm_vret X hQ hr hlk hK hM hS d_Family_init_19 ⟨g9, (fun zq zx n0 hq => by have t0 := hq; have t1 := hm_keep e2 n0 t0; have t2 := hm_keep e5 n0 t1; have t3 := hm_keep e8 n0 t2; exact t3)⟩
set_option maxHeartbeats 4000000 in
set_option maxRecDepth 100000 in
theorem c_Grant_init (l : Launch) (D : va_G) (k : Nat → ClassId) (f : hm) (h : Nat) : hm_Mv l D vwCl (tyL k) y_Grant_init (Cond.code y_Grant_init b_Grant_init 1 none :: TB) ({ frames := 1, cells := 0, slots := 0, locals := 20 }) [.ref h] f (fun (f1 : hm) => f = f1) 0 0 := by
  refine hm_enter (Qc := fun sz => va_Qv _ (hm_R D vwCl (tyL k) f sz) (hm_A f sz)) (by decide) rfl (Nat.le_of_ble_eq_true rfl) ?_
  intro p e s m below meth cd ls X0 hr hlk hin hK hM hS hA hl Q hQ
  have X : CallFix p m cd b_Grant_init 1 s ([.ref h] : List Value).toArray TB R_Grant := ⟨X0.1, X0.2.1, X0.2.2.1, X0.2.2.2.1, fun w h => X0.2.2.2.2 w (List.mem_cons_of_mem _ h)⟩
  have hx := X.1; have hb := X.2.1; have hml := X.2.2.1; have hown := X.2.2.2.1; have hts := X.2.2.2.2
  have hl : lv_has ls 1 [(0, .ref h)] := hl
  refine lv_aload_n hx hb d_Grant_init_0 rfl (lv_at hl 0 rfl) ?_
  refine W.objInit hx hb hown (hts _ wl_Grant_1) (hts _ wi_JObject_init) (hts _ wd_JObject_init) rfl (by rw [hml]; exact hl.1) rfl d_Grant_init_1 (Nat.le_of_ble_eq_true rfl) (Nat.le_of_ble_eq_true rfl) ?_
  refine W.eq (g2 := F0 m 4 ls []) rfl ?_
  exact hm_vret X hQ hr hlk hK hM hS d_Grant_init_4 rfl
set_option maxHeartbeats 4000000 in
set_option maxRecDepth 100000 in
theorem c_Text_init (l : Launch) (D : va_G) (k : Nat → ClassId) (f : hm) (h : Nat) (hh : f h = some (.inr (5, [.null, .int 0]))) : hm_Mv l D vwCl (tyL k) y_Text_init (Cond.code y_Text_init b_Text_init 1 none :: TB) ({ frames := 1, cells := 1, slots := 120, locals := 20 }) [.ref h] f (fun (f1 : hm) => ∃ (a : Nat), f a = none ∧ f1 h = some (.inr (5, [.ref a, .int 0])) ∧ f1 a = some (.inl (k 2, 120, .inl (fun _ => 0))) ∧ ∀ (zq : Nat) (zx : va_E), zq ≠ h → f zq = some zx → f1 zq = some zx) 1 120 := by
  refine hm_enter (Qc := fun sz => va_Qv _ (hm_R D vwCl (tyL k) f sz) (hm_A f sz)) (by decide) rfl (Nat.le_of_ble_eq_true rfl) ?_
  intro p e s m below meth cd ls X0 hr hlk hin hK hM hS hA hl Q hQ
  have X : CallFix p m cd b_Text_init 1 s ([.ref h] : List Value).toArray TB R_Text := ⟨X0.1, X0.2.1, X0.2.2.1, X0.2.2.2.1, fun w h => X0.2.2.2.2 w (List.mem_cons_of_mem _ h)⟩
  have hx := X.1; have hb := X.2.1; have hml := X.2.2.1; have hown := X.2.2.2.1; have hts := X.2.2.2.2
  have hl : lv_has ls 1 [(0, .ref h)] := hl
  refine lv_aload_n hx hb d_Text_init_0 rfl (lv_at hl 0 rfl) ?_
  refine W.objInit hx hb hown (hts _ wl_Text_3) (hts _ wi_JObject_init) (hts _ wd_JObject_init) rfl (by rw [hml]; exact hl.1) rfl d_Text_init_1 (Nat.le_of_ble_eq_true rfl) (Nat.le_of_ble_eq_true rfl) ?_
  refine W.eq (g2 := F0 m 4 ls []) rfl ?_
  refine lv_aload_n hx hb d_Text_init_4 rfl (lv_at hl 0 rfl) ?_
  refine lv_bipush (v := 120) hx hb d_Text_init_5 (by decide) ?_
  refine hm_newa (atype := .char) (ty := .char) X hK hM hS hA rfl wa_2 2 rfl (N' := 120) (a0 := (120, .inl (fun _ => 0))) (fun _ => rfl) (by decide) (by decide) (by decide) (by decide) (by decide) d_Text_init_7 (fun q1 f2 H e3 z4 hM hS => ?_)
  have g5 : f2 q1 = some (.inl (k 2, 120, .inl (fun _ => 0))) := hm_new1 e3
  have g6 : f2 h = some (.inr (5, [.null, .int 0])) := by rw [e3, hm_up_n (hm_ne0 hh z4)]; exact hh
  refine hm_putF X hK hM hS (fs' := [.ref q1, .int 0]) g6 fF_Text_11 hin rfl rfl (Nat.le_of_ble_eq_true rfl) rfl d_Text_init_9 (fun f7 H locs e8 hM hS => ?_)
  refine lv_aload_n hx hb d_Text_init_12 rfl (lv_at hl 0 rfl) ?_
  refine lv_iconst (v := 0) hx hb d_Text_init_13 (by decide) ?_
  have g9 : f7 h = some (.inr (5, [.ref q1, .int 0])) := by rw [e8, hm_up_s]
  refine hm_put X hK hM hS (fs' := [.ref q1, .int 0]) g9 fl_Text_15 rfl rfl (Nat.le_of_ble_eq_true rfl) rfl d_Text_init_14 (fun f10 H locs e11 hM hS => ?_)
  have g12 : f10 h = some (.inr (5, [.ref q1, .int 0])) := by rw [e11, hm_up_s]
  have g13 : f7 q1 = some (.inl (k 2, 120, .inl (fun _ => 0))) := by rw [e8, hm_up_n ((hm_ne0 hh z4).symm)]; exact g5
  have g14 : f10 q1 = some (.inl (k 2, 120, .inl (fun _ => 0))) := by rw [e11, hm_up_n ((hm_ne0 hh z4).symm)]; exact g13
  exact hm_vret X hQ hr hlk hK hM hS d_Text_init_17 ⟨q1, z4, g12, g14, (fun zq zx n0 hq => by have t0 := hq; have u1 := hm_ne0 t0 z4; have t1 := hm_keep e3 u1 t0; have t2 := hm_keep e8 n0 t1; have t3 := hm_keep e11 n0 t2; exact t3)⟩
set_option maxHeartbeats 4000000 in
set_option maxRecDepth 100000 in
theorem c_Reader_init (l : Launch) (D : va_G) (k : Nat → ClassId) (f : hm) (h : Nat) (hh : f h = some (.inr (7, [.null, .null, .int 0]))) : hm_Mv l D vwCl (tyL k) y_ClaimsReader_init (Cond.code y_ClaimsReader_init b_ClaimsReader_init 1 none :: TB) ({ frames := 1, cells := 2, slots := 10, locals := 20 }) [.ref h] f (fun (f1 : hm) => ∃ (a : Nat) (b : Nat), f a = none ∧ f b = none ∧ (a ≠ b) ∧ f1 h = some (.inr (7, [.ref a, .ref b, .int 0])) ∧ f1 a = some (.inl (k 0, 5, .inl (fun _ => 0))) ∧ f1 b = some (.inl (k 1, 5, .inl (fun _ => 0))) ∧ ∀ (zq : Nat) (zx : va_E), zq ≠ h → f zq = some zx → f1 zq = some zx) 2 10 := by
  refine hm_enter (Qc := fun sz => va_Qv _ (hm_R D vwCl (tyL k) f sz) (hm_A f sz)) (by decide) rfl (Nat.le_of_ble_eq_true rfl) ?_
  intro p e s m below meth cd ls X0 hr hlk hin hK hM hS hA hl Q hQ
  have X : CallFix p m cd b_ClaimsReader_init 1 s ([.ref h] : List Value).toArray TB R_ClaimsReader := ⟨X0.1, X0.2.1, X0.2.2.1, X0.2.2.2.1, fun w h => X0.2.2.2.2 w (List.mem_cons_of_mem _ h)⟩
  have hx := X.1; have hb := X.2.1; have hml := X.2.2.1; have hown := X.2.2.2.1; have hts := X.2.2.2.2
  have hl : lv_has ls 1 [(0, .ref h)] := hl
  refine lv_aload_n hx hb d_ClaimsReader_init_0 rfl (lv_at hl 0 rfl) ?_
  refine W.objInit hx hb hown (hts _ wl_ClaimsReader_3) (hts _ wi_JObject_init) (hts _ wd_JObject_init) rfl (by rw [hml]; exact hl.1) rfl d_ClaimsReader_init_1 (Nat.le_of_ble_eq_true rfl) (Nat.le_of_ble_eq_true rfl) ?_
  refine W.eq (g2 := F0 m 4 ls []) rfl ?_
  refine lv_aload_n hx hb d_ClaimsReader_init_4 rfl (lv_at hl 0 rfl) ?_
  refine lv_iconst (v := 5) hx hb d_ClaimsReader_init_5 (by decide) ?_
  refine hm_newa (atype := .int) (ty := .int) X hK hM hS hA rfl wa_0 0 rfl (N' := 5) (a0 := (5, .inl (fun _ => 0))) (fun _ => rfl) (by decide) (by decide) (by decide) (by decide) (by decide) d_ClaimsReader_init_6 (fun q1 f2 H e3 z4 hM hS => ?_)
  have g5 : f2 q1 = some (.inl (k 0, 5, .inl (fun _ => 0))) := hm_new1 e3
  have g6 : f2 h = some (.inr (7, [.null, .null, .int 0])) := by rw [e3, hm_up_n (hm_ne0 hh z4)]; exact hh
  refine hm_putF X hK hM hS (fs' := [.ref q1, .null, .int 0]) g6 fF_ClaimsReader_11 hin rfl rfl (Nat.le_of_ble_eq_true rfl) rfl d_ClaimsReader_init_8 (fun f7 H locs e8 hM hS => ?_)
  refine lv_aload_n hx hb d_ClaimsReader_init_11 rfl (lv_at hl 0 rfl) ?_
  refine lv_iconst (v := 5) hx hb d_ClaimsReader_init_12 (by decide) ?_
  have g13 : f7 h = some (.inr (7, [.ref q1, .null, .int 0])) := by rw [e8, hm_up_s]
  have g14 : f7 q1 = some (.inl (k 0, 5, .inl (fun _ => 0))) := by rw [e8, hm_up_n ((hm_ne0 hh z4).symm)]; exact g5
  refine hm_newa (atype := .boolean) (ty := .boolean) X hK hM hS hA rfl wa_1 1 rfl (N' := 5) (a0 := (5, .inl (fun _ => 0))) (fun _ => rfl) (by decide) (by decide) (by decide) (by decide) (by decide) d_ClaimsReader_init_13 (fun q9 f10 H e11 z12 hM hS => ?_)
  have g15 : f10 q9 = some (.inl (k 1, 5, .inl (fun _ => 0))) := hm_new1 e11
  have g16 : f10 h = some (.inr (7, [.ref q1, .null, .int 0])) := by rw [e11, hm_up_n (hm_ne0 g13 z12)]; exact g13
  refine hm_putF X hK hM hS (fs' := [.ref q1, .ref q9, .int 0]) g16 fF_ClaimsReader_15 hin rfl rfl (Nat.le_of_ble_eq_true rfl) rfl d_ClaimsReader_init_15 (fun f17 H locs e18 hM hS => ?_)
  refine lv_aload_n hx hb d_ClaimsReader_init_18 rfl (lv_at hl 0 rfl) ?_
  refine lv_iconst (v := 0) hx hb d_ClaimsReader_init_19 (by decide) ?_
  have g19 : f17 h = some (.inr (7, [.ref q1, .ref q9, .int 0])) := by rw [e18, hm_up_s]
  refine hm_put X hK hM hS (fs' := [.ref q1, .ref q9, .int 0]) g19 fl_ClaimsReader_19 rfl rfl (Nat.le_of_ble_eq_true rfl) rfl d_ClaimsReader_init_20 (fun f20 H locs e21 hM hS => ?_)
  have g22 : f20 h = some (.inr (7, [.ref q1, .ref q9, .int 0])) := by rw [e21, hm_up_s]
  have g23 : f10 q1 = some (.inl (k 0, 5, .inl (fun _ => 0))) := by rw [e11, hm_up_n (hm_ne0 g14 z12)]; exact g14
  have g24 : f17 q1 = some (.inl (k 0, 5, .inl (fun _ => 0))) := by rw [e18, hm_up_n ((hm_ne0 hh z4).symm)]; exact g23
  have g25 : f20 q1 = some (.inl (k 0, 5, .inl (fun _ => 0))) := by rw [e21, hm_up_n ((hm_ne0 hh z4).symm)]; exact g24
  have g26 : f17 q9 = some (.inl (k 1, 5, .inl (fun _ => 0))) := by rw [e18, hm_up_n ((hm_ne0 g13 z12).symm)]; exact g15
  have g27 : f20 q9 = some (.inl (k 1, 5, .inl (fun _ => 0))) := by rw [e21, hm_up_n ((hm_ne0 g13 z12).symm)]; exact g26
  exact hm_vret X hQ hr hlk hK hM hS d_ClaimsReader_init_23 ⟨q1, q9, z4, (hm_none e3 (hm_none e8 z12)), (hm_ne0 g14 z12), g22, g25, g27, (fun zq zx n0 hq => by have t0 := hq; have u1 := hm_ne0 t0 z4; have t1 := hm_keep e3 u1 t0; have t2 := hm_keep e8 n0 t1; have u2 := hm_ne0 t2 z12; have t3 := hm_keep e11 u2 t2; have t4 := hm_keep e18 n0 t3; have t5 := hm_keep e21 n0 t4; exact t5)⟩
set_option maxHeartbeats 4000000 in
set_option maxRecDepth 100000 in
theorem c_Wrapping_init (l : Launch) (D : va_G) (k : Nat → ClassId) (f : hm) (h : Nat) (x : Int32) (hh : f h = some (.inr (6, [.int 0]))) : hm_Mv l D vwCl (tyL k) y_Wrapping_init (Cond.code y_Wrapping_init b_Wrapping_init 2 none :: TB) ({ frames := 1, cells := 0, slots := 0, locals := 20 }) [.ref h, .int x] f (fun (f1 : hm) => f1 h = some (.inr (6, [.int x])) ∧ ∀ (zq : Nat) (zx : va_E), zq ≠ h → f zq = some zx → f1 zq = some zx) 0 0 := by
  refine hm_enter (Qc := fun sz => va_Qv _ (hm_R D vwCl (tyL k) f sz) (hm_A f sz)) (by decide) rfl (Nat.le_of_ble_eq_true rfl) ?_
  intro p e s m below meth cd ls X0 hr hlk hin hK hM hS hA hl Q hQ
  have X : CallFix p m cd b_Wrapping_init 2 s ([.ref h, .int x] : List Value).toArray TB R_Wrapping := ⟨X0.1, X0.2.1, X0.2.2.1, X0.2.2.2.1, fun w h => X0.2.2.2.2 w (List.mem_cons_of_mem _ h)⟩
  have hx := X.1; have hb := X.2.1; have hml := X.2.2.1; have hown := X.2.2.2.1; have hts := X.2.2.2.2
  have hl : lv_has ls 2 [(0, .ref h), (1, .int x)] := hl
  refine lv_aload_n hx hb d_Wrapping_init_0 rfl (lv_at hl 0 rfl) ?_
  refine W.objInit hx hb hown (hts _ wl_Wrapping_3) (hts _ wi_JObject_init) (hts _ wd_JObject_init) rfl (by rw [hml]; exact hl.1) rfl d_Wrapping_init_1 (Nat.le_of_ble_eq_true rfl) (Nat.le_of_ble_eq_true rfl) ?_
  refine W.eq (g2 := F0 m 4 ls []) rfl ?_
  refine lv_aload_n hx hb d_Wrapping_init_4 rfl (lv_at hl 0 rfl) ?_
  refine lv_iload_n hx hb d_Wrapping_init_5 rfl (lv_at hl 1 rfl) ?_
  refine hm_putF X hK hM hS (fs' := [.int x]) hh fF_Wrapping_9 hin rfl rfl (Nat.le_of_ble_eq_true rfl) rfl d_Wrapping_init_6 (fun f1 H locs e2 hM hS => ?_)
  have g3 : f1 h = some (.inr (6, [.int x])) := by rw [e2, hm_up_s]
  exact hm_vret X hQ hr hlk hK hM hS d_Wrapping_init_9 ⟨g3, (fun zq zx n0 hq => by have t0 := hq; have t1 := hm_keep e2 n0 t0; exact t1)⟩
set_option maxHeartbeats 4000000 in
set_option maxRecDepth 100000 in
theorem c_Shelf_init (l : Launch) (D : va_G) (k : Nat → ClassId) (f : hm) (h : Nat) (N : Nat) (hh : f h = some (.inr (4, [.null, .int 0]))) (hN : N ≤ 24) : hm_Mv l D vwCl (tyL k) y_Shelf_init (Cond.code y_Shelf_init b_Shelf_init 3 none :: TB) ({ frames := 2, cells := (1 + N), slots := (N + 9 * N), locals := 40 }) [.ref h, .int (nI N)] f (fun (f1 : hm) => ∃ (a : Nat) (g : Nat → Option Nat), f a = none ∧ (hm_rows0 f f1 g N) ∧ f1 h = some (.inr (4, [.ref a, .int 0])) ∧ f1 a = some (.inl (k 3, N, .inr (.inr (.inr (.inr g))))) ∧ ∀ (zq : Nat) (zx : va_E), zq ≠ h → f zq = some zx → f1 zq = some zx) (1 + N) (N + 9 * N) := by
  refine hm_enter (Qc := fun sz => va_Qv _ (hm_R D vwCl (tyL k) f sz) (hm_A f sz)) (by decide) rfl (Nat.le_of_ble_eq_true rfl) ?_
  intro p e s m below meth cd ls X0 hr hlk hin hK hM hS hA hl Q hQ
  have X : CallFix p m cd b_Shelf_init 3 s ([.ref h, .int (nI N)] : List Value).toArray TB R_Shelf := ⟨X0.1, X0.2.1, X0.2.2.1, X0.2.2.2.1, fun w h => X0.2.2.2.2 w (List.mem_cons_of_mem _ h)⟩
  have hx := X.1; have hb := X.2.1; have hml := X.2.2.1; have hown := X.2.2.2.1; have hts := X.2.2.2.2
  have hl : lv_has ls 3 [(0, .ref h), (1, .int (nI N))] := hl
  refine lv_aload_n hx hb d_Shelf_init_0 rfl (lv_at hl 0 rfl) ?_
  refine W.objInit hx hb hown (hts _ wl_Shelf_1) (hts _ wi_JObject_init) (hts _ wd_JObject_init) rfl (by rw [hml]; exact hl.1) rfl d_Shelf_init_1 (Nat.le_of_ble_eq_true rfl) (Nat.le_of_ble_eq_true rfl) ?_
  refine W.eq (g2 := F0 m 4 ls []) rfl ?_
  refine lv_aload_n hx hb d_Shelf_init_4 rfl (lv_at hl 0 rfl) ?_
  refine lv_iconst (v := 0) hx hb d_Shelf_init_5 (by decide) ?_
  refine hm_put X hK hM hS (fs' := [.null, .int 0]) hh fl_Shelf_7 rfl rfl (Nat.le_of_ble_eq_true rfl) rfl d_Shelf_init_6 (fun f1 H locs e2 hM hS => ?_)
  refine lv_aload_n hx hb d_Shelf_init_9 rfl (lv_at hl 0 rfl) ?_
  refine lv_iload_n hx hb d_Shelf_init_10 rfl (lv_at hl 1 rfl) ?_
  have g7 : f1 h = some (.inr (4, [.null, .int 0])) := by rw [e2, hm_up_s]
  refine hm_newq X hK hM hS hA wk_Shelf_13 (by decide) 3 rfl (N' := N) (nI_pos (by omega)) (nI_clamp (by omega)) (by omega) (by show 0 + 1 ≤ 1 + N; omega) (by show 0 + N ≤ N + 9 * N; omega) d_Shelf_init_11 (fun q3 f4 H e5 z6 hM hS => ?_)
  have g8 : f4 q3 = some (.inl (k 3, N, .inr (.inr (.inr (.inr (fun _ => none)))))) := hm_new1 e5
  have g9 : f4 h = some (.inr (4, [.null, .int 0])) := by rw [e5, hm_up_n (hm_ne0 g7 z6)]; exact g7
  refine hm_putF X hK hM hS (fs' := [.ref q3, .int 0]) g9 fF_Shelf_15 hin rfl rfl (Nat.le_of_ble_eq_true rfl) rfl d_Shelf_init_14 (fun f10 H locs e11 hM hS => ?_)
  have za : f q3 = none := (hm_none e2 z6)
  refine lv_iconst (v := 0) hx hb d_Shelf_init_17 (by decide) ?_
  refine lv_istore_n (lv' := [(2, .int 0), (0, .ref h), (1, .int (nI N))]) hx hb d_Shelf_init_18 rfl hl (by decide) rfl (fun ls hl => ?_)
  have g12 : f10 h = some (.inr (4, [.ref q3, .int 0])) := by rw [e11, hm_up_s]
  have g13 : f10 q3 = some (.inl (k 3, N, .inr (.inr (.inr (.inr (fun _ => none)))))) := by rw [e11, hm_up_n ((hm_ne0 g7 z6).symm)]; exact g8
  have loop19 : ∀ (fu : Nat) (j : Nat) (g : Nat → Option Nat) (fL : hm) (H : Heap) (locs : List Loc) (ls : Array Slot) (hmu : N - j < fu) (hj : j ≤ N) (hrows : hm_rows0 f fL g j) (hh : fL h = some (.inr (4, [.ref q3, .int 0]))) (ha : fL q3 = some (.inl (k 3, N, .inr (.inr (.inr (.inr g)))))) (hfr : ∀ (q : Nat) (x : va_E), q ≠ h → f q = some x → fL q = some x) (hM : hm_W D vwCl (hm_A f s.heap.size) fL H) (hS : va_S (hm_A f s.heap.size) s.heap H locs) (hl : lv_has ls 3 [(0, .ref h), (1, .int (nI N)), (2, .int (nI j))]), W p l e ({ frames := 2, cells := (1 + N), slots := (N + 9 * N), locals := 40 }) s m ([.ref h, .int (nI N)] : List Value).toArray below meth cd H locs (1 + j) (N + 9 * j) Q (F0 m 19 ls []) := by
    intro fu
    induction fu with
    | zero => intro j g fL H locs ls hmu; exact absurd hmu (Nat.not_lt_zero _)
    | succ fu ih =>
      intro j g fL H locs ls hmu hj hrows hh ha hfr hM hS hl
      refine lv_iload_n hx hb d_Shelf_init_19 rfl (lv_at hl 2 rfl) ?_
      refine lv_iload_n hx hb d_Shelf_init_20 rfl (lv_at hl 1 rfl) ?_
      refine lv_icmp_ge (tgt := 43) hx hb d_Shelf_init_21 (by decide) (fun h14 => ?_) (fun h14 => ?_)
      · have hjN : j = N := by rw [nI_leI (by omega) (by omega)] at h14; omega
        subst hjN
        skip
        exact hm_vret X hQ hr hlk hK hM hS d_Shelf_init_43 ⟨q3, g, za, hrows, hh, ha, hfr⟩
      · have hlt : j < N := by rw [nI_leI (by omega) (by omega)] at h14; omega
        refine lv_aload_n hx hb d_Shelf_init_24 rfl (lv_at hl 0 rfl) ?_
        refine hm_get X hK hM hh fl_Shelf_15 (v := .ref q3) rfl d_Shelf_init_25 ?_
        refine lv_iload_n hx hb d_Shelf_init_28 rfl (lv_at hl 2 rfl) ?_
        refine hm_new X hK hM hS hA nw_Shelf_13 (by show 1 + j + 1 ≤ 1 + N; omega) (by show N + 9 * j + 9 ≤ N + 9 * N; omega) d_Shelf_init_29 (fun q15 f16 H e17 z18 hM hS => ?_)
        have g19 : f16 q15 = some (.inr (3, [.int 0, .int 0, .int 0, .int 0, .int 0, .int 0, .int 0, .int 0, .null])) := hm_new1 e17
        refine lv_dup hx hb d_Shelf_init_32 rfl ?_
        have g20 : f16 h = some (.inr (4, [.ref q3, .int 0])) := by rw [e17, hm_up_n (hm_ne0 hh z18)]; exact hh
        have g21 : f16 q3 = some (.inl (k 3, N, .inr (.inr (.inr (.inr g))))) := by rw [e17, hm_up_n (hm_ne0 ha z18)]; exact ha
        refine hm_callv hS hM hA (va_runI (As := []) (rest := [.ref q15, .int (nI j), .ref q3]) X (c_Grant_init l D k f16 q15   H.size) (hm_cwI hts me_Grant_init wl_Shelf_19 rfl rfl ⟨Nat.le_of_ble_eq_true rfl, Nat.le_of_ble_eq_true rfl⟩) (hm_preS hM hK) rfl rfl hl.1 rfl (lv_room (Nat.le_of_ble_eq_true rfl)) d_Shelf_init_33 ⟨by show 1 + j + 1 + 0 ≤ 1 + N; omega, by show N + 9 * j + 9 + 0 ≤ N + 9 * N; omega⟩) (fun f22 H locs p23 hM hS => ?_)
        subst p23
        refine hm_aast X hK hM hS g21 g19 rfl 3 rfl j rfl hlt (by omega) d_Shelf_init_36 (fun f24 H locs e25 hM hS => ?_)
        refine lv_iinc (lv' := [(2, .int (nI (j + 1))), (0, .ref h), (1, .int (nI N))]) hx hb d_Shelf_init_37 hl (k := 2) rfl (hm_inc _) (by decide) rfl (fun ls hl => ?_)
        refine lv_goto (tgt := 19) hx hb d_Shelf_init_40 (by decide) ?_
        have g26 : f24 q15 = some (.inr (3, [.int 0, .int 0, .int 0, .int 0, .int 0, .int 0, .int 0, .int 0, .null])) := by rw [e25, hm_up_n ((hm_ne0 ha z18).symm)]; exact g19
        have g27 : f24 h = some (.inr (4, [.ref q3, .int 0])) := by rw [e25, hm_up_n (hm_ne0 g7 z6)]; exact g20
        have g28 : f24 q3 = some (.inl (k 3, N, .inr (.inr (.inr (.inr (va_up g j (some q15))))))) := by rw [e25, hm_up_s]
        refine hm_cs (cells' := 1 + (j + 1)) (slots' := N + 9 * (j + 1)) (by omega) (by omega) ?_
        exact ih (j + 1) (va_up g j (some q15)) f24 H locs ls (by omega) (by omega) (hm_rows0_add hrows ha z18 (hm_noneF (fun x hq => hfr _ _ (hm_ne0 hh z18).symm hq) z18) g26 (fun b y n0 hq => hm_keep e25 n0 (hm_keep e17 (hm_ne0 hq z18) hq))) g27 g28 (fun q x n0 hq => hm_keep e25 (hm_ne0 hq za) (hm_keep e17 (hm_ne0 (hfr _ _ n0 hq) z18) (hfr _ _ n0 hq))) hM hS (lv_sub hl [1, 2, 0] rfl)
  refine hm_cs (cells' := 1 + 0) (slots' := N + 9 * 0) (by omega) (by omega) ?_
  exact loop19 _ 0 (fun _ => none) f10 H locs ls (Nat.lt_succ_self _) (Nat.zero_le _) hm_rows0_0 g12 g13 (fun zq zx n0 hq => by have t0 := hq; have t1 := hm_keep e2 n0 t0; have u1 := hm_ne0 t1 z6; have t2 := hm_keep e5 u1 t1; have t3 := hm_keep e11 n0 t2; exact t3) hM hS (lv_sub hl [1, 2, 0] rfl)
set_option maxHeartbeats 4000000 in
set_option maxRecDepth 100000 in
theorem c_isSomeScopes (l : Launch) (D : va_G) (k : Nat → ClassId) (f : hm) (x : Int32) : hm_Mi l D vwCl (tyL k) y_GrantServer_isSomeScopes (Cond.code y_GrantServer_isSomeScopes b_GrantServer_isSomeScopes 1 (some .boolean) :: TB) ({ frames := 0, cells := 0, slots := 0, locals := 0 }) [.int x] f (fun (r : Int32) (f1 : hm) => z_some x = r ∧ f = f1) 0 0 := by
  refine hm_enter (Qc := fun sz => va_Qi _ (hm_R D vwCl (tyL k) f sz) (hm_A f sz)) (by decide) rfl (Nat.le_of_ble_eq_true rfl) ?_
  intro p e s m below meth cd ls X0 hr hlk hin hK hM hS hA hl Q hQ
  have X : CallFix p m cd b_GrantServer_isSomeScopes 1 s ([.int x] : List Value).toArray TB R_GrantServer := ⟨X0.1, X0.2.1, X0.2.2.1, X0.2.2.2.1, fun w h => X0.2.2.2.2 w (List.mem_cons_of_mem _ h)⟩
  have hx := X.1; have hb := X.2.1; have hml := X.2.2.1; have hown := X.2.2.2.1; have hts := X.2.2.2.2
  have hl : lv_has ls 1 [(0, .int x)] := hl
  refine lv_iload_n hx hb d_GrantServer_isSomeScopes_0 rfl (lv_at hl 0 rfl) ?_
  refine lv_iconst (v := 1) hx hb d_GrantServer_isSomeScopes_1 (by decide) ?_
  refine lv_icmp_lt (tgt := 15) hx hb d_GrantServer_isSomeScopes_2 (by decide) (fun h1 => ?_) (fun h1 => ?_)
  · refine lv_iconst (v := 0) hx hb d_GrantServer_isSomeScopes_15 (by decide) ?_
    exact hm_zret X hQ hr hlk hK hM hS rfl d_GrantServer_isSomeScopes_16 ⟨(by simp [z_some, h1]), rfl⟩
  · refine lv_iload_n hx hb d_GrantServer_isSomeScopes_5 rfl (lv_at hl 0 rfl) ?_
    refine lv_bipush (v := 15) hx hb d_GrantServer_isSomeScopes_6 (by decide) ?_
    refine lv_icmp_gt (tgt := 15) hx hb d_GrantServer_isSomeScopes_8 (by decide) (fun h2 => ?_) (fun h2 => ?_)
    · refine lv_iconst (v := 0) hx hb d_GrantServer_isSomeScopes_15 (by decide) ?_
      exact hm_zret X hQ hr hlk hK hM hS rfl d_GrantServer_isSomeScopes_16 ⟨(by simp [z_some, h1, h2]), rfl⟩
    · refine lv_iconst (v := 1) hx hb d_GrantServer_isSomeScopes_11 (by decide) ?_
      refine lv_goto (tgt := 16) hx hb d_GrantServer_isSomeScopes_12 (by decide) ?_
      exact hm_zret X hQ hr hlk hK hM hS rfl d_GrantServer_isSomeScopes_16 ⟨(by simp [z_some, h1, h2]), rfl⟩
set_option maxHeartbeats 4000000 in
set_option maxRecDepth 100000 in
theorem c_isWithin (l : Launch) (D : va_G) (k : Nat → ClassId) (f : hm) (x : Int32) (y : Int32) : hm_Mi l D vwCl (tyL k) y_GrantServer_isWithin (Cond.code y_GrantServer_isWithin b_GrantServer_isWithin 2 (some .boolean) :: TB) ({ frames := 0, cells := 0, slots := 0, locals := 0 }) [.int x, .int y] f (fun (r : Int32) (f1 : hm) => z_within x y = r ∧ f = f1) 0 0 := by
  refine hm_enter (Qc := fun sz => va_Qi _ (hm_R D vwCl (tyL k) f sz) (hm_A f sz)) (by decide) rfl (Nat.le_of_ble_eq_true rfl) ?_
  intro p e s m below meth cd ls X0 hr hlk hin hK hM hS hA hl Q hQ
  have X : CallFix p m cd b_GrantServer_isWithin 2 s ([.int x, .int y] : List Value).toArray TB R_GrantServer := ⟨X0.1, X0.2.1, X0.2.2.1, X0.2.2.2.1, fun w h => X0.2.2.2.2 w (List.mem_cons_of_mem _ h)⟩
  have hx := X.1; have hb := X.2.1; have hml := X.2.2.1; have hown := X.2.2.2.1; have hts := X.2.2.2.2
  have hl : lv_has ls 2 [(0, .int x), (1, .int y)] := hl
  refine lv_iload_n hx hb d_GrantServer_isWithin_0 rfl (lv_at hl 0 rfl) ?_
  refine lv_iload_n hx hb d_GrantServer_isWithin_1 rfl (lv_at hl 1 rfl) ?_
  refine lv_iconst (v := (-1)) hx hb d_GrantServer_isWithin_2 (by decide) ?_
  refine lv_ixor hx hb d_GrantServer_isWithin_3 ?_
  refine lv_iand hx hb d_GrantServer_isWithin_4 ?_
  refine lv_if_ne (tgt := 12) hx hb d_GrantServer_isWithin_5 (by decide) (fun h1 => ?_) (fun h1 => ?_)
  · refine lv_iconst (v := 0) hx hb d_GrantServer_isWithin_12 (by decide) ?_
    exact hm_zret X hQ hr hlk hK hM hS rfl d_GrantServer_isWithin_13 ⟨(if_neg h1), rfl⟩
  · refine lv_iconst (v := 1) hx hb d_GrantServer_isWithin_8 (by decide) ?_
    refine lv_goto (tgt := 13) hx hb d_GrantServer_isWithin_9 (by decide) ?_
    exact hm_zret X hQ hr hlk hK hM hS rfl d_GrantServer_isWithin_13 ⟨(if_pos h1), rfl⟩
set_option maxHeartbeats 4000000 in
set_option maxRecDepth 100000 in
theorem c_isWritable (l : Launch) (D : va_G) (k : Nat → ClassId) (f : hm) (x : Int32) : hm_Mi l D vwCl (tyL k) y_GrantServer_isWritable (Cond.code y_GrantServer_isWritable b_GrantServer_isWritable 1 (some .boolean) :: TB) ({ frames := 0, cells := 0, slots := 0, locals := 0 }) [.int x] f (fun (r : Int32) (f1 : hm) => z_text x = r ∧ f = f1) 0 0 := by
  refine hm_enter (Qc := fun sz => va_Qi _ (hm_R D vwCl (tyL k) f sz) (hm_A f sz)) (by decide) rfl (Nat.le_of_ble_eq_true rfl) ?_
  intro p e s m below meth cd ls X0 hr hlk hin hK hM hS hA hl Q hQ
  have X : CallFix p m cd b_GrantServer_isWritable 1 s ([.int x] : List Value).toArray TB R_GrantServer := ⟨X0.1, X0.2.1, X0.2.2.1, X0.2.2.2.1, fun w h => X0.2.2.2.2 w (List.mem_cons_of_mem _ h)⟩
  have hx := X.1; have hb := X.2.1; have hml := X.2.2.1; have hown := X.2.2.2.1; have hts := X.2.2.2.2
  have hl : lv_has ls 1 [(0, .int x)] := hl
  refine lv_iload_n hx hb d_GrantServer_isWritable_0 rfl (lv_at hl 0 rfl) ?_
  refine lv_bipush (v := 32) hx hb d_GrantServer_isWritable_1 (by decide) ?_
  refine lv_icmp_lt (tgt := 16) hx hb d_GrantServer_isWritable_3 (by decide) (fun h1 => ?_) (fun h1 => ?_)
  · refine lv_iconst (v := 0) hx hb d_GrantServer_isWritable_16 (by decide) ?_
    exact hm_zret X hQ hr hlk hK hM hS rfl d_GrantServer_isWritable_17 ⟨(by simp [z_text, h1]), rfl⟩
  · refine lv_iload_n hx hb d_GrantServer_isWritable_6 rfl (lv_at hl 0 rfl) ?_
    refine lv_bipush (v := 126) hx hb d_GrantServer_isWritable_7 (by decide) ?_
    refine lv_icmp_gt (tgt := 16) hx hb d_GrantServer_isWritable_9 (by decide) (fun h2 => ?_) (fun h2 => ?_)
    · refine lv_iconst (v := 0) hx hb d_GrantServer_isWritable_16 (by decide) ?_
      exact hm_zret X hQ hr hlk hK hM hS rfl d_GrantServer_isWritable_17 ⟨(by simp [z_text, h1, h2]), rfl⟩
    · refine lv_iconst (v := 1) hx hb d_GrantServer_isWritable_12 (by decide) ?_
      refine lv_goto (tgt := 17) hx hb d_GrantServer_isWritable_13 (by decide) ?_
      exact hm_zret X hQ hr hlk hK hM hS rfl d_GrantServer_isWritable_17 ⟨(by simp [z_text, h1, h2]), rfl⟩
set_option maxHeartbeats 4000000 in
set_option maxRecDepth 100000 in
theorem c_keptLife (l : Launch) (D : va_G) (k : Nat → ClassId) (f : hm) (x : Int32) : hm_Mi l D vwCl (tyL k) y_GrantServer_keptLife (Cond.code y_GrantServer_keptLife b_GrantServer_keptLife 1 (some .int) :: TB) ({ frames := 1, cells := 0, slots := 0, locals := 24 }) [.int x] f (fun (r : Int32) (f1 : hm) => z_kept x = r ∧ f = f1) 0 0 := by
  refine hm_enter (Qc := fun sz => va_Qi _ (hm_R D vwCl (tyL k) f sz) (hm_A f sz)) (by decide) rfl (Nat.le_of_ble_eq_true rfl) ?_
  intro p e s m below meth cd ls X0 hr hlk hin hK hM hS hA hl Q hQ
  have X : CallFix p m cd b_GrantServer_keptLife 1 s ([.int x] : List Value).toArray TB R_GrantServer := ⟨X0.1, X0.2.1, X0.2.2.1, X0.2.2.2.1, fun w h => X0.2.2.2.2 w (List.mem_cons_of_mem _ h)⟩
  have hx := X.1; have hb := X.2.1; have hml := X.2.2.1; have hown := X.2.2.2.1; have hts := X.2.2.2.2
  have hl : lv_has ls 1 [(0, .int x)] := hl
  refine lv_iconst (v := 1) hx hb d_GrantServer_keptLife_0 (by decide) ?_
  refine lv_sipush (v := 1000) hx hb d_GrantServer_keptLife_1 (by decide) ?_
  refine lv_iload_n hx hb d_GrantServer_keptLife_4 rfl (lv_at hl 0 rfl) ?_
  refine va_mmin hx hb (hml.trans hl.1.symm) hown (hts _ wl_GrantServer_243) (hts _ ws_Mmin) (hts _ wn_Math) (hts _ wd_Mmin) (Nat.le_of_ble_eq_true rfl) (Nat.le_of_ble_eq_true rfl) (Nat.zero_le _) (Nat.zero_le _) d_GrantServer_keptLife_5 ?_
  refine va_mmax hx hb (hml.trans hl.1.symm) hown (hts _ wl_GrantServer_248) (hts _ ws_Mmax) (hts _ wn_Math) (hts _ wd_Mmax) (Nat.le_of_ble_eq_true rfl) (Nat.le_of_ble_eq_true rfl) (Nat.zero_le _) (Nat.zero_le _) d_GrantServer_keptLife_8 ?_
  exact hm_iret X hQ hr hlk hK hM hS d_GrantServer_keptLife_11 ⟨rfl, rfl⟩
set_option maxHeartbeats 4000000 in
set_option maxRecDepth 100000 in
theorem c_Text_size (l : Launch) (D : va_G) (k : Nat → ClassId) (f : hm) (t : Nat) (a : Nat) (n : Int32) (ht : f t = some (.inr (5, [.ref a, .int n]))) : hm_Mi l D vwCl (tyL k) y_Text_size (Cond.code y_Text_size b_Text_size 1 (some .int) :: TB) ({ frames := 0, cells := 0, slots := 0, locals := 0 }) [.ref t] f (fun (r : Int32) (f1 : hm) => n = r ∧ f = f1) 0 0 := by
  refine hm_enter (Qc := fun sz => va_Qi _ (hm_R D vwCl (tyL k) f sz) (hm_A f sz)) (by decide) rfl (Nat.le_of_ble_eq_true rfl) ?_
  intro p e s m below meth cd ls X0 hr hlk hin hK hM hS hA hl Q hQ
  have X : CallFix p m cd b_Text_size 1 s ([.ref t] : List Value).toArray TB R_Text := ⟨X0.1, X0.2.1, X0.2.2.1, X0.2.2.2.1, fun w h => X0.2.2.2.2 w (List.mem_cons_of_mem _ h)⟩
  have hx := X.1; have hb := X.2.1; have hml := X.2.2.1; have hown := X.2.2.2.1; have hts := X.2.2.2.2
  have hl : lv_has ls 1 [(0, .ref t)] := hl
  refine lv_aload_n hx hb d_Text_size_0 rfl (lv_at hl 0 rfl) ?_
  refine hm_get X hK hM ht fl_Text_15 (v := .int n) rfl d_Text_size_1 ?_
  exact hm_iret X hQ hr hlk hK hM hS d_Text_size_4 ⟨rfl, rfl⟩
set_option maxHeartbeats 4000000 in
set_option maxRecDepth 100000 in
theorem c_Text_clear (l : Launch) (D : va_G) (k : Nat → ClassId) (f : hm) (t : Nat) (a : Nat) (n : Int32) (ht : f t = some (.inr (5, [.ref a, .int n]))) : hm_Mv l D vwCl (tyL k) y_Text_clear (Cond.code y_Text_clear b_Text_clear 1 none :: TB) ({ frames := 0, cells := 0, slots := 0, locals := 0 }) [.ref t] f (fun (f1 : hm) => f1 t = some (.inr (5, [.ref a, .int 0])) ∧ ∀ (zq : Nat) (zx : va_E), zq ≠ t → f zq = some zx → f1 zq = some zx) 0 0 := by
  refine hm_enter (Qc := fun sz => va_Qv _ (hm_R D vwCl (tyL k) f sz) (hm_A f sz)) (by decide) rfl (Nat.le_of_ble_eq_true rfl) ?_
  intro p e s m below meth cd ls X0 hr hlk hin hK hM hS hA hl Q hQ
  have X : CallFix p m cd b_Text_clear 1 s ([.ref t] : List Value).toArray TB R_Text := ⟨X0.1, X0.2.1, X0.2.2.1, X0.2.2.2.1, fun w h => X0.2.2.2.2 w (List.mem_cons_of_mem _ h)⟩
  have hx := X.1; have hb := X.2.1; have hml := X.2.2.1; have hown := X.2.2.2.1; have hts := X.2.2.2.2
  have hl : lv_has ls 1 [(0, .ref t)] := hl
  refine lv_aload_n hx hb d_Text_clear_0 rfl (lv_at hl 0 rfl) ?_
  refine lv_iconst (v := 0) hx hb d_Text_clear_1 (by decide) ?_
  refine hm_put X hK hM hS (fs' := [.ref a, .int 0]) ht fl_Text_15 rfl rfl (Nat.le_of_ble_eq_true rfl) rfl d_Text_clear_2 (fun f1 H locs e2 hM hS => ?_)
  have g3 : f1 t = some (.inr (5, [.ref a, .int 0])) := by rw [e2, hm_up_s]
  exact hm_vret X hQ hr hlk hK hM hS d_Text_clear_5 ⟨g3, (fun zq zx n0 hq => by have t0 := hq; have t1 := hm_keep e2 n0 t0; exact t1)⟩
set_option maxHeartbeats 4000000 in
set_option maxRecDepth 100000 in
theorem c_Text_codeAt (l : Launch) (D : va_G) (k : Nat → ClassId) (f : hm) (t : Nat) (a : Nat) (n : Nat) (x : Nat → Int32) (i : Int32) (ht : f t = some (.inr (5, [.ref a, .int (nI n)]))) (ha : f a = some (.inl (k 2, 120, .inl x))) (hn : n ≤ 120) : hm_Mi l D vwCl (tyL k) y_Text_codeAt (Cond.code y_Text_codeAt b_Text_codeAt 2 (some .int) :: TB) ({ frames := 0, cells := 0, slots := 0, locals := 0 }) [.ref t, .int i] f (fun (r : Int32) (f1 : hm) => z_at n x i = r ∧ f = f1) 0 0 := by
  refine hm_enter (Qc := fun sz => va_Qi _ (hm_R D vwCl (tyL k) f sz) (hm_A f sz)) (by decide) rfl (Nat.le_of_ble_eq_true rfl) ?_
  intro p e s m below meth cd ls X0 hr hlk hin hK hM hS hA hl Q hQ
  have X : CallFix p m cd b_Text_codeAt 2 s ([.ref t, .int i] : List Value).toArray TB R_Text := ⟨X0.1, X0.2.1, X0.2.2.1, X0.2.2.2.1, fun w h => X0.2.2.2.2 w (List.mem_cons_of_mem _ h)⟩
  have hx := X.1; have hb := X.2.1; have hml := X.2.2.1; have hown := X.2.2.2.1; have hts := X.2.2.2.2
  have hl : lv_has ls 2 [(0, .ref t), (1, .int i)] := hl
  refine lv_iload_n hx hb d_Text_codeAt_0 rfl (lv_at hl 1 rfl) ?_
  refine lv_if_lt (tgt := 21) hx hb d_Text_codeAt_1 (by decide) (fun h1 => ?_) (fun h1 => ?_)
  · refine lv_iconst (v := (-1)) hx hb d_Text_codeAt_21 (by decide) ?_
    exact hm_iret X hQ hr hlk hK hM hS d_Text_codeAt_22 ⟨(by simp [z_at, h1]), rfl⟩
  · refine lv_iload_n hx hb d_Text_codeAt_4 rfl (lv_at hl 1 rfl) ?_
    refine lv_aload_n hx hb d_Text_codeAt_5 rfl (lv_at hl 0 rfl) ?_
    refine hm_get X hK hM ht fl_Text_15 (v := .int (nI n)) rfl d_Text_codeAt_6 ?_
    refine lv_icmp_ge (tgt := 21) hx hb d_Text_codeAt_9 (by decide) (fun h2 => ?_) (fun h2 => ?_)
    · refine lv_iconst (v := (-1)) hx hb d_Text_codeAt_21 (by decide) ?_
      exact hm_iret X hQ hr hlk hK hM hS d_Text_codeAt_22 ⟨(by simp [z_at, h1, h2]), rfl⟩
    · obtain ⟨j, hj, hij⟩ := hm_ix h1 h2 (by omega)
      subst hij
      refine lv_aload_n hx hb d_Text_codeAt_12 rfl (lv_at hl 0 rfl) ?_
      refine hm_get X hK hM ht fl_Text_11 (v := .ref a) rfl d_Text_codeAt_13 ?_
      refine lv_iload_n hx hb d_Text_codeAt_16 rfl (lv_at hl 1 rfl) ?_
      refine hm_cald X hK hM ha 2 rfl j rfl (by omega) (by omega) d_Text_codeAt_17 ?_
      refine lv_goto (tgt := 22) hx hb d_Text_codeAt_18 (by decide) ?_
      exact hm_iret X hQ hr hlk hK hM hS d_Text_codeAt_22 ⟨(z_at_in hj (by omega)), rfl⟩
set_option maxHeartbeats 4000000 in
set_option maxRecDepth 100000 in
theorem c_Text_add (l : Launch) (D : va_G) (k : Nat → ClassId) (f : hm) (t : Nat) (a : Nat) (n : Nat) (x : Nat → Int32) (y : Int32) (ht : f t = some (.inr (5, [.ref a, .int (nI n)]))) (ha : f a = some (.inl (k 2, 120, .inl x))) (hn : n < 120) (hy : vp_nar .char y = y) : hm_Mi l D vwCl (tyL k) y_Text_add (Cond.code y_Text_add b_Text_add 2 (some .boolean) :: TB) ({ frames := 0, cells := 0, slots := 0, locals := 0 }) [.ref t, .int y] f (fun (r : Int32) (f1 : hm) => 1 = r ∧ f1 t = some (.inr (5, [.ref a, .int (nI (n + 1))])) ∧ f1 a = some (.inl (k 2, 120, .inl (upd x n y))) ∧ ∀ (zq : Nat) (zx : va_E), zq ≠ t → zq ≠ a → f zq = some zx → f1 zq = some zx) 0 0 := by
  refine hm_enter (Qc := fun sz => va_Qi _ (hm_R D vwCl (tyL k) f sz) (hm_A f sz)) (by decide) rfl (Nat.le_of_ble_eq_true rfl) ?_
  intro p e s m below meth cd ls X0 hr hlk hin hK hM hS hA hl Q hQ
  have X : CallFix p m cd b_Text_add 2 s ([.ref t, .int y] : List Value).toArray TB R_Text := ⟨X0.1, X0.2.1, X0.2.2.1, X0.2.2.2.1, fun w h => X0.2.2.2.2 w (List.mem_cons_of_mem _ h)⟩
  have hx := X.1; have hb := X.2.1; have hml := X.2.2.1; have hown := X.2.2.2.1; have hts := X.2.2.2.2
  have hl : lv_has ls 2 [(0, .ref t), (1, .int y)] := hl
  refine lv_aload_n hx hb d_Text_add_0 rfl (lv_at hl 0 rfl) ?_
  refine hm_get X hK hM ht fl_Text_15 (v := .int (nI n)) rfl d_Text_add_1 ?_
  refine lv_bipush (v := 120) hx hb d_Text_add_4 (by decide) ?_
  refine lv_icmp_lt (tgt := 11) hx hb d_Text_add_6 (by decide) (fun h1 => ?_) (fun h1 => ?_)
  · refine lv_aload_n hx hb d_Text_add_11 rfl (lv_at hl 0 rfl) ?_
    refine hm_get X hK hM ht fl_Text_11 (v := .ref a) rfl d_Text_add_12 ?_
    refine lv_aload_n hx hb d_Text_add_15 rfl (lv_at hl 0 rfl) ?_
    refine hm_get X hK hM ht fl_Text_15 (v := .int (nI n)) rfl d_Text_add_16 ?_
    refine lv_iload_n hx hb d_Text_add_19 rfl (lv_at hl 1 rfl) ?_
    refine hm_cast X hK hM hS ha 2 rfl n rfl (by omega) (by omega) (y := y) hy d_Text_add_20 (fun f2 H locs e3 hM hS => ?_)
    refine lv_aload_n hx hb d_Text_add_21 rfl (lv_at hl 0 rfl) ?_
    refine lv_dup hx hb d_Text_add_22 rfl ?_
    have g4 : f2 t = some (.inr (5, [.ref a, .int (nI n)])) := by rw [e3, hm_up_n (hm_neA ht ha)]; exact ht
    refine hm_get X hK hM g4 fl_Text_15 (v := .int (nI n)) rfl d_Text_add_23 ?_
    refine lv_iconst (v := 1) hx hb d_Text_add_26 (by decide) ?_
    refine lv_iadd hx hb d_Text_add_27 ?_
    refine hm_top (nI_1 _) ?_
    refine hm_put X hK hM hS (fs' := [.ref a, .int (nI (n + 1))]) g4 fl_Text_15 rfl rfl (Nat.le_of_ble_eq_true rfl) rfl d_Text_add_28 (fun f5 H locs e6 hM hS => ?_)
    refine lv_iconst (v := 1) hx hb d_Text_add_31 (by decide) ?_
    have g7 : f5 t = some (.inr (5, [.ref a, .int (nI (n + 1))])) := by rw [e6, hm_up_s]
    have g8 : f2 a = some (.inl (k 2, 120, .inl (upd x n y))) := by rw [e3, hm_up_s]
    have g9 : f5 a = some (.inl (k 2, 120, .inl (upd x n y))) := by rw [e6, hm_up_n ((hm_neA g4 g8).symm)]; exact g8
    exact hm_zret X hQ hr hlk hK hM hS rfl d_Text_add_32 ⟨rfl, g7, g9, (fun zq zx n0 n1 hq => by have t0 := hq; have t1 := hm_keep e3 n1 t0; have t2 := hm_keep e6 n0 t1; exact t2)⟩
  · exact absurd (nI_lt hn (by decide)) h1
set_option maxHeartbeats 4000000 in
set_option maxRecDepth 100000 in
theorem c_Text_addF (l : Launch) (D : va_G) (k : Nat → ClassId) (f : hm) (t : Nat) (a : Nat) (n : Nat) (x : Nat → Int32) (y : Int32) (ht : f t = some (.inr (5, [.ref a, .int (nI n)]))) (hn : ¬ n < 120) (hn9 : n < 2 ^ 31) : hm_Mi l D vwCl (tyL k) y_Text_add (Cond.code y_Text_add b_Text_add 2 (some .boolean) :: TB) ({ frames := 0, cells := 0, slots := 0, locals := 0 }) [.ref t, .int y] f (fun (r : Int32) (f1 : hm) => 0 = r ∧ f = f1) 0 0 := by
  refine hm_enter (Qc := fun sz => va_Qi _ (hm_R D vwCl (tyL k) f sz) (hm_A f sz)) (by decide) rfl (Nat.le_of_ble_eq_true rfl) ?_
  intro p e s m below meth cd ls X0 hr hlk hin hK hM hS hA hl Q hQ
  have X : CallFix p m cd b_Text_add 2 s ([.ref t, .int y] : List Value).toArray TB R_Text := ⟨X0.1, X0.2.1, X0.2.2.1, X0.2.2.2.1, fun w h => X0.2.2.2.2 w (List.mem_cons_of_mem _ h)⟩
  have hx := X.1; have hb := X.2.1; have hml := X.2.2.1; have hown := X.2.2.2.1; have hts := X.2.2.2.2
  have hl : lv_has ls 2 [(0, .ref t), (1, .int y)] := hl
  refine lv_aload_n hx hb d_Text_add_0 rfl (lv_at hl 0 rfl) ?_
  refine hm_get X hK hM ht fl_Text_15 (v := .int (nI n)) rfl d_Text_add_1 ?_
  refine lv_bipush (v := 120) hx hb d_Text_add_4 (by decide) ?_
  refine lv_icmp_lt (tgt := 11) hx hb d_Text_add_6 (by decide) (fun h1 => ?_) (fun h1 => ?_)
  · exact absurd h1 (nI_nlt (b := 120) (by omega) hn9)
  · refine lv_iconst (v := 0) hx hb d_Text_add_9 (by decide) ?_
    exact hm_zret X hQ hr hlk hK hM hS rfl d_Text_add_10 ⟨rfl, rfl⟩
set_option maxHeartbeats 4000000 in
set_option maxRecDepth 100000 in
theorem c_Text_putF (l : Launch) (D : va_G) (k : Nat → ClassId) (f : hm) (t : Nat) (a : Nat) (n : Nat) (i : Int32) (y : Int32) (ht : f t = some (.inr (5, [.ref a, .int (nI n)]))) (hi : i < 0 ∨ nI n ≤ i) : hm_Mi l D vwCl (tyL k) y_Text_put (Cond.code y_Text_put b_Text_put 3 (some .boolean) :: TB) ({ frames := 0, cells := 0, slots := 0, locals := 0 }) [.ref t, .int i, .int y] f (fun (r : Int32) (f1 : hm) => 0 = r ∧ f = f1) 0 0 := by
  refine hm_enter (Qc := fun sz => va_Qi _ (hm_R D vwCl (tyL k) f sz) (hm_A f sz)) (by decide) rfl (Nat.le_of_ble_eq_true rfl) ?_
  intro p e s m below meth cd ls X0 hr hlk hin hK hM hS hA hl Q hQ
  have X : CallFix p m cd b_Text_put 3 s ([.ref t, .int i, .int y] : List Value).toArray TB R_Text := ⟨X0.1, X0.2.1, X0.2.2.1, X0.2.2.2.1, fun w h => X0.2.2.2.2 w (List.mem_cons_of_mem _ h)⟩
  have hx := X.1; have hb := X.2.1; have hml := X.2.2.1; have hown := X.2.2.2.1; have hts := X.2.2.2.2
  have hl : lv_has ls 3 [(0, .ref t), (1, .int i), (2, .int y)] := hl
  refine lv_iload_n hx hb d_Text_put_0 rfl (lv_at hl 1 rfl) ?_
  refine lv_if_lt (tgt := 12) hx hb d_Text_put_1 (by decide) (fun h1 => ?_) (fun h1 => ?_)
  · refine lv_iconst (v := 0) hx hb d_Text_put_12 (by decide) ?_
    exact hm_zret X hQ hr hlk hK hM hS rfl d_Text_put_13 ⟨rfl, rfl⟩
  · refine lv_iload_n hx hb d_Text_put_4 rfl (lv_at hl 1 rfl) ?_
    refine lv_aload_n hx hb d_Text_put_5 rfl (lv_at hl 0 rfl) ?_
    refine hm_get X hK hM ht fl_Text_15 (v := .int (nI n)) rfl d_Text_put_6 ?_
    refine lv_icmp_lt (tgt := 14) hx hb d_Text_put_9 (by decide) (fun h2 => ?_) (fun h2 => ?_)
    · exact hi.elim (fun z => absurd z h1) (fun z => absurd z (Int32.not_le.mpr h2))
    · refine lv_iconst (v := 0) hx hb d_Text_put_12 (by decide) ?_
      exact hm_zret X hQ hr hlk hK hM hS rfl d_Text_put_13 ⟨rfl, rfl⟩
set_option maxHeartbeats 4000000 in
set_option maxRecDepth 100000 in
theorem c_Text_put (l : Launch) (D : va_G) (k : Nat → ClassId) (f : hm) (t : Nat) (a : Nat) (n : Nat) (x : Nat → Int32) (j : Nat) (y : Int32) (ht : f t = some (.inr (5, [.ref a, .int (nI n)]))) (ha : f a = some (.inl (k 2, 120, .inl x))) (hn : n ≤ 120) (hj : j < n) (hy : vp_nar .char y = y) : hm_Mi l D vwCl (tyL k) y_Text_put (Cond.code y_Text_put b_Text_put 3 (some .boolean) :: TB) ({ frames := 0, cells := 0, slots := 0, locals := 0 }) [.ref t, .int (nI j), .int y] f (fun (r : Int32) (f1 : hm) => 1 = r ∧ f1 t = some (.inr (5, [.ref a, .int (nI n)])) ∧ f1 a = some (.inl (k 2, 120, .inl (upd x j y))) ∧ ∀ (zq : Nat) (zx : va_E), zq ≠ t → zq ≠ a → f zq = some zx → f1 zq = some zx) 0 0 := by
  refine hm_enter (Qc := fun sz => va_Qi _ (hm_R D vwCl (tyL k) f sz) (hm_A f sz)) (by decide) rfl (Nat.le_of_ble_eq_true rfl) ?_
  intro p e s m below meth cd ls X0 hr hlk hin hK hM hS hA hl Q hQ
  have X : CallFix p m cd b_Text_put 3 s ([.ref t, .int (nI j), .int y] : List Value).toArray TB R_Text := ⟨X0.1, X0.2.1, X0.2.2.1, X0.2.2.2.1, fun w h => X0.2.2.2.2 w (List.mem_cons_of_mem _ h)⟩
  have hx := X.1; have hb := X.2.1; have hml := X.2.2.1; have hown := X.2.2.2.1; have hts := X.2.2.2.2
  have hl : lv_has ls 3 [(0, .ref t), (1, .int (nI j)), (2, .int y)] := hl
  refine lv_iload_n hx hb d_Text_put_0 rfl (lv_at hl 1 rfl) ?_
  refine lv_if_lt (tgt := 12) hx hb d_Text_put_1 (by decide) (fun h1 => ?_) (fun h1 => ?_)
  · exact absurd h1 (nI_pos (by omega))
  · refine lv_iload_n hx hb d_Text_put_4 rfl (lv_at hl 1 rfl) ?_
    refine lv_aload_n hx hb d_Text_put_5 rfl (lv_at hl 0 rfl) ?_
    refine hm_get X hK hM ht fl_Text_15 (v := .int (nI n)) rfl d_Text_put_6 ?_
    refine lv_icmp_lt (tgt := 14) hx hb d_Text_put_9 (by decide) (fun h2 => ?_) (fun h2 => ?_)
    · refine lv_aload_n hx hb d_Text_put_14 rfl (lv_at hl 0 rfl) ?_
      refine hm_get X hK hM ht fl_Text_11 (v := .ref a) rfl d_Text_put_15 ?_
      refine lv_iload_n hx hb d_Text_put_18 rfl (lv_at hl 1 rfl) ?_
      refine lv_iload_n hx hb d_Text_put_19 rfl (lv_at hl 2 rfl) ?_
      refine hm_cast X hK hM hS ha 2 rfl j rfl (by omega) (by omega) (y := y) hy d_Text_put_20 (fun f3 H locs e4 hM hS => ?_)
      refine lv_iconst (v := 1) hx hb d_Text_put_21 (by decide) ?_
      have g5 : f3 t = some (.inr (5, [.ref a, .int (nI n)])) := by rw [e4, hm_up_n (hm_neA ht ha)]; exact ht
      have g6 : f3 a = some (.inl (k 2, 120, .inl (upd x j y))) := by rw [e4, hm_up_s]
      exact hm_zret X hQ hr hlk hK hM hS rfl d_Text_put_22 ⟨rfl, g5, g6, (fun zq zx n0 n1 hq => by have t0 := hq; have t1 := hm_keep e4 n1 t0; exact t1)⟩
    · exact absurd (nI_lt hj (by omega)) h2
set_option maxHeartbeats 4000000 in
set_option maxRecDepth 100000 in
theorem c_Grant_begin (l : Launch) (D : va_G) (k : Nat → ClassId) (f : hm) (h : Nat) (w : Nat → Int32) (m1 : Option Nat) (a : Int32) (b : Int32) (d : Int32) (g : Int32) (y : Option Nat) (hh : f h = some (.inr (3, gV w m1))) : hm_Mv l D vwCl (tyL k) y_Grant_begin (Cond.code y_Grant_begin b_Grant_begin 6 none :: TB) ({ frames := 0, cells := 0, slots := 0, locals := 0 }) [.ref h, .int a, .int b, .int d, .int g, va_rf y] f (fun (f1 : hm) => f1 h = some (.inr (3, gV (upd (upd (upd (upd (upd (upd w 0 a) 1 b) 2 d) 3 g) 6 0) 7 0) y)) ∧ ∀ (zq : Nat) (zx : va_E), zq ≠ h → f zq = some zx → f1 zq = some zx) 0 0 := by
  refine hm_enter (Qc := fun sz => va_Qv _ (hm_R D vwCl (tyL k) f sz) (hm_A f sz)) (by decide) rfl (by cases y <;> exact Nat.le_of_ble_eq_true rfl) ?_
  intro p e s m below meth cd ls X0 hr hlk hin hK hM hS hA hl Q hQ
  have X : CallFix p m cd b_Grant_begin 6 s ([.ref h, .int a, .int b, .int d, .int g, va_rf y] : List Value).toArray TB R_Grant := ⟨X0.1, X0.2.1, X0.2.2.1, X0.2.2.2.1, fun w h => X0.2.2.2.2 w (List.mem_cons_of_mem _ h)⟩
  have hx := X.1; have hb := X.2.1; have hml := X.2.2.1; have hown := X.2.2.2.1; have hts := X.2.2.2.2
  have hl : lv_has ls 6 [(0, .ref h), (1, .int a), (2, .int b), (3, .int d), (4, .int g), (5, va_rf y)] := hl
  refine lv_aload_n hx hb d_Grant_begin_0 rfl (lv_at hl 0 rfl) ?_
  refine lv_iload_n hx hb d_Grant_begin_1 rfl (lv_at hl 1 rfl) ?_
  refine hm_put X hK hM hS (fs' := gV (upd w 0 a) m1) hh fl_Grant_7 rfl rfl (Nat.le_of_ble_eq_true rfl) rfl d_Grant_begin_2 (fun f1 H locs e2 hM hS => ?_)
  refine lv_aload_n hx hb d_Grant_begin_5 rfl (lv_at hl 0 rfl) ?_
  refine lv_iload_n hx hb d_Grant_begin_6 rfl (lv_at hl 2 rfl) ?_
  have g3 : f1 h = some (.inr (3, gV (upd w 0 a) m1)) := by rw [e2, hm_up_s]
  refine hm_put X hK hM hS (fs' := gV (upd (upd w 0 a) 1 b) m1) g3 fl_Grant_13 rfl rfl (Nat.le_of_ble_eq_true rfl) rfl d_Grant_begin_7 (fun f4 H locs e5 hM hS => ?_)
  refine lv_aload_n hx hb d_Grant_begin_10 rfl (lv_at hl 0 rfl) ?_
  refine lv_iload_n hx hb d_Grant_begin_11 rfl (lv_at hl 3 rfl) ?_
  have g6 : f4 h = some (.inr (3, gV (upd (upd w 0 a) 1 b) m1)) := by rw [e5, hm_up_s]
  refine hm_put X hK hM hS (fs' := gV (upd (upd (upd w 0 a) 1 b) 2 d) m1) g6 fl_Grant_16 rfl rfl (Nat.le_of_ble_eq_true rfl) rfl d_Grant_begin_12 (fun f7 H locs e8 hM hS => ?_)
  refine lv_aload_n hx hb d_Grant_begin_15 rfl (lv_at hl 0 rfl) ?_
  refine lv_iload hx hb d_Grant_begin_16 (lv_at hl 4 rfl) ?_
  have g9 : f7 h = some (.inr (3, gV (upd (upd (upd w 0 a) 1 b) 2 d) m1)) := by rw [e8, hm_up_s]
  refine hm_put X hK hM hS (fs' := gV (upd (upd (upd (upd w 0 a) 1 b) 2 d) 3 g) m1) g9 fl_Grant_19 rfl rfl (Nat.le_of_ble_eq_true rfl) rfl d_Grant_begin_18 (fun f10 H locs e11 hM hS => ?_)
  refine lv_aload_n hx hb d_Grant_begin_21 rfl (lv_at hl 0 rfl) ?_
  refine hm_aloadq hx hb d_Grant_begin_22 (lv_at hl 5 rfl) ?_
  have g12 : f10 h = some (.inr (3, gV (upd (upd (upd (upd w 0 a) 1 b) 2 d) 3 g) m1)) := by rw [e11, hm_up_s]
  refine hm_put X hK hM hS (fs' := gV (upd (upd (upd (upd w 0 a) 1 b) 2 d) 3 g) y) g12 fl_Grant_22 (hm_narq _ _) (hm_fitq _ _) (Nat.le_of_ble_eq_true rfl) rfl d_Grant_begin_24 (fun f13 H locs e14 hM hS => ?_)
  refine lv_aload_n hx hb d_Grant_begin_27 rfl (lv_at hl 0 rfl) ?_
  refine lv_iconst (v := 0) hx hb d_Grant_begin_28 (by decide) ?_
  have g15 : f13 h = some (.inr (3, gV (upd (upd (upd (upd w 0 a) 1 b) 2 d) 3 g) y)) := by rw [e14, hm_up_s]
  refine hm_put X hK hM hS (fs' := gV (upd (upd (upd (upd (upd w 0 a) 1 b) 2 d) 3 g) 6 0) y) g15 fl_Grant_26 rfl rfl (Nat.le_of_ble_eq_true rfl) rfl d_Grant_begin_29 (fun f16 H locs e17 hM hS => ?_)
  refine lv_aload_n hx hb d_Grant_begin_32 rfl (lv_at hl 0 rfl) ?_
  refine lv_iconst (v := 0) hx hb d_Grant_begin_33 (by decide) ?_
  have g18 : f16 h = some (.inr (3, gV (upd (upd (upd (upd (upd w 0 a) 1 b) 2 d) 3 g) 6 0) y)) := by rw [e17, hm_up_s]
  refine hm_put X hK hM hS (fs' := gV (upd (upd (upd (upd (upd (upd w 0 a) 1 b) 2 d) 3 g) 6 0) 7 0) y) g18 fl_Grant_30 rfl rfl (Nat.le_of_ble_eq_true rfl) rfl d_Grant_begin_34 (fun f19 H locs e20 hM hS => ?_)
  have g21 : f19 h = some (.inr (3, gV (upd (upd (upd (upd (upd (upd w 0 a) 1 b) 2 d) 3 g) 6 0) 7 0) y)) := by rw [e20, hm_up_s]
  exact hm_vret X hQ hr hlk hK hM hS d_Grant_begin_37 ⟨g21, (fun zq zx n0 hq => by have t0 := hq; have t1 := hm_keep e2 n0 t0; have t2 := hm_keep e5 n0 t1; have t3 := hm_keep e8 n0 t2; have t4 := hm_keep e11 n0 t3; have t5 := hm_keep e14 n0 t4; have t6 := hm_keep e17 n0 t5; have t7 := hm_keep e20 n0 t6; exact t7)⟩
set_option maxHeartbeats 4000000 in
set_option maxRecDepth 100000 in
theorem c_Grant_isActive (l : Launch) (D : va_G) (k : Nat → ClassId) (f : hm) (h : Nat) (w : Nat → Int32) (m1 : Option Nat) (fs : Int32) (fa : Int32) (fv : Int32) (x : Int32) (hh : f h = some (.inr (3, gV w m1))) (hfam : ∀ q, m1 = some q → f q = some (.inr (2, [.int fs, .int fa, .int fv]))) : hm_Mi l D vwCl (tyL k) y_Grant_isActive (Cond.code y_Grant_isActive b_Grant_isActive 2 (some .boolean) :: TB) ({ frames := 0, cells := 0, slots := 0, locals := 0 }) [.ref h, .int x] f (fun (r : Int32) (f1 : hm) => z_act w m1 fv x = r ∧ f = f1) 0 0 := by
  refine hm_enter (Qc := fun sz => va_Qi _ (hm_R D vwCl (tyL k) f sz) (hm_A f sz)) (by decide) rfl (Nat.le_of_ble_eq_true rfl) ?_
  intro p e s m below meth cd ls X0 hr hlk hin hK hM hS hA hl Q hQ
  have X : CallFix p m cd b_Grant_isActive 2 s ([.ref h, .int x] : List Value).toArray TB R_Grant := ⟨X0.1, X0.2.1, X0.2.2.1, X0.2.2.2.1, fun w h => X0.2.2.2.2 w (List.mem_cons_of_mem _ h)⟩
  have hx := X.1; have hb := X.2.1; have hml := X.2.2.1; have hown := X.2.2.2.1; have hts := X.2.2.2.2
  have hl : lv_has ls 2 [(0, .ref h), (1, .int x)] := hl
  refine lv_aload_n hx hb d_Grant_isActive_0 rfl (lv_at hl 0 rfl) ?_
  refine hm_get X hK hM hh fl_Grant_26 (v := .int (w 6)) rfl d_Grant_isActive_1 ?_
  refine lv_if_ne (tgt := 43) hx hb d_Grant_isActive_4 (by decide) (fun h1 => ?_) (fun h1 => ?_)
  · refine lv_iconst (v := 0) hx hb d_Grant_isActive_43 (by decide) ?_
    exact hm_zret X hQ hr hlk hK hM hS rfl d_Grant_isActive_44 ⟨(by simp [z_act, h1]), rfl⟩
  · refine lv_aload_n hx hb d_Grant_isActive_7 rfl (lv_at hl 0 rfl) ?_
    refine hm_get X hK hM hh fl_Grant_30 (v := .int (w 7)) rfl d_Grant_isActive_8 ?_
    refine lv_if_ne (tgt := 43) hx hb d_Grant_isActive_11 (by decide) (fun h2 => ?_) (fun h2 => ?_)
    · refine lv_iconst (v := 0) hx hb d_Grant_isActive_43 (by decide) ?_
      exact hm_zret X hQ hr hlk hK hM hS rfl d_Grant_isActive_44 ⟨(by simp [z_act, h1, h2]), rfl⟩
    · refine lv_aload_n hx hb d_Grant_isActive_14 rfl (lv_at hl 0 rfl) ?_
      refine hm_get X hK hM hh fl_Grant_22 (v := va_rf m1) rfl d_Grant_isActive_15 ?_
      refine hm_ifnullq (tgt := 31) hx hb d_Grant_isActive_18 (by decide) (fun h3 => ?_) (fun a4 h3 => ?_)
      · refine lv_aload_n hx hb d_Grant_isActive_31 rfl (lv_at hl 0 rfl) ?_
        refine hm_get X hK hM hh fl_Grant_19 (v := .int (w 3)) rfl d_Grant_isActive_32 ?_
        refine lv_iload_n hx hb d_Grant_isActive_35 rfl (lv_at hl 1 rfl) ?_
        refine lv_icmp_le (tgt := 43) hx hb d_Grant_isActive_36 (by decide) (fun h5 => ?_) (fun h5 => ?_)
        · refine lv_iconst (v := 0) hx hb d_Grant_isActive_43 (by decide) ?_
          exact hm_zret X hQ hr hlk hK hM hS rfl d_Grant_isActive_44 ⟨(by simp [z_act, h1, h2, h3, h5]), rfl⟩
        · refine lv_iconst (v := 1) hx hb d_Grant_isActive_39 (by decide) ?_
          refine lv_goto (tgt := 44) hx hb d_Grant_isActive_40 (by decide) ?_
          exact hm_zret X hQ hr hlk hK hM hS rfl d_Grant_isActive_44 ⟨(by simp [z_act, h1, h2, h3, h5]), rfl⟩
      · have g5 := hfam a4 h3
        refine lv_aload_n hx hb d_Grant_isActive_21 rfl (lv_at hl 0 rfl) ?_
        refine hm_get X hK hM hh fl_Grant_22 (v := va_rf m1) rfl d_Grant_isActive_22 ?_
        refine hm_ref h3 ?_
        refine hm_get X hK hM g5 fl_Grant_33 (v := .int fv) rfl d_Grant_isActive_25 ?_
        refine lv_if_ne (tgt := 43) hx hb d_Grant_isActive_28 (by decide) (fun h6 => ?_) (fun h6 => ?_)
        · refine lv_iconst (v := 0) hx hb d_Grant_isActive_43 (by decide) ?_
          exact hm_zret X hQ hr hlk hK hM hS rfl d_Grant_isActive_44 ⟨(by simp [z_act, h1, h2, h3, h6]), rfl⟩
        · refine lv_aload_n hx hb d_Grant_isActive_31 rfl (lv_at hl 0 rfl) ?_
          refine hm_get X hK hM hh fl_Grant_19 (v := .int (w 3)) rfl d_Grant_isActive_32 ?_
          refine lv_iload_n hx hb d_Grant_isActive_35 rfl (lv_at hl 1 rfl) ?_
          refine lv_icmp_le (tgt := 43) hx hb d_Grant_isActive_36 (by decide) (fun h7 => ?_) (fun h7 => ?_)
          · refine lv_iconst (v := 0) hx hb d_Grant_isActive_43 (by decide) ?_
            exact hm_zret X hQ hr hlk hK hM hS rfl d_Grant_isActive_44 ⟨(by simp [z_act, h1, h2, h3, h6, h7]), rfl⟩
          · refine lv_iconst (v := 1) hx hb d_Grant_isActive_39 (by decide) ?_
            refine lv_goto (tgt := 44) hx hb d_Grant_isActive_40 (by decide) ?_
            exact hm_zret X hQ hr hlk hK hM hS rfl d_Grant_isActive_44 ⟨(by simp [z_act, h1, h2, h3, h6, h7]), rfl⟩
set_option maxHeartbeats 4000000 in
set_option maxRecDepth 100000 in
theorem c_Shelf_rows (l : Launch) (D : va_G) (k : Nat → ClassId) (f : hm) (h : Nat) (a : Nat) (x : Int32) (hh : f h = some (.inr (4, [.ref a, .int x]))) : hm_Mi l D vwCl (tyL k) y_Shelf_rows (Cond.code y_Shelf_rows b_Shelf_rows 1 (some .int) :: TB) ({ frames := 0, cells := 0, slots := 0, locals := 0 }) [.ref h] f (fun (r : Int32) (f1 : hm) => x = r ∧ f = f1) 0 0 := by
  refine hm_enter (Qc := fun sz => va_Qi _ (hm_R D vwCl (tyL k) f sz) (hm_A f sz)) (by decide) rfl (Nat.le_of_ble_eq_true rfl) ?_
  intro p e s m below meth cd ls X0 hr hlk hin hK hM hS hA hl Q hQ
  have X : CallFix p m cd b_Shelf_rows 1 s ([.ref h] : List Value).toArray TB R_Shelf := ⟨X0.1, X0.2.1, X0.2.2.1, X0.2.2.2.1, fun w h => X0.2.2.2.2 w (List.mem_cons_of_mem _ h)⟩
  have hx := X.1; have hb := X.2.1; have hml := X.2.2.1; have hown := X.2.2.2.1; have hts := X.2.2.2.2
  have hl : lv_has ls 1 [(0, .ref h)] := hl
  refine lv_aload_n hx hb d_Shelf_rows_0 rfl (lv_at hl 0 rfl) ?_
  refine hm_get X hK hM hh fl_Shelf_7 (v := .int x) rfl d_Shelf_rows_1 ?_
  exact hm_iret X hQ hr hlk hK hM hS d_Shelf_rows_4 ⟨rfl, rfl⟩
set_option maxHeartbeats 4000000 in
set_option maxRecDepth 100000 in
theorem c_Shelf_isFull (l : Launch) (D : va_G) (k : Nat → ClassId) (f : hm) (h : Nat) (a : Nat) (N : Nat) (u : Nat) (g : Nat → Option Nat) (hh : f h = some (.inr (4, [.ref a, .int (nI u)]))) (ha : f a = some (.inl (k 3, N, .inr (.inr (.inr (.inr g)))))) (hu : u ≤ N) (hN : N ≤ 24) : hm_Mi l D vwCl (tyL k) y_Shelf_isFull (Cond.code y_Shelf_isFull b_Shelf_isFull 1 (some .boolean) :: TB) ({ frames := 0, cells := 0, slots := 0, locals := 0 }) [.ref h] f (fun (r : Int32) (f1 : hm) => z_full u N = r ∧ f = f1) 0 0 := by
  refine hm_enter (Qc := fun sz => va_Qi _ (hm_R D vwCl (tyL k) f sz) (hm_A f sz)) (by decide) rfl (Nat.le_of_ble_eq_true rfl) ?_
  intro p e s m below meth cd ls X0 hr hlk hin hK hM hS hA hl Q hQ
  have X : CallFix p m cd b_Shelf_isFull 1 s ([.ref h] : List Value).toArray TB R_Shelf := ⟨X0.1, X0.2.1, X0.2.2.1, X0.2.2.2.1, fun w h => X0.2.2.2.2 w (List.mem_cons_of_mem _ h)⟩
  have hx := X.1; have hb := X.2.1; have hml := X.2.2.1; have hown := X.2.2.2.1; have hts := X.2.2.2.2
  have hl : lv_has ls 1 [(0, .ref h)] := hl
  refine lv_aload_n hx hb d_Shelf_isFull_0 rfl (lv_at hl 0 rfl) ?_
  refine hm_get X hK hM hh fl_Shelf_7 (v := .int (nI u)) rfl d_Shelf_isFull_1 ?_
  refine lv_aload_n hx hb d_Shelf_isFull_4 rfl (lv_at hl 0 rfl) ?_
  refine hm_get X hK hM hh fl_Shelf_15 (v := .ref a) rfl d_Shelf_isFull_5 ?_
  refine hm_alen X hK hM ha 3 rfl (v := nI N) rfl d_Shelf_isFull_8 ?_
  refine lv_icmp_lt (tgt := 16) hx hb d_Shelf_isFull_9 (by decide) (fun h1 => ?_) (fun h1 => ?_)
  · refine lv_iconst (v := 0) hx hb d_Shelf_isFull_16 (by decide) ?_
    exact hm_zret X hQ hr hlk hK hM hS rfl d_Shelf_isFull_17 ⟨(z_full_lt (by simpa [nI_ltI (show u < 2 ^ 31 by omega) (show N < 2 ^ 31 by omega)] using h1)), rfl⟩
  · refine lv_iconst (v := 1) hx hb d_Shelf_isFull_12 (by decide) ?_
    refine lv_goto (tgt := 17) hx hb d_Shelf_isFull_13 (by decide) ?_
    exact hm_zret X hQ hr hlk hK hM hS rfl d_Shelf_isFull_17 ⟨(z_full_ge (by simpa [nI_ltI (show u < 2 ^ 31 by omega) (show N < 2 ^ 31 by omega)] using h1)), rfl⟩
