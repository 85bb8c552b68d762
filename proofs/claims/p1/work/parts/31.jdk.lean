theorem d_JString_charAt_0 : decode b_JString_charAt 0 = .ok (.aload_n 0, 1) := by decide +kernel
theorem d_JString_charAt_1 : decode b_JString_charAt 1 = .ok (.invokevirtual 492, 3) := by decide +kernel
theorem d_JString_charAt_4 : decode b_JString_charAt 4 = .ok (.ifCond .eq 12, 3) := by decide +kernel
theorem d_JString_charAt_7 : decode b_JString_charAt 7 = .ok (.aload_n 0, 1) := by decide +kernel
theorem d_JString_charAt_8 : decode b_JString_charAt 8 = .ok (.getfield 9, 3) := by decide +kernel
theorem d_JString_charAt_11 : decode b_JString_charAt 11 = .ok (.iload_n 1, 1) := by decide +kernel
theorem d_JString_charAt_12 : decode b_JString_charAt 12 = .ok (.invokestatic 495, 3) := by decide +kernel
theorem d_JString_charAt_15 : decode b_JString_charAt 15 = .ok (.ireturn, 1) := by decide +kernel
theorem d_JString_charAt_16 : decode b_JString_charAt 16 = .ok (.aload_n 0, 1) := by decide +kernel
theorem d_JString_charAt_17 : decode b_JString_charAt 17 = .ok (.getfield 9, 3) := by decide +kernel
theorem d_JString_charAt_20 : decode b_JString_charAt 20 = .ok (.iload_n 1, 1) := by decide +kernel
theorem d_JString_charAt_21 : decode b_JString_charAt 21 = .ok (.invokestatic 498, 3) := by decide +kernel
theorem d_JString_charAt_24 : decode b_JString_charAt 24 = .ok (.ireturn, 1) := by decide +kernel
theorem d_JString_isLatin1_0 : decode b_JString_isLatin1 0 = .ok (.getstatic 38, 3) := by decide +kernel
theorem d_JString_isLatin1_3 : decode b_JString_isLatin1 3 = .ok (.ifCond .eq 14, 3) := by decide +kernel
theorem d_JString_isLatin1_6 : decode b_JString_isLatin1 6 = .ok (.aload_n 0, 1) := by decide +kernel
theorem d_JString_isLatin1_7 : decode b_JString_isLatin1 7 = .ok (.getfield 15, 3) := by decide +kernel
theorem d_JString_isLatin1_10 : decode b_JString_isLatin1 10 = .ok (.ifCond .ne 7, 3) := by decide +kernel
theorem d_JString_isLatin1_13 : decode b_JString_isLatin1 13 = .ok (.iconst 1, 1) := by decide +kernel
theorem d_JString_isLatin1_14 : decode b_JString_isLatin1 14 = .ok (.goto 4, 3) := by decide +kernel
theorem d_JString_isLatin1_17 : decode b_JString_isLatin1 17 = .ok (.iconst 0, 1) := by decide +kernel
theorem d_JString_isLatin1_18 : decode b_JString_isLatin1 18 = .ok (.ireturn, 1) := by decide +kernel
theorem d_JString_coder_0 : decode b_JString_coder 0 = .ok (.getstatic 38, 3) := by decide +kernel
theorem d_JString_coder_3 : decode b_JString_coder 3 = .ok (.ifCond .eq 10, 3) := by decide +kernel
theorem d_JString_coder_6 : decode b_JString_coder 6 = .ok (.aload_n 0, 1) := by decide +kernel
theorem d_JString_coder_7 : decode b_JString_coder 7 = .ok (.getfield 15, 3) := by decide +kernel
theorem d_JString_coder_10 : decode b_JString_coder 10 = .ok (.goto 4, 3) := by decide +kernel
theorem d_JString_coder_13 : decode b_JString_coder 13 = .ok (.iconst 1, 1) := by decide +kernel
theorem d_JString_coder_14 : decode b_JString_coder 14 = .ok (.ireturn, 1) := by decide +kernel
theorem d_JString_length_0 : decode b_JString_length 0 = .ok (.aload_n 0, 1) := by decide +kernel
theorem d_JString_length_1 : decode b_JString_length 1 = .ok (.getfield 9, 3) := by decide +kernel
theorem d_JString_length_4 : decode b_JString_length 4 = .ok (.arraylength, 1) := by decide +kernel
theorem d_JString_length_5 : decode b_JString_length 5 = .ok (.aload_n 0, 1) := by decide +kernel
theorem d_JString_length_6 : decode b_JString_length 6 = .ok (.invokevirtual 335, 3) := by decide +kernel
theorem d_JString_length_9 : decode b_JString_length 9 = .ok (.ishr, 1) := by decide +kernel
theorem d_JString_length_10 : decode b_JString_length 10 = .ok (.ireturn, 1) := by decide +kernel
theorem d_JString_checkIndex_0 : decode b_JString_checkIndex 0 = .ok (.iload_n 0, 1) := by decide +kernel
theorem d_JString_checkIndex_1 : decode b_JString_checkIndex 1 = .ok (.iload_n 1, 1) := by decide +kernel
theorem d_JString_checkIndex_2 : decode b_JString_checkIndex 2 = .ok (.getstatic 1053, 3) := by decide +kernel
theorem d_JString_checkIndex_5 : decode b_JString_checkIndex 5 = .ok (.invokestatic 1059, 3) := by decide +kernel
theorem d_JString_checkIndex_8 : decode b_JString_checkIndex 8 = .ok (.pop, 1) := by decide +kernel
theorem d_JString_checkIndex_9 : decode b_JString_checkIndex 9 = .ok (.return_, 1) := by decide +kernel
theorem d_JString_indexOf_0 : decode b_JString_indexOf 0 = .ok (.aload_n 0, 1) := by decide +kernel
theorem d_JString_indexOf_1 : decode b_JString_indexOf 1 = .ok (.iload_n 1, 1) := by decide +kernel
theorem d_JString_indexOf_2 : decode b_JString_indexOf 2 = .ok (.iconst 0, 1) := by decide +kernel
theorem d_JString_indexOf_3 : decode b_JString_indexOf 3 = .ok (.invokevirtual 633, 3) := by decide +kernel
theorem d_JString_indexOf_6 : decode b_JString_indexOf 6 = .ok (.ireturn, 1) := by decide +kernel
theorem d_JString_indexOf2_0 : decode b_JString_indexOf2 0 = .ok (.aload_n 0, 1) := by decide +kernel
theorem d_JString_indexOf2_1 : decode b_JString_indexOf2 1 = .ok (.invokevirtual 492, 3) := by decide +kernel
theorem d_JString_indexOf2_4 : decode b_JString_indexOf2 4 = .ok (.ifCond .eq 19, 3) := by decide +kernel
theorem d_JString_indexOf2_7 : decode b_JString_indexOf2 7 = .ok (.aload_n 0, 1) := by decide +kernel
theorem d_JString_indexOf2_8 : decode b_JString_indexOf2 8 = .ok (.getfield 9, 3) := by decide +kernel
theorem d_JString_indexOf2_11 : decode b_JString_indexOf2 11 = .ok (.iload_n 1, 1) := by decide +kernel
theorem d_JString_indexOf2_12 : decode b_JString_indexOf2 12 = .ok (.iload_n 2, 1) := by decide +kernel
theorem d_JString_indexOf2_13 : decode b_JString_indexOf2 13 = .ok (.aload_n 0, 1) := by decide +kernel
theorem d_JString_indexOf2_14 : decode b_JString_indexOf2 14 = .ok (.invokevirtual 505, 3) := by decide +kernel
theorem d_JString_indexOf2_17 : decode b_JString_indexOf2 17 = .ok (.invokestatic 637, 3) := by decide +kernel
theorem d_JString_indexOf2_20 : decode b_JString_indexOf2 20 = .ok (.goto 16, 3) := by decide +kernel
theorem d_JString_indexOf2_23 : decode b_JString_indexOf2 23 = .ok (.aload_n 0, 1) := by decide +kernel
theorem d_JString_indexOf2_24 : decode b_JString_indexOf2 24 = .ok (.getfield 9, 3) := by decide +kernel
theorem d_JString_indexOf2_27 : decode b_JString_indexOf2 27 = .ok (.iload_n 1, 1) := by decide +kernel
theorem d_JString_indexOf2_28 : decode b_JString_indexOf2 28 = .ok (.iload_n 2, 1) := by decide +kernel
theorem d_JString_indexOf2_29 : decode b_JString_indexOf2 29 = .ok (.aload_n 0, 1) := by decide +kernel
theorem d_JString_indexOf2_30 : decode b_JString_indexOf2 30 = .ok (.invokevirtual 505, 3) := by decide +kernel
theorem d_JString_indexOf2_33 : decode b_JString_indexOf2 33 = .ok (.invokestatic 640, 3) := by decide +kernel
theorem d_JString_indexOf2_36 : decode b_JString_indexOf2 36 = .ok (.ireturn, 1) := by decide +kernel
theorem d_JStringLatin1_charAt_0 : decode b_JStringLatin1_charAt 0 = .ok (.iload_n 1, 1) := by decide +kernel
theorem d_JStringLatin1_charAt_1 : decode b_JStringLatin1_charAt 1 = .ok (.aload_n 0, 1) := by decide +kernel
theorem d_JStringLatin1_charAt_2 : decode b_JStringLatin1_charAt 2 = .ok (.arraylength, 1) := by decide +kernel
theorem d_JStringLatin1_charAt_3 : decode b_JStringLatin1_charAt 3 = .ok (.invokestatic 9, 3) := by decide +kernel
theorem d_JStringLatin1_charAt_6 : decode b_JStringLatin1_charAt 6 = .ok (.aload_n 0, 1) := by decide +kernel
theorem d_JStringLatin1_charAt_7 : decode b_JStringLatin1_charAt 7 = .ok (.iload_n 1, 1) := by decide +kernel
theorem d_JStringLatin1_charAt_8 : decode b_JStringLatin1_charAt 8 = .ok (.baload, 1) := by decide +kernel
theorem d_JStringLatin1_charAt_9 : decode b_JStringLatin1_charAt 9 = .ok (.sipush 255, 3) := by decide +kernel
theorem d_JStringLatin1_charAt_12 : decode b_JStringLatin1_charAt 12 = .ok (.iand, 1) := by decide +kernel
theorem d_JStringLatin1_charAt_13 : decode b_JStringLatin1_charAt 13 = .ok (.i2c, 1) := by decide +kernel
theorem d_JStringLatin1_charAt_14 : decode b_JStringLatin1_charAt 14 = .ok (.ireturn, 1) := by decide +kernel
theorem d_JStringLatin1_indexOf_0 : decode b_JStringLatin1_indexOf 0 = .ok (.iload_n 1, 1) := by decide +kernel
theorem d_JStringLatin1_indexOf_1 : decode b_JStringLatin1_indexOf 1 = .ok (.invokestatic 88, 3) := by decide +kernel
theorem d_JStringLatin1_indexOf_4 : decode b_JStringLatin1_indexOf 4 = .ok (.ifCond .ne 5, 3) := by decide +kernel
theorem d_JStringLatin1_indexOf_7 : decode b_JStringLatin1_indexOf 7 = .ok (.iconst (-1), 1) := by decide +kernel
theorem d_JStringLatin1_indexOf_8 : decode b_JStringLatin1_indexOf 8 = .ok (.ireturn, 1) := by decide +kernel
theorem d_JStringLatin1_indexOf_9 : decode b_JStringLatin1_indexOf 9 = .ok (.iload_n 2, 1) := by decide +kernel
theorem d_JStringLatin1_indexOf_10 : decode b_JStringLatin1_indexOf 10 = .ok (.iconst 0, 1) := by decide +kernel
theorem d_JStringLatin1_indexOf_11 : decode b_JStringLatin1_indexOf 11 = .ok (.invokestatic 92, 3) := by decide +kernel
theorem d_JStringLatin1_indexOf_14 : decode b_JStringLatin1_indexOf 14 = .ok (.istore_n 2, 1) := by decide +kernel
theorem d_JStringLatin1_indexOf_15 : decode b_JStringLatin1_indexOf 15 = .ok (.iload_n 3, 1) := by decide +kernel
theorem d_JStringLatin1_indexOf_16 : decode b_JStringLatin1_indexOf 16 = .ok (.aload_n 0, 1) := by decide +kernel
theorem d_JStringLatin1_indexOf_17 : decode b_JStringLatin1_indexOf 17 = .ok (.arraylength, 1) := by decide +kernel
theorem d_JStringLatin1_indexOf_18 : decode b_JStringLatin1_indexOf 18 = .ok (.invokestatic 38, 3) := by decide +kernel
theorem d_JStringLatin1_indexOf_21 : decode b_JStringLatin1_indexOf 21 = .ok (.istore_n 3, 1) := by decide +kernel
theorem d_JStringLatin1_indexOf_22 : decode b_JStringLatin1_indexOf 22 = .ok (.iload_n 2, 1) := by decide +kernel
theorem d_JStringLatin1_indexOf_23 : decode b_JStringLatin1_indexOf 23 = .ok (.iload_n 3, 1) := by decide +kernel
theorem d_JStringLatin1_indexOf_24 : decode b_JStringLatin1_indexOf 24 = .ok (.if_icmp .lt 5, 3) := by decide +kernel
theorem d_JStringLatin1_indexOf_27 : decode b_JStringLatin1_indexOf 27 = .ok (.iconst (-1), 1) := by decide +kernel
theorem d_JStringLatin1_indexOf_28 : decode b_JStringLatin1_indexOf 28 = .ok (.ireturn, 1) := by decide +kernel
theorem d_JStringLatin1_indexOf_29 : decode b_JStringLatin1_indexOf 29 = .ok (.aload_n 0, 1) := by decide +kernel
theorem d_JStringLatin1_indexOf_30 : decode b_JStringLatin1_indexOf 30 = .ok (.iload_n 1, 1) := by decide +kernel
theorem d_JStringLatin1_indexOf_31 : decode b_JStringLatin1_indexOf 31 = .ok (.iload_n 2, 1) := by decide +kernel
theorem d_JStringLatin1_indexOf_32 : decode b_JStringLatin1_indexOf 32 = .ok (.iload_n 3, 1) := by decide +kernel
theorem d_JStringLatin1_indexOf_33 : decode b_JStringLatin1_indexOf 33 = .ok (.invokestatic 95, 3) := by decide +kernel
theorem d_JStringLatin1_indexOf_36 : decode b_JStringLatin1_indexOf 36 = .ok (.ireturn, 1) := by decide +kernel
theorem d_JStringLatin1_canEncode_0 : decode b_JStringLatin1_canEncode 0 = .ok (.iload_n 0, 1) := by decide +kernel
theorem d_JStringLatin1_canEncode_1 : decode b_JStringLatin1_canEncode 1 = .ok (.ifCond .lt 14, 3) := by decide +kernel
theorem d_JStringLatin1_canEncode_4 : decode b_JStringLatin1_canEncode 4 = .ok (.iload_n 0, 1) := by decide +kernel
theorem d_JStringLatin1_canEncode_5 : decode b_JStringLatin1_canEncode 5 = .ok (.sipush 255, 3) := by decide +kernel
theorem d_JStringLatin1_canEncode_8 : decode b_JStringLatin1_canEncode 8 = .ok (.if_icmp .gt 7, 3) := by decide +kernel
theorem d_JStringLatin1_canEncode_11 : decode b_JStringLatin1_canEncode 11 = .ok (.iconst 1, 1) := by decide +kernel
theorem d_JStringLatin1_canEncode_12 : decode b_JStringLatin1_canEncode 12 = .ok (.goto 4, 3) := by decide +kernel
theorem d_JStringLatin1_canEncode_15 : decode b_JStringLatin1_canEncode 15 = .ok (.iconst 0, 1) := by decide +kernel
theorem d_JStringLatin1_canEncode_16 : decode b_JStringLatin1_canEncode 16 = .ok (.ireturn, 1) := by decide +kernel
theorem d_JStringLatin1_indexOfChar_0 : decode b_JStringLatin1_indexOfChar 0 = .ok (.iload_n 1, 1) := by decide +kernel
theorem d_JStringLatin1_indexOfChar_1 : decode b_JStringLatin1_indexOfChar 1 = .ok (.i2b, 1) := by decide +kernel
theorem d_JStringLatin1_indexOfChar_2 : decode b_JStringLatin1_indexOfChar 2 = .ok (.istore 4, 2) := by decide +kernel
theorem d_JStringLatin1_indexOfChar_4 : decode b_JStringLatin1_indexOfChar 4 = .ok (.iload_n 2, 1) := by decide +kernel
theorem d_JStringLatin1_indexOfChar_5 : decode b_JStringLatin1_indexOfChar 5 = .ok (.istore 5, 2) := by decide +kernel
theorem d_JStringLatin1_indexOfChar_7 : decode b_JStringLatin1_indexOfChar 7 = .ok (.iload 5, 2) := by decide +kernel
theorem d_JStringLatin1_indexOfChar_9 : decode b_JStringLatin1_indexOfChar 9 = .ok (.iload_n 3, 1) := by decide +kernel
theorem d_JStringLatin1_indexOfChar_10 : decode b_JStringLatin1_indexOfChar 10 = .ok (.if_icmp .ge 21, 3) := by decide +kernel
theorem d_JStringLatin1_indexOfChar_13 : decode b_JStringLatin1_indexOfChar 13 = .ok (.aload_n 0, 1) := by decide +kernel
theorem d_JStringLatin1_indexOfChar_14 : decode b_JStringLatin1_indexOfChar 14 = .ok (.iload 5, 2) := by decide +kernel
theorem d_JStringLatin1_indexOfChar_16 : decode b_JStringLatin1_indexOfChar 16 = .ok (.baload, 1) := by decide +kernel
theorem d_JStringLatin1_indexOfChar_17 : decode b_JStringLatin1_indexOfChar 17 = .ok (.iload 4, 2) := by decide +kernel
theorem d_JStringLatin1_indexOfChar_19 : decode b_JStringLatin1_indexOfChar 19 = .ok (.if_icmp .ne 6, 3) := by decide +kernel
theorem d_JStringLatin1_indexOfChar_22 : decode b_JStringLatin1_indexOfChar 22 = .ok (.iload 5, 2) := by decide +kernel
theorem d_JStringLatin1_indexOfChar_24 : decode b_JStringLatin1_indexOfChar 24 = .ok (.ireturn, 1) := by decide +kernel
theorem d_JStringLatin1_indexOfChar_25 : decode b_JStringLatin1_indexOfChar 25 = .ok (.iinc 5 1, 3) := by decide +kernel
theorem d_JStringLatin1_indexOfChar_28 : decode b_JStringLatin1_indexOfChar 28 = .ok (.goto (-21), 3) := by decide +kernel
theorem d_JStringLatin1_indexOfChar_31 : decode b_JStringLatin1_indexOfChar 31 = .ok (.iconst (-1), 1) := by decide +kernel
theorem d_JStringLatin1_indexOfChar_32 : decode b_JStringLatin1_indexOfChar 32 = .ok (.ireturn, 1) := by decide +kernel
theorem d_JPre_checkIndex_0 : decode b_JPre_checkIndex 0 = .ok (.iload_n 0, 1) := by decide +kernel
theorem d_JPre_checkIndex_1 : decode b_JPre_checkIndex 1 = .ok (.ifCond .lt 8, 3) := by decide +kernel
theorem d_JPre_checkIndex_4 : decode b_JPre_checkIndex 4 = .ok (.iload_n 0, 1) := by decide +kernel
theorem d_JPre_checkIndex_5 : decode b_JPre_checkIndex 5 = .ok (.iload_n 1, 1) := by decide +kernel
theorem d_JPre_checkIndex_6 : decode b_JPre_checkIndex 6 = .ok (.if_icmp .lt 10, 3) := by decide +kernel
theorem d_JPre_checkIndex_9 : decode b_JPre_checkIndex 9 = .ok (.aload_n 2, 1) := by decide +kernel
theorem d_JPre_checkIndex_10 : decode b_JPre_checkIndex 10 = .ok (.iload_n 0, 1) := by decide +kernel
theorem d_JPre_checkIndex_11 : decode b_JPre_checkIndex 11 = .ok (.iload_n 1, 1) := by decide +kernel
theorem d_JPre_checkIndex_12 : decode b_JPre_checkIndex 12 = .ok (.invokestatic 95, 3) := by decide +kernel
theorem d_JPre_checkIndex_15 : decode b_JPre_checkIndex 15 = .ok (.athrow, 1) := by decide +kernel
theorem d_JPre_checkIndex_16 : decode b_JPre_checkIndex 16 = .ok (.iload_n 0, 1) := by decide +kernel
theorem d_JPre_checkIndex_17 : decode b_JPre_checkIndex 17 = .ok (.ireturn, 1) := by decide +kernel
set_option maxRecDepth 20000 in
theorem me_JPre_checkIndex : hm_meS y_JPre_checkIndex b_JPre_checkIndex 3 (some .int) 3 := ⟨⟨(TBm 378 rfl rfl), (TBm 52 (by decide +kernel) rfl), by decide +kernel⟩, (TBm 377 (by decide +kernel) rfl)⟩
set_option maxRecDepth 20000 in
theorem me_JStringLatin1_canEncode : hm_meS y_JStringLatin1_canEncode b_JStringLatin1_canEncode 1 (some .boolean) 1 := ⟨⟨(TBm 504 rfl rfl), (TBm 51 (by decide +kernel) rfl), by decide +kernel⟩, (TBm 503 (by decide +kernel) rfl)⟩
set_option maxRecDepth 20000 in
theorem me_JStringLatin1_charAt : hm_meS y_JStringLatin1_charAt b_JStringLatin1_charAt 2 (some .char) 2 := ⟨⟨(TBm 370 rfl rfl), (TBm 51 (by decide +kernel) rfl), by decide +kernel⟩, (TBm 369 (by decide +kernel) rfl)⟩
set_option maxRecDepth 20000 in
theorem me_JStringLatin1_indexOf : hm_meS y_JStringLatin1_indexOf b_JStringLatin1_indexOf 4 (some .int) 4 := ⟨⟨(TBm 501 rfl rfl), (TBm 51 (by decide +kernel) rfl), by decide +kernel⟩, (TBm 500 (by decide +kernel) rfl)⟩
set_option maxRecDepth 20000 in
theorem me_JStringLatin1_indexOfChar : hm_meS y_JStringLatin1_indexOfChar b_JStringLatin1_indexOfChar 6 (some .int) 4 := ⟨⟨(TBm 509 rfl rfl), (TBm 51 (by decide +kernel) rfl), by decide +kernel⟩, (TBm 508 (by decide +kernel) rfl)⟩
set_option maxRecDepth 20000 in
theorem me_JString_checkIndex : hm_meS y_JString_checkIndex b_JString_checkIndex 2 none 2 := ⟨⟨(TBm 373 rfl rfl), (TBm 50 (by decide +kernel) rfl), by decide +kernel⟩, (TBm 372 (by decide +kernel) rfl)⟩
set_option maxRecDepth 20000 in
theorem me_JString_coder : hm_meV y_JString_coder b_JString_coder 1 (some .byte) 0 := ⟨⟨(TBm 357 rfl rfl), (TBm 50 (by decide +kernel) rfl), by decide +kernel⟩, (TBm 355 (by decide +kernel) rfl), (TBm 356 (by decide +kernel) rfl)⟩
set_option maxRecDepth 20000 in
theorem me_JString_indexOf2 : hm_meV y_JString_indexOf2 b_JString_indexOf2 3 (some .int) 2 := ⟨⟨(TBm 497 rfl rfl), (TBm 50 (by decide +kernel) rfl), by decide +kernel⟩, (TBm 495 (by decide +kernel) rfl), (TBm 496 (by decide +kernel) rfl)⟩
set_option maxRecDepth 20000 in
theorem me_JString_isLatin1 : hm_meV y_JString_isLatin1 b_JString_isLatin1 1 (some .boolean) 0 := ⟨⟨(TBm 367 rfl rfl), (TBm 50 (by decide +kernel) rfl), by decide +kernel⟩, (TBm 365 (by decide +kernel) rfl), (TBm 366 (by decide +kernel) rfl)⟩
set_option maxRecDepth 20000 in
theorem me_JString_length : hm_meV y_JString_length b_JString_length 1 (some .int) 0 := ⟨⟨(TBm 353 rfl rfl), (TBm 50 (by decide +kernel) rfl), by decide +kernel⟩, (TBm 351 (by decide +kernel) rfl), (TBm 352 (by decide +kernel) rfl)⟩
set_option maxRecDepth 20000 in
theorem wf_JString_1053 : Cond.fieldLink R_JString 1053 "jdk/internal/util/Preconditions" "SIOOBE_FORMATTER" "Ljava/util/function/BiFunction;" ∈ TB := TBm 374 (by decide +kernel) rfl
set_option maxRecDepth 20000 in
theorem wf_JString_15 : Cond.fieldLink R_JString 15 "java/lang/String" "coder" "B" ∈ TB := TBm 971 (by decide +kernel) rfl
set_option maxRecDepth 20000 in
theorem wf_JString_38 : Cond.fieldLink R_JString 38 "java/lang/String" "COMPACT_STRINGS" "Z" ∈ TB := TBm 358 (by decide +kernel) rfl
set_option maxRecDepth 20000 in
theorem wf_JString_9 : Cond.fieldLink R_JString 9 "java/lang/String" "value" "[B" ∈ TB := TBm 970 (by decide +kernel) rfl
set_option maxRecDepth 20000 in
theorem wl_JStringLatin1_38 : Cond.methodLink R_JStringLatin1 38 Lib.Math.min.name ∈ TB := TBm 506 (by decide +kernel) rfl
set_option maxRecDepth 20000 in
theorem wl_JStringLatin1_88 : Cond.methodLink R_JStringLatin1 88 y_JStringLatin1_canEncode ∈ TB := TBm 502 (by decide +kernel) rfl
set_option maxRecDepth 20000 in
theorem wl_JStringLatin1_9 : Cond.methodLink R_JStringLatin1 9 y_JString_checkIndex ∈ TB := TBm 371 (by decide +kernel) rfl
set_option maxRecDepth 20000 in
theorem wl_JStringLatin1_92 : Cond.methodLink R_JStringLatin1 92 Lib.Math.max.name ∈ TB := TBm 505 (by decide +kernel) rfl
set_option maxRecDepth 20000 in
theorem wl_JStringLatin1_95 : Cond.methodLink R_JStringLatin1 95 y_JStringLatin1_indexOfChar ∈ TB := TBm 507 (by decide +kernel) rfl
set_option maxRecDepth 20000 in
theorem wl_JString_1059 : Cond.methodLink R_JString 1059 y_JPre_checkIndex ∈ TB := TBm 376 (by decide +kernel) rfl
set_option maxRecDepth 20000 in
theorem wl_JString_335 : Cond.methodLink R_JString 335 y_JString_coder ∈ TB := TBm 354 (by decide +kernel) rfl
set_option maxRecDepth 20000 in
theorem wl_JString_492 : Cond.methodLink R_JString 492 y_JString_isLatin1 ∈ TB := TBm 364 (by decide +kernel) rfl
set_option maxRecDepth 20000 in
theorem wl_JString_495 : Cond.methodLink R_JString 495 y_JStringLatin1_charAt ∈ TB := TBm 368 (by decide +kernel) rfl
set_option maxRecDepth 20000 in
theorem wl_JString_505 : Cond.methodLink R_JString 505 y_JString_length ∈ TB := TBm 498 (by decide +kernel) rfl
set_option maxRecDepth 20000 in
theorem wl_JString_633 : Cond.methodLink R_JString 633 y_JString_indexOf2 ∈ TB := TBm 494 (by decide +kernel) rfl
set_option maxRecDepth 20000 in
theorem wl_JString_637 : Cond.methodLink R_JString 637 y_JStringLatin1_indexOf ∈ TB := TBm 499 (by decide +kernel) rfl
set_option maxHeartbeats 4000000 in
set_option maxRecDepth 100000 in
theorem j_isLatin1 (l : Launch) (D : va_G) (k : Nat → ClassId) (sA sV : Nat → Nat) (f : hm) (i : Nat) (hi : i < 12) : hm_MiZ l sA sV D vwCl (tyL k) y_JString_isLatin1 (Cond.code y_JString_isLatin1 b_JString_isLatin1 1 (some .boolean) :: TB) ({ frames := 0, cells := 0, slots := 0, locals := 0 }) [.ref (sA i)] f (fun (r : Int32) (f1 : hm) => 1 = r ∧ f = f1) 0 0 := by
  refine hm_enterZ (Qc := fun sz => va_Qi _ (hm_R D vwCl (tyL k) f sz) (hm_A f sz)) (by decide) rfl (Nat.le_of_ble_eq_true rfl) ?_
  intro p e s m below meth cd ls hZ X0 hr hlk hin hK hM hS hA hl Q hQ
  have X : CallFix p m cd b_JString_isLatin1 1 s ([.ref (sA i)] : List Value).toArray TB R_JString := ⟨X0.1, X0.2.1, X0.2.2.1, X0.2.2.2.1, fun w h => X0.2.2.2.2 w (List.mem_cons_of_mem _ h)⟩
  have hx := X.1; have hb := X.2.1; have hml := X.2.2.1; have hown := X.2.2.2.1; have hts := X.2.2.2.2
  have hl : lv_has ls 1 [(0, .ref (sA i))] := hl
  refine va_gets hx hb hZ.2.1 hS hown (hts _ wf_JString_38) (fun x h => h) d_JString_isLatin1_0 ?_
  refine lv_if_eq (tgt := 17) hx hb d_JString_isLatin1_3 (by decide) (fun h1 => ?_) (fun h1 => ?_)
  · exact absurd h1 (by decide)
  · refine lv_aload_n hx hb d_JString_isLatin1_6 rfl (lv_at hl 0 rfl) ?_
    refine vk_getf hx hb (hZ.1.1 i (by omega)).2.1 hS hown (hts _ wf_JString_15) (fun x h => h) d_JString_isLatin1_7 ?_
    refine lv_if_ne (tgt := 17) hx hb d_JString_isLatin1_10 (by decide) (fun h2 => ?_) (fun h2 => ?_)
    · exact absurd h2 (by decide)
    · refine lv_iconst (v := 1) hx hb d_JString_isLatin1_13 (by decide) ?_
      refine lv_goto (tgt := 18) hx hb d_JString_isLatin1_14 (by decide) ?_
      exact hm_zret X hQ hr hlk hK hM hS rfl d_JString_isLatin1_18 ⟨rfl, rfl⟩
set_option maxHeartbeats 4000000 in
set_option maxRecDepth 100000 in
theorem j_coder (l : Launch) (D : va_G) (k : Nat → ClassId) (sA sV : Nat → Nat) (f : hm) (i : Nat) (hi : i < 12) : hm_MiZ l sA sV D vwCl (tyL k) y_JString_coder (Cond.code y_JString_coder b_JString_coder 1 (some .byte) :: TB) ({ frames := 0, cells := 0, slots := 0, locals := 0 }) [.ref (sA i)] f (fun (r : Int32) (f1 : hm) => 0 = r ∧ f = f1) 0 0 := by
  refine hm_enterZ (Qc := fun sz => va_Qi _ (hm_R D vwCl (tyL k) f sz) (hm_A f sz)) (by decide) rfl (Nat.le_of_ble_eq_true rfl) ?_
  intro p e s m below meth cd ls hZ X0 hr hlk hin hK hM hS hA hl Q hQ
  have X : CallFix p m cd b_JString_coder 1 s ([.ref (sA i)] : List Value).toArray TB R_JString := ⟨X0.1, X0.2.1, X0.2.2.1, X0.2.2.2.1, fun w h => X0.2.2.2.2 w (List.mem_cons_of_mem _ h)⟩
  have hx := X.1; have hb := X.2.1; have hml := X.2.2.1; have hown := X.2.2.2.1; have hts := X.2.2.2.2
  have hl : lv_has ls 1 [(0, .ref (sA i))] := hl
  refine va_gets hx hb hZ.2.1 hS hown (hts _ wf_JString_38) (fun x h => h) d_JString_coder_0 ?_
  refine lv_if_eq (tgt := 13) hx hb d_JString_coder_3 (by decide) (fun h1 => ?_) (fun h1 => ?_)
  · exact absurd h1 (by decide)
  · refine lv_aload_n hx hb d_JString_coder_6 rfl (lv_at hl 0 rfl) ?_
    refine vk_getf hx hb (hZ.1.1 i (by omega)).2.1 hS hown (hts _ wf_JString_15) (fun x h => h) d_JString_coder_7 ?_
    refine lv_goto (tgt := 14) hx hb d_JString_coder_10 (by decide) ?_
    exact hm_zret X hQ hr hlk hK hM hS rfl d_JString_coder_14 ⟨rfl, rfl⟩
set_option maxHeartbeats 4000000 in
set_option maxRecDepth 100000 in
theorem j_length (l : Launch) (D : va_G) (k : Nat → ClassId) (sA sV : Nat → Nat) (f : hm) (i : Nat) (hi : i < 12) : hm_MiZ l sA sV D vwCl (tyL k) y_JString_length (Cond.code y_JString_length b_JString_length 1 (some .int) :: TB) ({ frames := 1, cells := 0, slots := 0, locals := 20 }) [.ref (sA i)] f (fun (r : Int32) (f1 : hm) => nI (st_len.getD i 0) = r ∧ f = f1) 0 0 := by
  refine hm_enterZ (Qc := fun sz => va_Qi _ (hm_R D vwCl (tyL k) f sz) (hm_A f sz)) (by decide) rfl (Nat.le_of_ble_eq_true rfl) ?_
  intro p e s m below meth cd ls hZ X0 hr hlk hin hK hM hS hA hl Q hQ
  have X : CallFix p m cd b_JString_length 1 s ([.ref (sA i)] : List Value).toArray TB R_JString := ⟨X0.1, X0.2.1, X0.2.2.1, X0.2.2.2.1, fun w h => X0.2.2.2.2 w (List.mem_cons_of_mem _ h)⟩
  have hx := X.1; have hb := X.2.1; have hml := X.2.2.1; have hown := X.2.2.2.1; have hts := X.2.2.2.2
  have hl : lv_has ls 1 [(0, .ref (sA i))] := hl
  refine lv_aload_n hx hb d_JString_length_0 rfl (lv_at hl 0 rfl) ?_
  refine vk_getf hx hb (hZ.1.1 i (by omega)).2.2.1 hS hown (hts _ wf_JString_9) (fun x h => h) d_JString_length_1 ?_
  refine va_tlen hx hb (hZ.1.1 i (by omega)).2.2.2 hS (v := nI (st_len.getD i 0)) rfl d_JString_length_4 ?_
  refine lv_aload_n hx hb d_JString_length_5 rfl (lv_at hl 0 rfl) ?_
  refine hm_calli hS hM hA (va_runV (As := []) (rest := [.int (nI (st_len.getD i 0))]) X (j_coder l D k sA sV f i  (by omega) s.heap.size) (hm_cwV hts me_JString_coder wl_JString_335 rfl rfl ⟨Nat.le_of_ble_eq_true rfl, Nat.le_of_ble_eq_true rfl⟩) (hm_preVT hZ hS hA hM hK (i := i) (by omega)) rfl rfl hl.1 rfl (lv_room (Nat.le_of_ble_eq_true rfl)) d_JString_length_6 ⟨Nat.le_of_ble_eq_true rfl, Nat.le_of_ble_eq_true rfl⟩) (fun r3 f1 H locs p2 hM hS => ?_)
  obtain ⟨rfl, rfl⟩ := p2
  refine lv_ishr hx hb d_JString_length_9 ?_
  refine hm_top (z := nI (st_len.getD i 0)) (sb_shr0 _) ?_
  exact hm_iret X hQ hr hlk hK hM hS d_JString_length_10 ⟨rfl, rfl⟩
set_option maxHeartbeats 4000000 in
set_option maxRecDepth 100000 in
theorem j_pcheck (l : Launch) (D : va_G) (k : Nat → ClassId) (f : hm) (j : Nat) (n : Nat) (o : Option Nat) (hj : j < n) (hn : n < 2 ^ 31) : hm_Mi l D vwCl (tyL k) y_JPre_checkIndex (Cond.code y_JPre_checkIndex b_JPre_checkIndex 3 (some .int) :: TB) ({ frames := 0, cells := 0, slots := 0, locals := 0 }) [.int (nI j), .int (nI n), va_rf o] f (fun (r : Int32) (f1 : hm) => nI j = r ∧ f = f1) 0 0 := by
  refine hm_enter (Qc := fun sz => va_Qi _ (hm_R D vwCl (tyL k) f sz) (hm_A f sz)) (by decide) rfl (by cases o <;> exact Nat.le_of_ble_eq_true rfl) ?_
  intro p e s m below meth cd ls X0 hr hlk hin hK hM hS hA hl Q hQ
  have X : CallFix p m cd b_JPre_checkIndex 3 s ([.int (nI j), .int (nI n), va_rf o] : List Value).toArray TB R_JPre := ⟨X0.1, X0.2.1, X0.2.2.1, X0.2.2.2.1, fun w h => X0.2.2.2.2 w (List.mem_cons_of_mem _ h)⟩
  have hx := X.1; have hb := X.2.1; have hml := X.2.2.1; have hown := X.2.2.2.1; have hts := X.2.2.2.2
  have hl : lv_has ls 3 [(0, .int (nI j)), (1, .int (nI n)), (2, va_rf o)] := hl
  refine lv_iload_n hx hb d_JPre_checkIndex_0 rfl (lv_at hl 0 rfl) ?_
  refine lv_if_lt (tgt := 9) hx hb d_JPre_checkIndex_1 (by decide) (fun h1 => ?_) (fun h1 => ?_)
  · exact absurd h1 (nI_pos (by omega))
  · refine lv_iload_n hx hb d_JPre_checkIndex_4 rfl (lv_at hl 0 rfl) ?_
    refine lv_iload_n hx hb d_JPre_checkIndex_5 rfl (lv_at hl 1 rfl) ?_
    refine lv_icmp_lt (tgt := 16) hx hb d_JPre_checkIndex_6 (by decide) (fun h2 => ?_) (fun h2 => ?_)
    · refine lv_iload_n hx hb d_JPre_checkIndex_16 rfl (lv_at hl 0 rfl) ?_
      exact hm_iret X hQ hr hlk hK hM hS d_JPre_checkIndex_17 ⟨rfl, rfl⟩
    · exact absurd (nI_lt hj hn) h2
set_option maxHeartbeats 4000000 in
set_option maxRecDepth 100000 in
theorem j_check (l : Launch) (D : va_G) (k : Nat → ClassId) (sA sV : Nat → Nat) (f : hm) (j : Nat) (n : Nat) (hj : j < n) (hn : n < 2 ^ 31) : hm_MvZ l sA sV D vwCl (tyL k) y_JString_checkIndex (Cond.code y_JString_checkIndex b_JString_checkIndex 2 none :: TB) ({ frames := 1, cells := 0, slots := 0, locals := 22 }) [.int (nI j), .int (nI n)] f (fun (f1 : hm) => f = f1) 0 0 := by
  refine hm_enterZ (Qc := fun sz => va_Qv _ (hm_R D vwCl (tyL k) f sz) (hm_A f sz)) (by decide) rfl (Nat.le_of_ble_eq_true rfl) ?_
  intro p e s m below meth cd ls hZ X0 hr hlk hin hK hM hS hA hl Q hQ
  have X : CallFix p m cd b_JString_checkIndex 2 s ([.int (nI j), .int (nI n)] : List Value).toArray TB R_JString := ⟨X0.1, X0.2.1, X0.2.2.1, X0.2.2.2.1, fun w h => X0.2.2.2.2 w (List.mem_cons_of_mem _ h)⟩
  have hx := X.1; have hb := X.2.1; have hml := X.2.2.1; have hown := X.2.2.2.1; have hts := X.2.2.2.2
  have hl : lv_has ls 2 [(0, .int (nI j)), (1, .int (nI n))] := hl
  refine lv_iload_n hx hb d_JString_checkIndex_0 rfl (lv_at hl 0 rfl) ?_
  refine lv_iload_n hx hb d_JString_checkIndex_1 rfl (lv_at hl 1 rfl) ?_
  obtain ⟨o9, hZ9⟩ := hZ.2.2.2
  refine va_gets hx hb hZ9 hS hown (hts _ wf_JString_1053) (fun x h => h) d_JString_checkIndex_2 ?_
  refine hm_calli hS hM hA (va_runS (As := [.int (nI j), .int (nI n), va_rf o9]) (rest := []) X (j_pcheck l D k f j n o9  (by omega) (by omega) s.heap.size) (hm_cwT hts me_JPre_checkIndex wl_JString_1059 rfl rfl ⟨Nat.le_of_ble_eq_true rfl, Nat.le_of_ble_eq_true rfl⟩) (hm_preS hM hK) rfl rfl hl.1 rfl (lv_room (Nat.le_of_ble_eq_true rfl)) d_JString_checkIndex_5 ⟨Nat.le_of_ble_eq_true rfl, Nat.le_of_ble_eq_true rfl⟩) (fun r3 f1 H locs p2 hM hS => ?_)
  obtain ⟨rfl, rfl⟩ := p2
  refine lv_pop hx hb d_JString_checkIndex_8 rfl ?_
  exact hm_vret X hQ hr hlk hK hM hS d_JString_checkIndex_9 rfl
set_option maxHeartbeats 4000000 in
set_option maxRecDepth 100000 in
theorem j_charAt1 (l : Launch) (D : va_G) (k : Nat → ClassId) (sA sV : Nat → Nat) (f : hm) (i : Nat) (j : Nat) (hi : i < 12) (hj : j < st_len.getD i 0) : hm_MiZ l sA sV D vwCl (tyL k) y_JStringLatin1_charAt (Cond.code y_JStringLatin1_charAt b_JStringLatin1_charAt 2 (some .char) :: TB) ({ frames := 2, cells := 0, slots := 0, locals := 43 }) [.ref (sV i), .int (nI j)] f (fun (r : Int32) (f1 : hm) => nI (st_chr i j) = r ∧ f = f1) 0 0 := by
  refine hm_enterZ (Qc := fun sz => va_Qi _ (hm_R D vwCl (tyL k) f sz) (hm_A f sz)) (by decide) rfl (Nat.le_of_ble_eq_true rfl) ?_
  intro p e s m below meth cd ls hZ X0 hr hlk hin hK hM hS hA hl Q hQ
  have X : CallFix p m cd b_JStringLatin1_charAt 2 s ([.ref (sV i), .int (nI j)] : List Value).toArray TB R_JStringLatin1 := ⟨X0.1, X0.2.1, X0.2.2.1, X0.2.2.2.1, fun w h => X0.2.2.2.2 w (List.mem_cons_of_mem _ h)⟩
  have hx := X.1; have hb := X.2.1; have hml := X.2.2.1; have hown := X.2.2.2.1; have hts := X.2.2.2.2
  have hl : lv_has ls 2 [(0, .ref (sV i)), (1, .int (nI j))] := hl
  have hln := st_ln i hi
  refine lv_iload_n hx hb d_JStringLatin1_charAt_0 rfl (lv_at hl 1 rfl) ?_
  refine lv_aload_n hx hb d_JStringLatin1_charAt_1 rfl (lv_at hl 0 rfl) ?_
  refine va_tlen hx hb (hZ.1.1 i (by omega)).2.2.2 hS (v := nI (st_len.getD i 0)) rfl d_JStringLatin1_charAt_2 ?_
  refine hm_callv hS hM hA (va_runS (As := [.int (nI j), .int (nI (st_len.getD i 0))]) (rest := []) X (j_check l D k sA sV f j (st_len.getD i 0)  (by omega) (by omega) s.heap.size) (hm_cwT hts me_JString_checkIndex wl_JStringLatin1_9 rfl rfl ⟨Nat.le_of_ble_eq_true rfl, Nat.le_of_ble_eq_true rfl⟩) (hm_preSZ hZ hS hA hM hK) rfl rfl hl.1 rfl (lv_room (Nat.le_of_ble_eq_true rfl)) d_JStringLatin1_charAt_3 ⟨Nat.le_of_ble_eq_true rfl, Nat.le_of_ble_eq_true rfl⟩) (fun f1 H locs p2 hM hS => ?_)
  subst p2
  refine lv_aload_n hx hb d_JStringLatin1_charAt_6 rfl (lv_at hl 0 rfl) ?_
  refine lv_iload_n hx hb d_JStringLatin1_charAt_7 rfl (lv_at hl 1 rfl) ?_
  refine va_tb hx hb (hZ.1.1 i (by omega)).2.2.2 hS (hm_in (j := j) rfl hj (by omega)).1 (v := .int ((st_byt.getD i []).getD j 0)) (by rw [nI_clamp (by omega)]) d_JStringLatin1_charAt_8 ?_
  refine lv_sipush (v := 255) hx hb d_JStringLatin1_charAt_9 (by decide) ?_
  refine lv_iand hx hb d_JStringLatin1_charAt_12 ?_
  refine lv_i2c hx hb d_JStringLatin1_charAt_13 rfl ?_
  refine hm_top (z := nI (st_chr i j)) (st_ok i hi j hj).1 ?_
  exact hm_zret X hQ hr hlk hK hM hS (pk_charN (q := st_chr i j) (by have h9 := (st_ok i hi j hj).2.1; omega)).1 d_JStringLatin1_charAt_14 ⟨rfl, rfl⟩
set_option maxHeartbeats 4000000 in
set_option maxRecDepth 100000 in
theorem j_charAt (l : Launch) (D : va_G) (k : Nat → ClassId) (sA sV : Nat → Nat) (f : hm) (i : Nat) (j : Nat) (hi : i < 12) (hj : j < st_len.getD i 0) : hm_MiZ l sA sV D vwCl (tyL k) y_JString_charAt (Cond.code y_JString_charAt b_JString_charAt 2 (some .char) :: TB) ({ frames := 3, cells := 0, slots := 0, locals := 64 }) [.ref (sA i), .int (nI j)] f (fun (r : Int32) (f1 : hm) => nI (st_chr i j) = r ∧ f = f1) 0 0 := by
  refine hm_enterZ (Qc := fun sz => va_Qi _ (hm_R D vwCl (tyL k) f sz) (hm_A f sz)) (by decide) rfl (Nat.le_of_ble_eq_true rfl) ?_
  intro p e s m below meth cd ls hZ X0 hr hlk hin hK hM hS hA hl Q hQ
  have X : CallFix p m cd b_JString_charAt 2 s ([.ref (sA i), .int (nI j)] : List Value).toArray TB R_JString := ⟨X0.1, X0.2.1, X0.2.2.1, X0.2.2.2.1, fun w h => X0.2.2.2.2 w (List.mem_cons_of_mem _ h)⟩
  have hx := X.1; have hb := X.2.1; have hml := X.2.2.1; have hown := X.2.2.2.1; have hts := X.2.2.2.2
  have hl : lv_has ls 2 [(0, .ref (sA i)), (1, .int (nI j))] := hl
  refine lv_aload_n hx hb d_JString_charAt_0 rfl (lv_at hl 0 rfl) ?_
  refine hm_calli hS hM hA (va_runV (As := []) (rest := []) X (j_isLatin1 l D k sA sV f i  (by omega) s.heap.size) (hm_cwV hts me_JString_isLatin1 wl_JString_492 rfl rfl ⟨Nat.le_of_ble_eq_true rfl, Nat.le_of_ble_eq_true rfl⟩) (hm_preVT hZ hS hA hM hK (i := i) (by omega)) rfl rfl hl.1 rfl (lv_room (Nat.le_of_ble_eq_true rfl)) d_JString_charAt_1 ⟨Nat.le_of_ble_eq_true rfl, Nat.le_of_ble_eq_true rfl⟩) (fun r3 f1 H locs p2 hM hS => ?_)
  obtain ⟨rfl, rfl⟩ := p2
  refine lv_if_eq (tgt := 16) hx hb d_JString_charAt_4 (by decide) (fun h4 => ?_) (fun h4 => ?_)
  · exact absurd h4 (by decide)
  · refine lv_aload_n hx hb d_JString_charAt_7 rfl (lv_at hl 0 rfl) ?_
    refine vk_getf hx hb (hZ.1.1 i (by omega)).2.2.1 hS hown (hts _ wf_JString_9) (fun x h => h) d_JString_charAt_8 ?_
    refine lv_iload_n hx hb d_JString_charAt_11 rfl (lv_at hl 1 rfl) ?_
    refine hm_calli hS hM hA (va_runS (As := [.ref (sV i), .int (nI j)]) (rest := []) X (j_charAt1 l D k sA sV f i j  (by omega) (by omega) H.size) (hm_cwT hts me_JStringLatin1_charAt wl_JString_495 rfl rfl ⟨Nat.le_of_ble_eq_true rfl, Nat.le_of_ble_eq_true rfl⟩) (hm_preSZ hZ hS hA hM hK) rfl rfl hl.1 rfl (lv_room (Nat.le_of_ble_eq_true rfl)) d_JString_charAt_12 ⟨Nat.le_of_ble_eq_true rfl, Nat.le_of_ble_eq_true rfl⟩) (fun r7 f5 H locs p6 hM hS => ?_)
    obtain ⟨rfl, rfl⟩ := p6
    exact hm_zret X hQ hr hlk hK hM hS (pk_charN (q := st_chr i j) (by have h9 := (st_ok i hi j hj).2.1; omega)).1 d_JString_charAt_15 ⟨rfl, rfl⟩
set_option maxHeartbeats 4000000 in
set_option maxRecDepth 100000 in
theorem j_canE (l : Launch) (D : va_G) (k : Nat → ClassId) (f : hm) (x : Int32) : hm_Mi l D vwCl (tyL k) y_JStringLatin1_canEncode (Cond.code y_JStringLatin1_canEncode b_JStringLatin1_canEncode 1 (some .boolean) :: TB) ({ frames := 0, cells := 0, slots := 0, locals := 0 }) [.int x] f (fun (r : Int32) (f1 : hm) => z_enc x = r ∧ f = f1) 0 0 := by
  refine hm_enter (Qc := fun sz => va_Qi _ (hm_R D vwCl (tyL k) f sz) (hm_A f sz)) (by decide) rfl (Nat.le_of_ble_eq_true rfl) ?_
  intro p e s m below meth cd ls X0 hr hlk hin hK hM hS hA hl Q hQ
  have X : CallFix p m cd b_JStringLatin1_canEncode 1 s ([.int x] : List Value).toArray TB R_JStringLatin1 := ⟨X0.1, X0.2.1, X0.2.2.1, X0.2.2.2.1, fun w h => X0.2.2.2.2 w (List.mem_cons_of_mem _ h)⟩
  have hx := X.1; have hb := X.2.1; have hml := X.2.2.1; have hown := X.2.2.2.1; have hts := X.2.2.2.2
  have hl : lv_has ls 1 [(0, .int x)] := hl
  refine lv_iload_n hx hb d_JStringLatin1_canEncode_0 rfl (lv_at hl 0 rfl) ?_
  refine lv_if_lt (tgt := 15) hx hb d_JStringLatin1_canEncode_1 (by decide) (fun h1 => ?_) (fun h1 => ?_)
  · refine lv_iconst (v := 0) hx hb d_JStringLatin1_canEncode_15 (by decide) ?_
    exact hm_zret X hQ hr hlk hK hM hS rfl d_JStringLatin1_canEncode_16 ⟨(by simp [z_enc, h1, Int32.not_le.mpr h1]), rfl⟩
  · refine lv_iload_n hx hb d_JStringLatin1_canEncode_4 rfl (lv_at hl 0 rfl) ?_
    refine lv_sipush (v := 255) hx hb d_JStringLatin1_canEncode_5 (by decide) ?_
    refine lv_icmp_gt (tgt := 15) hx hb d_JStringLatin1_canEncode_8 (by decide) (fun h2 => ?_) (fun h2 => ?_)
    · refine lv_iconst (v := 0) hx hb d_JStringLatin1_canEncode_15 (by decide) ?_
      exact hm_zret X hQ hr hlk hK hM hS rfl d_JStringLatin1_canEncode_16 ⟨(by simp [z_enc, h1, Int32.not_lt.mp h1, h2, Int32.not_le.mpr h2]), rfl⟩
    · refine lv_iconst (v := 1) hx hb d_JStringLatin1_canEncode_11 (by decide) ?_
      refine lv_goto (tgt := 16) hx hb d_JStringLatin1_canEncode_12 (by decide) ?_
      exact hm_zret X hQ hr hlk hK hM hS rfl d_JStringLatin1_canEncode_16 ⟨(by simp [z_enc, h1, Int32.not_lt.mp h1, h2, Int32.not_lt.mp h2]), rfl⟩
set_option maxHeartbeats 4000000 in
set_option maxRecDepth 100000 in
theorem j_indexOfChar (l : Launch) (D : va_G) (k : Nat → ClassId) (sA sV : Nat → Nat) (f : hm) (i : Nat) (x : Int32) (y : Int32) (hi : i < 12) (hy : x.toInt8.toInt32 = y) : hm_MiZ l sA sV D vwCl (tyL k) y_JStringLatin1_indexOfChar (Cond.code y_JStringLatin1_indexOfChar b_JStringLatin1_indexOfChar 6 (some .int) :: TB) ({ frames := 0, cells := 0, slots := 0, locals := 0 }) [.ref (sV i), .int x, .int 0, .int (nI (st_len.getD i 0))] f (fun (r : Int32) (f1 : hm) => st_fi i y (st_len.getD i 0) 0 = r ∧ f = f1) 0 0 := by
  refine hm_enterZ (Qc := fun sz => va_Qi _ (hm_R D vwCl (tyL k) f sz) (hm_A f sz)) (by decide) rfl (Nat.le_of_ble_eq_true rfl) ?_
  intro p e s m below meth cd ls hZ X0 hr hlk hin hK hM hS hA hl Q hQ
  have X : CallFix p m cd b_JStringLatin1_indexOfChar 6 s ([.ref (sV i), .int x, .int 0, .int (nI (st_len.getD i 0))] : List Value).toArray TB R_JStringLatin1 := ⟨X0.1, X0.2.1, X0.2.2.1, X0.2.2.2.1, fun w h => X0.2.2.2.2 w (List.mem_cons_of_mem _ h)⟩
  have hx := X.1; have hb := X.2.1; have hml := X.2.2.1; have hown := X.2.2.2.1; have hts := X.2.2.2.2
  have hl : lv_has ls 6 [(0, .ref (sV i)), (1, .int x), (2, .int 0), (3, .int (nI (st_len.getD i 0)))] := hl
  have hln := st_ln i hi
  refine lv_iload_n hx hb d_JStringLatin1_indexOfChar_0 rfl (lv_at hl 1 rfl) ?_
  refine lv_i2b hx hb d_JStringLatin1_indexOfChar_1 rfl ?_
  refine hm_top (z := y) hy ?_
  refine lv_istore (lv' := [(4, .int y), (0, .ref (sV i)), (1, .int x), (2, .int 0), (3, .int (nI (st_len.getD i 0)))]) hx hb d_JStringLatin1_indexOfChar_2 hl (by decide) rfl (fun ls hl => ?_)
  refine lv_iload_n hx hb d_JStringLatin1_indexOfChar_4 rfl (lv_at hl 3 rfl) ?_
  refine lv_istore (lv' := [(5, .int 0), (4, .int y), (0, .ref (sV i)), (1, .int x), (2, .int 0), (3, .int (nI (st_len.getD i 0)))]) hx hb d_JStringLatin1_indexOfChar_5 hl (by decide) rfl (fun ls hl => ?_)
  have loop7 : ∀ (fu : Nat) (j : Nat) (H : Heap) (locs : List Loc) (ls : Array Slot) (hmu : st_len.getD i 0 - j < fu) (hj : j ≤ st_len.getD i 0) (hinv : st_fi i y (st_len.getD i 0) 0 = st_fi i y (st_len.getD i 0 - j) j) (hM : hm_W D vwCl (hm_A f s.heap.size) f H) (hS : va_S (hm_A f s.heap.size) s.heap H locs) (hl : lv_has ls 6 [(0, .ref (sV i)), (1, .int x), (2, .int 0), (3, .int (nI (st_len.getD i 0))), (4, .int y), (5, .int (nI j))]), W p l e ({ frames := 0, cells := 0, slots := 0, locals := 0 }) s m ([.ref (sV i), .int x, .int 0, .int (nI (st_len.getD i 0))] : List Value).toArray below meth cd H locs 0 0 Q (F0 m 7 ls []) := by
    intro fu
    induction fu with
    | zero => intro j H locs ls hmu; exact absurd hmu (Nat.not_lt_zero _)
    | succ fu ih =>
      intro j H locs ls hmu hj hinv  hM hS hl
      refine lv_iload hx hb d_JStringLatin1_indexOfChar_7 (lv_at hl 5 rfl) ?_
      refine lv_iload_n hx hb d_JStringLatin1_indexOfChar_9 rfl (lv_at hl 3 rfl) ?_
      refine lv_icmp_ge (tgt := 31) hx hb d_JStringLatin1_indexOfChar_10 (by decide) (fun h1 => ?_) (fun h1 => ?_)
      · have hge : st_len.getD i 0 ≤ j := by have z := h1; rw [nI_leI (by omega) (by omega)] at z; omega
        refine lv_iconst (v := (-1)) hx hb d_JStringLatin1_indexOfChar_31 (by decide) ?_
        exact hm_iret X hQ hr hlk hK hM hS d_JStringLatin1_indexOfChar_32 ⟨(by rw [hinv, show st_len.getD i 0 - j = 0 by omega]; rfl), rfl⟩
      · have hlt : j < st_len.getD i 0 := by have z := h1; rw [nI_leI (by omega) (by omega)] at z; omega
        refine lv_aload_n hx hb d_JStringLatin1_indexOfChar_13 rfl (lv_at hl 0 rfl) ?_
        refine lv_iload hx hb d_JStringLatin1_indexOfChar_14 (lv_at hl 5 rfl) ?_
        refine va_tb hx hb (hZ.1.1 i (by omega)).2.2.2 hS (hm_in (j := j) rfl hlt (by omega)).1 (v := .int ((st_byt.getD i []).getD j 0)) (by rw [nI_clamp (by omega)]) d_JStringLatin1_indexOfChar_16 ?_
        refine lv_iload hx hb d_JStringLatin1_indexOfChar_17 (lv_at hl 4 rfl) ?_
        refine lv_icmp_ne (tgt := 25) hx hb d_JStringLatin1_indexOfChar_19 (by decide) (fun h2 => ?_) (fun h2 => ?_)
        · refine lv_iinc (lv' := [(5, .int (nI (j + 1))), (0, .ref (sV i)), (1, .int x), (2, .int 0), (3, .int (nI (st_len.getD i 0))), (4, .int y)]) hx hb d_JStringLatin1_indexOfChar_25 hl (k := 5) rfl (hm_inc _) (by decide) rfl (fun ls hl => ?_)
          refine lv_goto (tgt := 7) hx hb d_JStringLatin1_indexOfChar_28 (by decide) ?_
          exact ih (j + 1)  H locs ls (by omega) (by omega) (by rw [hinv, show st_len.getD i 0 - j = (st_len.getD i 0 - (j + 1)) + 1 by omega]; exact if_neg h2)  hM hS (lv_sub hl [1, 2, 3, 4, 5, 0] rfl)
        · refine lv_iload hx hb d_JStringLatin1_indexOfChar_22 (lv_at hl 5 rfl) ?_
          exact hm_iret X hQ hr hlk hK hM hS d_JStringLatin1_indexOfChar_24 ⟨(by rw [hinv, show st_len.getD i 0 - j = (st_len.getD i 0 - (j + 1)) + 1 by omega]; exact if_pos h2), rfl⟩
  exact loop7 _ 0  s.heap [] ls (Nat.lt_succ_self _) (Nat.zero_le _) rfl  hM hS (lv_sub hl [2, 3, 4, 5, 1, 0] rfl)
set_option maxHeartbeats 4000000 in
set_option maxRecDepth 100000 in
theorem j_indexOf1_no (l : Launch) (D : va_G) (k : Nat → ClassId) (sA sV : Nat → Nat) (f : hm) (i : Nat) (x : Int32) (hi : i < 12) (hx9 : z_enc x = 0) : hm_MiZ l sA sV D vwCl (tyL k) y_JStringLatin1_indexOf (Cond.code y_JStringLatin1_indexOf b_JStringLatin1_indexOf 4 (some .int) :: TB) ({ frames := 1, cells := 0, slots := 0, locals := 20 }) [.ref (sV i), .int x, .int 0, .int (nI (st_len.getD i 0))] f (fun (r : Int32) (f1 : hm) => (-1) = r ∧ f = f1) 0 0 := by
  refine hm_enterZ (Qc := fun sz => va_Qi _ (hm_R D vwCl (tyL k) f sz) (hm_A f sz)) (by decide) rfl (Nat.le_of_ble_eq_true rfl) ?_
  intro p e s m below meth cd ls hZ X0 hr hlk hin hK hM hS hA hl Q hQ
  have X : CallFix p m cd b_JStringLatin1_indexOf 4 s ([.ref (sV i), .int x, .int 0, .int (nI (st_len.getD i 0))] : List Value).toArray TB R_JStringLatin1 := ⟨X0.1, X0.2.1, X0.2.2.1, X0.2.2.2.1, fun w h => X0.2.2.2.2 w (List.mem_cons_of_mem _ h)⟩
  have hx := X.1; have hb := X.2.1; have hml := X.2.2.1; have hown := X.2.2.2.1; have hts := X.2.2.2.2
  have hl : lv_has ls 4 [(0, .ref (sV i)), (1, .int x), (2, .int 0), (3, .int (nI (st_len.getD i 0)))] := hl
  refine lv_iload_n hx hb d_JStringLatin1_indexOf_0 rfl (lv_at hl 1 rfl) ?_
  refine hm_calli hS hM hA (va_runS (As := [.int x]) (rest := []) X (j_canE l D k f x   s.heap.size) (hm_cwS hts me_JStringLatin1_canEncode wl_JStringLatin1_88 rfl rfl ⟨Nat.le_of_ble_eq_true rfl, Nat.le_of_ble_eq_true rfl⟩) (hm_preS hM hK) rfl rfl hl.1 rfl (lv_room (Nat.le_of_ble_eq_true rfl)) d_JStringLatin1_indexOf_1 ⟨Nat.le_of_ble_eq_true rfl, Nat.le_of_ble_eq_true rfl⟩) (fun r3 f1 H locs p2 hM hS => ?_)
  obtain ⟨rfl, rfl⟩ := p2
  refine lv_if_ne (tgt := 9) hx hb d_JStringLatin1_indexOf_4 (by decide) (fun h4 => ?_) (fun h4 => ?_)
  · exact absurd hx9 h4
  · refine lv_iconst (v := (-1)) hx hb d_JStringLatin1_indexOf_7 (by decide) ?_
    exact hm_iret X hQ hr hlk hK hM hS d_JStringLatin1_indexOf_8 ⟨rfl, rfl⟩
set_option maxHeartbeats 4000000 in
set_option maxRecDepth 100000 in
theorem j_indexOf1 (l : Launch) (D : va_G) (k : Nat → ClassId) (sA sV : Nat → Nat) (f : hm) (i : Nat) (x : Int32) (y : Int32) (hi : i < 12) (hx9 : ¬ z_enc x = 0) (hy : x.toInt8.toInt32 = y) (hl0 : 0 < st_len.getD i 0) : hm_MiZ l sA sV D vwCl (tyL k) y_JStringLatin1_indexOf (Cond.code y_JStringLatin1_indexOf b_JStringLatin1_indexOf 4 (some .int) :: TB) ({ frames := 1, cells := 0, slots := 0, locals := 25 }) [.ref (sV i), .int x, .int 0, .int (nI (st_len.getD i 0))] f (fun (r : Int32) (f1 : hm) => st_fi i y (st_len.getD i 0) 0 = r ∧ f = f1) 0 0 := by
  refine hm_enterZ (Qc := fun sz => va_Qi _ (hm_R D vwCl (tyL k) f sz) (hm_A f sz)) (by decide) rfl (Nat.le_of_ble_eq_true rfl) ?_
  intro p e s m below meth cd ls hZ X0 hr hlk hin hK hM hS hA hl Q hQ
  have X : CallFix p m cd b_JStringLatin1_indexOf 4 s ([.ref (sV i), .int x, .int 0, .int (nI (st_len.getD i 0))] : List Value).toArray TB R_JStringLatin1 := ⟨X0.1, X0.2.1, X0.2.2.1, X0.2.2.2.1, fun w h => X0.2.2.2.2 w (List.mem_cons_of_mem _ h)⟩
  have hx := X.1; have hb := X.2.1; have hml := X.2.2.1; have hown := X.2.2.2.1; have hts := X.2.2.2.2
  have hl : lv_has ls 4 [(0, .ref (sV i)), (1, .int x), (2, .int 0), (3, .int (nI (st_len.getD i 0)))] := hl
  have hln := st_ln i hi
  refine lv_iload_n hx hb d_JStringLatin1_indexOf_0 rfl (lv_at hl 1 rfl) ?_
  refine hm_calli hS hM hA (va_runS (As := [.int x]) (rest := []) X (j_canE l D k f x   s.heap.size) (hm_cwS hts me_JStringLatin1_canEncode wl_JStringLatin1_88 rfl rfl ⟨Nat.le_of_ble_eq_true rfl, Nat.le_of_ble_eq_true rfl⟩) (hm_preS hM hK) rfl rfl hl.1 rfl (lv_room (Nat.le_of_ble_eq_true rfl)) d_JStringLatin1_indexOf_1 ⟨Nat.le_of_ble_eq_true rfl, Nat.le_of_ble_eq_true rfl⟩) (fun r3 f1 H locs p2 hM hS => ?_)
  obtain ⟨rfl, rfl⟩ := p2
  refine lv_if_ne (tgt := 9) hx hb d_JStringLatin1_indexOf_4 (by decide) (fun h4 => ?_) (fun h4 => ?_)
  · refine lv_iload_n hx hb d_JStringLatin1_indexOf_9 rfl (lv_at hl 2 rfl) ?_
    refine lv_iconst (v := 0) hx hb d_JStringLatin1_indexOf_10 (by decide) ?_
    refine va_mmax hx hb (hml.trans hl.1.symm) hown (hts _ wl_JStringLatin1_92) (hts _ ws_Mmax) (hts _ wn_Math) (hts _ wd_Mmax) (Nat.le_of_ble_eq_true rfl) (Nat.le_of_ble_eq_true rfl) (Nat.zero_le _) (Nat.zero_le _) d_JStringLatin1_indexOf_11 ?_
    refine hm_top (z := 0) (by decide) ?_
    refine lv_istore_n (lv' := [(2, .int 0), (0, .ref (sV i)), (1, .int x), (3, .int (nI (st_len.getD i 0)))]) hx hb d_JStringLatin1_indexOf_14 rfl hl (by decide) rfl (fun ls hl => ?_)
    refine lv_iload_n hx hb d_JStringLatin1_indexOf_15 rfl (lv_at hl 3 rfl) ?_
    refine lv_aload_n hx hb d_JStringLatin1_indexOf_16 rfl (lv_at hl 1 rfl) ?_
    refine va_tlen hx hb (hZ.1.1 i (by omega)).2.2.2 hS (v := nI (st_len.getD i 0)) rfl d_JStringLatin1_indexOf_17 ?_
    refine va_mmin hx hb (hml.trans hl.1.symm) hown (hts _ wl_JStringLatin1_38) (hts _ ws_Mmin) (hts _ wn_Math) (hts _ wd_Mmin) (Nat.le_of_ble_eq_true rfl) (Nat.le_of_ble_eq_true rfl) (Nat.zero_le _) (Nat.zero_le _) d_JStringLatin1_indexOf_18 ?_
    refine hm_top (z := nI (st_len.getD i 0)) (by simp) ?_
    refine lv_istore_n (lv' := [(3, .int (nI (st_len.getD i 0))), (2, .int 0), (0, .ref (sV i)), (1, .int x)]) hx hb d_JStringLatin1_indexOf_21 rfl hl (by decide) rfl (fun ls hl => ?_)
    refine lv_iload_n hx hb d_JStringLatin1_indexOf_22 rfl (lv_at hl 1 rfl) ?_
    refine lv_iload_n hx hb d_JStringLatin1_indexOf_23 rfl (lv_at hl 0 rfl) ?_
    refine lv_icmp_lt (tgt := 29) hx hb d_JStringLatin1_indexOf_24 (by decide) (fun h5 => ?_) (fun h5 => ?_)
    · refine lv_aload_n hx hb d_JStringLatin1_indexOf_29 rfl (lv_at hl 2 rfl) ?_
      refine lv_iload_n hx hb d_JStringLatin1_indexOf_30 rfl (lv_at hl 3 rfl) ?_
      refine lv_iload_n hx hb d_JStringLatin1_indexOf_31 rfl (lv_at hl 1 rfl) ?_
      refine lv_iload_n hx hb d_JStringLatin1_indexOf_32 rfl (lv_at hl 0 rfl) ?_
      refine hm_calli hS hM hA (va_runS (As := [.ref (sV i), .int x, .int 0, .int (nI (st_len.getD i 0))]) (rest := []) X (j_indexOfChar l D k sA sV f i x y  hi hy H.size) (hm_cwS hts me_JStringLatin1_indexOfChar wl_JStringLatin1_95 rfl rfl ⟨Nat.le_of_ble_eq_true rfl, Nat.le_of_ble_eq_true rfl⟩) (hm_preSZ hZ hS hA hM hK) rfl rfl hl.1 rfl (lv_room (Nat.le_of_ble_eq_true rfl)) d_JStringLatin1_indexOf_33 ⟨Nat.le_of_ble_eq_true rfl, Nat.le_of_ble_eq_true rfl⟩) (fun r8 f6 H locs p7 hM hS => ?_)
      obtain ⟨rfl, rfl⟩ := p7
      exact hm_iret X hQ hr hlk hK hM hS d_JStringLatin1_indexOf_36 ⟨rfl, rfl⟩
    · exact absurd (nI_lt (a := 0) hl0 (by omega)) h5
  · exact absurd h4 hx9
set_option maxHeartbeats 4000000 in
set_option maxRecDepth 100000 in
theorem j_indexOf2_no (l : Launch) (D : va_G) (k : Nat → ClassId) (sA sV : Nat → Nat) (f : hm) (i : Nat) (x : Int32) (hi : i < 12) (hx9 : z_enc x = 0) : hm_MiZ l sA sV D vwCl (tyL k) y_JString_indexOf2 (Cond.code y_JString_indexOf2 b_JString_indexOf2 3 (some .int) :: TB) ({ frames := 2, cells := 0, slots := 0, locals := 43 }) [.ref (sA i), .int x, .int 0] f (fun (r : Int32) (f1 : hm) => (-1) = r ∧ f = f1) 0 0 := by
  refine hm_enterZ (Qc := fun sz => va_Qi _ (hm_R D vwCl (tyL k) f sz) (hm_A f sz)) (by decide) rfl (Nat.le_of_ble_eq_true rfl) ?_
  intro p e s m below meth cd ls hZ X0 hr hlk hin hK hM hS hA hl Q hQ
  have X : CallFix p m cd b_JString_indexOf2 3 s ([.ref (sA i), .int x, .int 0] : List Value).toArray TB R_JString := ⟨X0.1, X0.2.1, X0.2.2.1, X0.2.2.2.1, fun w h => X0.2.2.2.2 w (List.mem_cons_of_mem _ h)⟩
  have hx := X.1; have hb := X.2.1; have hml := X.2.2.1; have hown := X.2.2.2.1; have hts := X.2.2.2.2
  have hl : lv_has ls 3 [(0, .ref (sA i)), (1, .int x), (2, .int 0)] := hl
  refine lv_aload_n hx hb d_JString_indexOf2_0 rfl (lv_at hl 0 rfl) ?_
  refine hm_calli hS hM hA (va_runV (As := []) (rest := []) X (j_isLatin1 l D k sA sV f i  (by omega) s.heap.size) (hm_cwV hts me_JString_isLatin1 wl_JString_492 rfl rfl ⟨Nat.le_of_ble_eq_true rfl, Nat.le_of_ble_eq_true rfl⟩) (hm_preVT hZ hS hA hM hK (i := i) (by omega)) rfl rfl hl.1 rfl (lv_room (Nat.le_of_ble_eq_true rfl)) d_JString_indexOf2_1 ⟨Nat.le_of_ble_eq_true rfl, Nat.le_of_ble_eq_true rfl⟩) (fun r3 f1 H locs p2 hM hS => ?_)
  obtain ⟨rfl, rfl⟩ := p2
  refine lv_if_eq (tgt := 23) hx hb d_JString_indexOf2_4 (by decide) (fun h4 => ?_) (fun h4 => ?_)
  · exact absurd h4 (by decide)
  · refine lv_aload_n hx hb d_JString_indexOf2_7 rfl (lv_at hl 0 rfl) ?_
    refine vk_getf hx hb (hZ.1.1 i (by omega)).2.2.1 hS hown (hts _ wf_JString_9) (fun x h => h) d_JString_indexOf2_8 ?_
    refine lv_iload_n hx hb d_JString_indexOf2_11 rfl (lv_at hl 1 rfl) ?_
    refine lv_iload_n hx hb d_JString_indexOf2_12 rfl (lv_at hl 2 rfl) ?_
    refine lv_aload_n hx hb d_JString_indexOf2_13 rfl (lv_at hl 0 rfl) ?_
    refine hm_calli hS hM hA (va_runV (As := []) (rest := [.int 0, .int x, .ref (sV i)]) X (j_length l D k sA sV f i  (by omega) H.size) (hm_cwV hts me_JString_length wl_JString_505 rfl rfl ⟨Nat.le_of_ble_eq_true rfl, Nat.le_of_ble_eq_true rfl⟩) (hm_preVT hZ hS hA hM hK (i := i) (by omega)) rfl rfl hl.1 rfl (lv_room (Nat.le_of_ble_eq_true rfl)) d_JString_indexOf2_14 ⟨Nat.le_of_ble_eq_true rfl, Nat.le_of_ble_eq_true rfl⟩) (fun r7 f5 H locs p6 hM hS => ?_)
    obtain ⟨rfl, rfl⟩ := p6
    refine hm_calli hS hM hA (va_runS (As := [.ref (sV i), .int x, .int 0, .int (nI (st_len.getD i 0))]) (rest := []) X (j_indexOf1_no l D k sA sV f i x  hi hx9 H.size) (hm_cwT hts me_JStringLatin1_indexOf wl_JString_637 rfl rfl ⟨Nat.le_of_ble_eq_true rfl, Nat.le_of_ble_eq_true rfl⟩) (hm_preSZ hZ hS hA hM hK) rfl rfl hl.1 rfl (lv_room (Nat.le_of_ble_eq_true rfl)) d_JString_indexOf2_17 ⟨Nat.le_of_ble_eq_true rfl, Nat.le_of_ble_eq_true rfl⟩) (fun r10 f8 H locs p9 hM hS => ?_)
    obtain ⟨rfl, rfl⟩ := p9
    refine lv_goto (tgt := 36) hx hb d_JString_indexOf2_20 (by decide) ?_
    exact hm_iret X hQ hr hlk hK hM hS d_JString_indexOf2_36 ⟨rfl, rfl⟩
set_option maxHeartbeats 4000000 in
set_option maxRecDepth 100000 in
theorem j_indexOf_no (l : Launch) (D : va_G) (k : Nat → ClassId) (sA sV : Nat → Nat) (f : hm) (i : Nat) (x : Int32) (hi : i < 12) (hx9 : z_enc x = 0) : hm_MiZ l sA sV D vwCl (tyL k) y_JString_indexOf (Cond.code y_JString_indexOf b_JString_indexOf 2 (some .int) :: TB) ({ frames := 3, cells := 0, slots := 0, locals := 65 }) [.ref (sA i), .int x] f (fun (r : Int32) (f1 : hm) => (-1) = r ∧ f = f1) 0 0 := by
  refine hm_enterZ (Qc := fun sz => va_Qi _ (hm_R D vwCl (tyL k) f sz) (hm_A f sz)) (by decide) rfl (Nat.le_of_ble_eq_true rfl) ?_
  intro p e s m below meth cd ls hZ X0 hr hlk hin hK hM hS hA hl Q hQ
  have X : CallFix p m cd b_JString_indexOf 2 s ([.ref (sA i), .int x] : List Value).toArray TB R_JString := ⟨X0.1, X0.2.1, X0.2.2.1, X0.2.2.2.1, fun w h => X0.2.2.2.2 w (List.mem_cons_of_mem _ h)⟩
  have hx := X.1; have hb := X.2.1; have hml := X.2.2.1; have hown := X.2.2.2.1; have hts := X.2.2.2.2
  have hl : lv_has ls 2 [(0, .ref (sA i)), (1, .int x)] := hl
  refine lv_aload_n hx hb d_JString_indexOf_0 rfl (lv_at hl 0 rfl) ?_
  refine lv_iload_n hx hb d_JString_indexOf_1 rfl (lv_at hl 1 rfl) ?_
  refine lv_iconst (v := 0) hx hb d_JString_indexOf_2 (by decide) ?_
  refine hm_calli hS hM hA (va_runV (As := [.int x, .int 0]) (rest := []) X (j_indexOf2_no l D k sA sV f i x  hi hx9 s.heap.size) (hm_cwV hts me_JString_indexOf2 wl_JString_633 rfl rfl ⟨Nat.le_of_ble_eq_true rfl, Nat.le_of_ble_eq_true rfl⟩) (hm_preVT hZ hS hA hM hK (i := i) (by omega)) rfl rfl hl.1 rfl (lv_room (Nat.le_of_ble_eq_true rfl)) d_JString_indexOf_3 ⟨Nat.le_of_ble_eq_true rfl, Nat.le_of_ble_eq_true rfl⟩) (fun r3 f1 H locs p2 hM hS => ?_)
  obtain ⟨rfl, rfl⟩ := p2
  exact hm_iret X hQ hr hlk hK hM hS d_JString_indexOf_6 ⟨rfl, rfl⟩
set_option maxHeartbeats 4000000 in
set_option maxRecDepth 100000 in
theorem j_indexOf2 (l : Launch) (D : va_G) (k : Nat → ClassId) (sA sV : Nat → Nat) (f : hm) (i : Nat) (x : Int32) (y : Int32) (hi : i < 12) (hx9 : ¬ z_enc x = 0) (hy : x.toInt8.toInt32 = y) (hl0 : 0 < st_len.getD i 0) : hm_MiZ l sA sV D vwCl (tyL k) y_JString_indexOf2 (Cond.code y_JString_indexOf2 b_JString_indexOf2 3 (some .int) :: TB) ({ frames := 2, cells := 0, slots := 0, locals := 48 }) [.ref (sA i), .int x, .int 0] f (fun (r : Int32) (f1 : hm) => st_fi i y (st_len.getD i 0) 0 = r ∧ f = f1) 0 0 := by
  refine hm_enterZ (Qc := fun sz => va_Qi _ (hm_R D vwCl (tyL k) f sz) (hm_A f sz)) (by decide) rfl (Nat.le_of_ble_eq_true rfl) ?_
  intro p e s m below meth cd ls hZ X0 hr hlk hin hK hM hS hA hl Q hQ
  have X : CallFix p m cd b_JString_indexOf2 3 s ([.ref (sA i), .int x, .int 0] : List Value).toArray TB R_JString := ⟨X0.1, X0.2.1, X0.2.2.1, X0.2.2.2.1, fun w h => X0.2.2.2.2 w (List.mem_cons_of_mem _ h)⟩
  have hx := X.1; have hb := X.2.1; have hml := X.2.2.1; have hown := X.2.2.2.1; have hts := X.2.2.2.2
  have hl : lv_has ls 3 [(0, .ref (sA i)), (1, .int x), (2, .int 0)] := hl
  refine lv_aload_n hx hb d_JString_indexOf2_0 rfl (lv_at hl 0 rfl) ?_
  refine hm_calli hS hM hA (va_runV (As := []) (rest := []) X (j_isLatin1 l D k sA sV f i  (by omega) s.heap.size) (hm_cwV hts me_JString_isLatin1 wl_JString_492 rfl rfl ⟨Nat.le_of_ble_eq_true rfl, Nat.le_of_ble_eq_true rfl⟩) (hm_preVT hZ hS hA hM hK (i := i) (by omega)) rfl rfl hl.1 rfl (lv_room (Nat.le_of_ble_eq_true rfl)) d_JString_indexOf2_1 ⟨Nat.le_of_ble_eq_true rfl, Nat.le_of_ble_eq_true rfl⟩) (fun r3 f1 H locs p2 hM hS => ?_)
  obtain ⟨rfl, rfl⟩ := p2
  refine lv_if_eq (tgt := 23) hx hb d_JString_indexOf2_4 (by decide) (fun h4 => ?_) (fun h4 => ?_)
  · exact absurd h4 (by decide)
  · refine lv_aload_n hx hb d_JString_indexOf2_7 rfl (lv_at hl 0 rfl) ?_
    refine vk_getf hx hb (hZ.1.1 i (by omega)).2.2.1 hS hown (hts _ wf_JString_9) (fun x h => h) d_JString_indexOf2_8 ?_
    refine lv_iload_n hx hb d_JString_indexOf2_11 rfl (lv_at hl 1 rfl) ?_
    refine lv_iload_n hx hb d_JString_indexOf2_12 rfl (lv_at hl 2 rfl) ?_
    refine lv_aload_n hx hb d_JString_indexOf2_13 rfl (lv_at hl 0 rfl) ?_
    refine hm_calli hS hM hA (va_runV (As := []) (rest := [.int 0, .int x, .ref (sV i)]) X (j_length l D k sA sV f i  (by omega) H.size) (hm_cwV hts me_JString_length wl_JString_505 rfl rfl ⟨Nat.le_of_ble_eq_true rfl, Nat.le_of_ble_eq_true rfl⟩) (hm_preVT hZ hS hA hM hK (i := i) (by omega)) rfl rfl hl.1 rfl (lv_room (Nat.le_of_ble_eq_true rfl)) d_JString_indexOf2_14 ⟨Nat.le_of_ble_eq_true rfl, Nat.le_of_ble_eq_true rfl⟩) (fun r7 f5 H locs p6 hM hS => ?_)
    obtain ⟨rfl, rfl⟩ := p6
    refine hm_calli hS hM hA (va_runS (As := [.ref (sV i), .int x, .int 0, .int (nI (st_len.getD i 0))]) (rest := []) X (j_indexOf1 l D k sA sV f i x y  hi hx9 hy hl0 H.size) (hm_cwT hts me_JStringLatin1_indexOf wl_JString_637 rfl rfl ⟨Nat.le_of_ble_eq_true rfl, Nat.le_of_ble_eq_true rfl⟩) (hm_preSZ hZ hS hA hM hK) rfl rfl hl.1 rfl (lv_room (Nat.le_of_ble_eq_true rfl)) d_JString_indexOf2_17 ⟨Nat.le_of_ble_eq_true rfl, Nat.le_of_ble_eq_true rfl⟩) (fun r10 f8 H locs p9 hM hS => ?_)
    obtain ⟨rfl, rfl⟩ := p9
    refine lv_goto (tgt := 36) hx hb d_JString_indexOf2_20 (by decide) ?_
    exact hm_iret X hQ hr hlk hK hM hS d_JString_indexOf2_36 ⟨rfl, rfl⟩
set_option maxHeartbeats 4000000 in
set_option maxRecDepth 100000 in
theorem j_indexOf (l : Launch) (D : va_G) (k : Nat → ClassId) (sA sV : Nat → Nat) (f : hm) (i : Nat) (x : Int32) (y : Int32) (hi : i < 12) (hx9 : ¬ z_enc x = 0) (hy : x.toInt8.toInt32 = y) (hl0 : 0 < st_len.getD i 0) : hm_MiZ l sA sV D vwCl (tyL k) y_JString_indexOf (Cond.code y_JString_indexOf b_JString_indexOf 2 (some .int) :: TB) ({ frames := 3, cells := 0, slots := 0, locals := 70 }) [.ref (sA i), .int x] f (fun (r : Int32) (f1 : hm) => st_fi i y (st_len.getD i 0) 0 = r ∧ f = f1) 0 0 := by
  refine hm_enterZ (Qc := fun sz => va_Qi _ (hm_R D vwCl (tyL k) f sz) (hm_A f sz)) (by decide) rfl (Nat.le_of_ble_eq_true rfl) ?_
  intro p e s m below meth cd ls hZ X0 hr hlk hin hK hM hS hA hl Q hQ
  have X : CallFix p m cd b_JString_indexOf 2 s ([.ref (sA i), .int x] : List Value).toArray TB R_JString := ⟨X0.1, X0.2.1, X0.2.2.1, X0.2.2.2.1, fun w h => X0.2.2.2.2 w (List.mem_cons_of_mem _ h)⟩
  have hx := X.1; have hb := X.2.1; have hml := X.2.2.1; have hown := X.2.2.2.1; have hts := X.2.2.2.2
  have hl : lv_has ls 2 [(0, .ref (sA i)), (1, .int x)] := hl
  refine lv_aload_n hx hb d_JString_indexOf_0 rfl (lv_at hl 0 rfl) ?_
  refine lv_iload_n hx hb d_JString_indexOf_1 rfl (lv_at hl 1 rfl) ?_
  refine lv_iconst (v := 0) hx hb d_JString_indexOf_2 (by decide) ?_
  refine hm_calli hS hM hA (va_runV (As := [.int x, .int 0]) (rest := []) X (j_indexOf2 l D k sA sV f i x y  hi hx9 hy hl0 s.heap.size) (hm_cwV hts me_JString_indexOf2 wl_JString_633 rfl rfl ⟨Nat.le_of_ble_eq_true rfl, Nat.le_of_ble_eq_true rfl⟩) (hm_preVT hZ hS hA hM hK (i := i) (by omega)) rfl rfl hl.1 rfl (lv_room (Nat.le_of_ble_eq_true rfl)) d_JString_indexOf_3 ⟨Nat.le_of_ble_eq_true rfl, Nat.le_of_ble_eq_true rfl⟩) (fun r3 f1 H locs p2 hM hS => ?_)
  obtain ⟨rfl, rfl⟩ := p2
  exact hm_iret X hQ hr hlk hK hM hS d_JString_indexOf_6 ⟨rfl, rfl⟩
