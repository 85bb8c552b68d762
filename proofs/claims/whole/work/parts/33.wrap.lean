theorem d_Wrapping_sizeOfWrapped_0 : decode b_Wrapping_sizeOfWrapped 0 = .ok (.aload_n 1, 1) := by decide +kernel
theorem d_Wrapping_sizeOfWrapped_1 : decode b_Wrapping_sizeOfWrapped 1 = .ok (.invokestatic 13, 3) := by decide +kernel
theorem d_Wrapping_sizeOfWrapped_4 : decode b_Wrapping_sizeOfWrapped 4 = .ok (.bipush 11, 2) := by decide +kernel
theorem d_Wrapping_sizeOfWrapped_6 : decode b_Wrapping_sizeOfWrapped 6 = .ok (.iadd, 1) := by decide +kernel
theorem d_Wrapping_sizeOfWrapped_7 : decode b_Wrapping_sizeOfWrapped 7 = .ok (.ireturn, 1) := by decide +kernel
theorem d_Wrapping_wrapInto_0 : decode b_Wrapping_wrapInto 0 = .ok (.aload_n 1, 1) := by decide +kernel
theorem d_Wrapping_wrapInto_1 : decode b_Wrapping_wrapInto 1 = .ok (.invokestatic 13, 3) := by decide +kernel
theorem d_Wrapping_wrapInto_4 : decode b_Wrapping_wrapInto 4 = .ok (.istore_n 3, 1) := by decide +kernel
theorem d_Wrapping_wrapInto_5 : decode b_Wrapping_wrapInto 5 = .ok (.aload_n 2, 1) := by decide +kernel
theorem d_Wrapping_wrapInto_6 : decode b_Wrapping_wrapInto 6 = .ok (.invokevirtual 17, 3) := by decide +kernel
theorem d_Wrapping_wrapInto_9 : decode b_Wrapping_wrapInto 9 = .ok (.iconst 0, 1) := by decide +kernel
theorem d_Wrapping_wrapInto_10 : decode b_Wrapping_wrapInto 10 = .ok (.istore 4, 2) := by decide +kernel
theorem d_Wrapping_wrapInto_12 : decode b_Wrapping_wrapInto 12 = .ok (.iload 4, 2) := by decide +kernel
theorem d_Wrapping_wrapInto_14 : decode b_Wrapping_wrapInto 14 = .ok (.iload_n 3, 1) := by decide +kernel
theorem d_Wrapping_wrapInto_15 : decode b_Wrapping_wrapInto 15 = .ok (.if_icmp .ge 28, 3) := by decide +kernel
theorem d_Wrapping_wrapInto_18 : decode b_Wrapping_wrapInto 18 = .ok (.aload_n 2, 1) := by decide +kernel
theorem d_Wrapping_wrapInto_19 : decode b_Wrapping_wrapInto 19 = .ok (.ldc 22, 2) := by decide +kernel
theorem d_Wrapping_wrapInto_21 : decode b_Wrapping_wrapInto 21 = .ok (.aload_n 1, 1) := by decide +kernel
theorem d_Wrapping_wrapInto_22 : decode b_Wrapping_wrapInto 22 = .ok (.bipush 6, 2) := by decide +kernel
theorem d_Wrapping_wrapInto_24 : decode b_Wrapping_wrapInto 24 = .ok (.iload 4, 2) := by decide +kernel
theorem d_Wrapping_wrapInto_26 : decode b_Wrapping_wrapInto 26 = .ok (.imul, 1) := by decide +kernel
theorem d_Wrapping_wrapInto_27 : decode b_Wrapping_wrapInto 27 = .ok (.invokestatic 24, 3) := by decide +kernel
theorem d_Wrapping_wrapInto_30 : decode b_Wrapping_wrapInto 30 = .ok (.invokevirtual 28, 3) := by decide +kernel
theorem d_Wrapping_wrapInto_33 : decode b_Wrapping_wrapInto 33 = .ok (.invokevirtual 34, 3) := by decide +kernel
theorem d_Wrapping_wrapInto_36 : decode b_Wrapping_wrapInto 36 = .ok (.pop, 1) := by decide +kernel
theorem d_Wrapping_wrapInto_37 : decode b_Wrapping_wrapInto 37 = .ok (.iinc 4 1, 3) := by decide +kernel
theorem d_Wrapping_wrapInto_40 : decode b_Wrapping_wrapInto 40 = .ok (.goto (-28), 3) := by decide +kernel
theorem d_Wrapping_wrapInto_43 : decode b_Wrapping_wrapInto 43 = .ok (.aload_n 0, 1) := by decide +kernel
theorem d_Wrapping_wrapInto_44 : decode b_Wrapping_wrapInto 44 = .ok (.aload_n 2, 1) := by decide +kernel
theorem d_Wrapping_wrapInto_45 : decode b_Wrapping_wrapInto 45 = .ok (.iload_n 3, 1) := by decide +kernel
theorem d_Wrapping_wrapInto_46 : decode b_Wrapping_wrapInto 46 = .ok (.invokevirtual 38, 3) := by decide +kernel
theorem d_Wrapping_wrapInto_49 : decode b_Wrapping_wrapInto 49 = .ok (.lstore 4, 2) := by decide +kernel
theorem d_Wrapping_wrapInto_51 : decode b_Wrapping_wrapInto 51 = .ok (.aload_n 2, 1) := by decide +kernel
theorem d_Wrapping_wrapInto_52 : decode b_Wrapping_wrapInto 52 = .ok (.bipush 46, 2) := by decide +kernel
theorem d_Wrapping_wrapInto_54 : decode b_Wrapping_wrapInto 54 = .ok (.invokevirtual 34, 3) := by decide +kernel
theorem d_Wrapping_wrapInto_57 : decode b_Wrapping_wrapInto 57 = .ok (.pop, 1) := by decide +kernel
theorem d_Wrapping_wrapInto_58 : decode b_Wrapping_wrapInto 58 = .ok (.iconst 0, 1) := by decide +kernel
theorem d_Wrapping_wrapInto_59 : decode b_Wrapping_wrapInto 59 = .ok (.istore 6, 2) := by decide +kernel
theorem d_Wrapping_wrapInto_61 : decode b_Wrapping_wrapInto 61 = .ok (.iload 6, 2) := by decide +kernel
theorem d_Wrapping_wrapInto_63 : decode b_Wrapping_wrapInto 63 = .ok (.bipush 10, 2) := by decide +kernel
theorem d_Wrapping_wrapInto_65 : decode b_Wrapping_wrapInto 65 = .ok (.if_icmp .ge 21, 3) := by decide +kernel
theorem d_Wrapping_wrapInto_68 : decode b_Wrapping_wrapInto 68 = .ok (.aload_n 2, 1) := by decide +kernel
theorem d_Wrapping_wrapInto_69 : decode b_Wrapping_wrapInto 69 = .ok (.lload 4, 2) := by decide +kernel
theorem d_Wrapping_wrapInto_71 : decode b_Wrapping_wrapInto 71 = .ok (.iload 6, 2) := by decide +kernel
theorem d_Wrapping_wrapInto_73 : decode b_Wrapping_wrapInto 73 = .ok (.invokestatic 42, 3) := by decide +kernel
theorem d_Wrapping_wrapInto_76 : decode b_Wrapping_wrapInto 76 = .ok (.invokevirtual 34, 3) := by decide +kernel
theorem d_Wrapping_wrapInto_79 : decode b_Wrapping_wrapInto 79 = .ok (.pop, 1) := by decide +kernel
theorem d_Wrapping_wrapInto_80 : decode b_Wrapping_wrapInto 80 = .ok (.iinc 6 1, 3) := by decide +kernel
theorem d_Wrapping_wrapInto_83 : decode b_Wrapping_wrapInto 83 = .ok (.goto (-22), 3) := by decide +kernel
theorem d_Wrapping_wrapInto_86 : decode b_Wrapping_wrapInto 86 = .ok (.return_, 1) := by decide +kernel
theorem d_Wrapping_signsFor_0 : decode b_Wrapping_signsFor 0 = .ok (.aload_n 0, 1) := by decide +kernel
theorem d_Wrapping_signsFor_1 : decode b_Wrapping_signsFor 1 = .ok (.invokevirtual 46, 3) := by decide +kernel
theorem d_Wrapping_signsFor_4 : decode b_Wrapping_signsFor 4 = .ok (.bipush 8, 2) := by decide +kernel
theorem d_Wrapping_signsFor_6 : decode b_Wrapping_signsFor 6 = .ok (.imul, 1) := by decide +kernel
theorem d_Wrapping_signsFor_7 : decode b_Wrapping_signsFor 7 = .ok (.iconst 5, 1) := by decide +kernel
theorem d_Wrapping_signsFor_8 : decode b_Wrapping_signsFor 8 = .ok (.iadd, 1) := by decide +kernel
theorem d_Wrapping_signsFor_9 : decode b_Wrapping_signsFor 9 = .ok (.bipush 6, 2) := by decide +kernel
theorem d_Wrapping_signsFor_11 : decode b_Wrapping_signsFor 11 = .ok (.idiv, 1) := by decide +kernel
theorem d_Wrapping_signsFor_12 : decode b_Wrapping_signsFor 12 = .ok (.ireturn, 1) := by decide +kernel
theorem d_Wrapping_sixBits_0 : decode b_Wrapping_sixBits 0 = .ok (.aload_n 0, 1) := by decide +kernel
theorem d_Wrapping_sixBits_1 : decode b_Wrapping_sixBits 1 = .ok (.iload_n 1, 1) := by decide +kernel
theorem d_Wrapping_sixBits_2 : decode b_Wrapping_sixBits 2 = .ok (.bipush 8, 2) := by decide +kernel
theorem d_Wrapping_sixBits_4 : decode b_Wrapping_sixBits 4 = .ok (.idiv, 1) := by decide +kernel
theorem d_Wrapping_sixBits_5 : decode b_Wrapping_sixBits 5 = .ok (.invokevirtual 50, 3) := by decide +kernel
theorem d_Wrapping_sixBits_8 : decode b_Wrapping_sixBits 8 = .ok (.istore_n 2, 1) := by decide +kernel
theorem d_Wrapping_sixBits_9 : decode b_Wrapping_sixBits 9 = .ok (.iconst 0, 1) := by decide +kernel
theorem d_Wrapping_sixBits_10 : decode b_Wrapping_sixBits 10 = .ok (.aload_n 0, 1) := by decide +kernel
theorem d_Wrapping_sixBits_11 : decode b_Wrapping_sixBits 11 = .ok (.iload_n 1, 1) := by decide +kernel
theorem d_Wrapping_sixBits_12 : decode b_Wrapping_sixBits 12 = .ok (.bipush 8, 2) := by decide +kernel
theorem d_Wrapping_sixBits_14 : decode b_Wrapping_sixBits 14 = .ok (.idiv, 1) := by decide +kernel
theorem d_Wrapping_sixBits_15 : decode b_Wrapping_sixBits 15 = .ok (.iconst 1, 1) := by decide +kernel
theorem d_Wrapping_sixBits_16 : decode b_Wrapping_sixBits 16 = .ok (.iadd, 1) := by decide +kernel
theorem d_Wrapping_sixBits_17 : decode b_Wrapping_sixBits 17 = .ok (.invokevirtual 50, 3) := by decide +kernel
theorem d_Wrapping_sixBits_20 : decode b_Wrapping_sixBits 20 = .ok (.invokestatic 60, 3) := by decide +kernel
theorem d_Wrapping_sixBits_23 : decode b_Wrapping_sixBits 23 = .ok (.istore_n 3, 1) := by decide +kernel
theorem d_Wrapping_sixBits_24 : decode b_Wrapping_sixBits 24 = .ok (.iload_n 2, 1) := by decide +kernel
theorem d_Wrapping_sixBits_25 : decode b_Wrapping_sixBits 25 = .ok (.bipush 8, 2) := by decide +kernel
theorem d_Wrapping_sixBits_27 : decode b_Wrapping_sixBits 27 = .ok (.ishl, 1) := by decide +kernel
theorem d_Wrapping_sixBits_28 : decode b_Wrapping_sixBits 28 = .ok (.iload_n 3, 1) := by decide +kernel
theorem d_Wrapping_sixBits_29 : decode b_Wrapping_sixBits 29 = .ok (.ior, 1) := by decide +kernel
theorem d_Wrapping_sixBits_30 : decode b_Wrapping_sixBits 30 = .ok (.bipush 10, 2) := by decide +kernel
theorem d_Wrapping_sixBits_32 : decode b_Wrapping_sixBits 32 = .ok (.iload_n 1, 1) := by decide +kernel
theorem d_Wrapping_sixBits_33 : decode b_Wrapping_sixBits 33 = .ok (.bipush 8, 2) := by decide +kernel
theorem d_Wrapping_sixBits_35 : decode b_Wrapping_sixBits 35 = .ok (.irem, 1) := by decide +kernel
theorem d_Wrapping_sixBits_36 : decode b_Wrapping_sixBits 36 = .ok (.isub, 1) := by decide +kernel
theorem d_Wrapping_sixBits_37 : decode b_Wrapping_sixBits 37 = .ok (.ishr, 1) := by decide +kernel
theorem d_Wrapping_sixBits_38 : decode b_Wrapping_sixBits 38 = .ok (.bipush 63, 2) := by decide +kernel
theorem d_Wrapping_sixBits_40 : decode b_Wrapping_sixBits 40 = .ok (.iand, 1) := by decide +kernel
theorem d_Wrapping_sixBits_41 : decode b_Wrapping_sixBits 41 = .ok (.ireturn, 1) := by decide +kernel
theorem d_Wrapping_sealOf_0 : decode b_Wrapping_sealOf 0 = .ok (.aload_n 0, 1) := by decide +kernel
theorem d_Wrapping_sealOf_1 : decode b_Wrapping_sealOf 1 = .ok (.getfield 9, 3) := by decide +kernel
theorem d_Wrapping_sealOf_4 : decode b_Wrapping_sealOf 4 = .ok (.i2l, 1) := by decide +kernel
theorem d_Wrapping_sealOf_5 : decode b_Wrapping_sealOf 5 = .ok (.lstore_n 3, 1) := by decide +kernel
theorem d_Wrapping_sealOf_6 : decode b_Wrapping_sealOf 6 = .ok (.iconst 0, 1) := by decide +kernel
theorem d_Wrapping_sealOf_7 : decode b_Wrapping_sealOf 7 = .ok (.istore 5, 2) := by decide +kernel
theorem d_Wrapping_sealOf_9 : decode b_Wrapping_sealOf 9 = .ok (.iload 5, 2) := by decide +kernel
theorem d_Wrapping_sealOf_11 : decode b_Wrapping_sealOf 11 = .ok (.iload_n 2, 1) := by decide +kernel
theorem d_Wrapping_sealOf_12 : decode b_Wrapping_sealOf 12 = .ok (.if_icmp .ge 30, 3) := by decide +kernel
theorem d_Wrapping_sealOf_15 : decode b_Wrapping_sealOf 15 = .ok (.lload_n 3, 1) := by decide +kernel
theorem d_Wrapping_sealOf_16 : decode b_Wrapping_sealOf 16 = .ok (.aload_n 1, 1) := by decide +kernel
theorem d_Wrapping_sealOf_17 : decode b_Wrapping_sealOf 17 = .ok (.iload 5, 2) := by decide +kernel
theorem d_Wrapping_sealOf_19 : decode b_Wrapping_sealOf 19 = .ok (.invokevirtual 50, 3) := by decide +kernel
theorem d_Wrapping_sealOf_22 : decode b_Wrapping_sealOf 22 = .ok (.i2l, 1) := by decide +kernel
theorem d_Wrapping_sealOf_23 : decode b_Wrapping_sealOf 23 = .ok (.lxor, 1) := by decide +kernel
theorem d_Wrapping_sealOf_24 : decode b_Wrapping_sealOf 24 = .ok (.ldc2_w 69, 3) := by decide +kernel
theorem d_Wrapping_sealOf_27 : decode b_Wrapping_sealOf 27 = .ok (.lmul, 1) := by decide +kernel
theorem d_Wrapping_sealOf_28 : decode b_Wrapping_sealOf 28 = .ok (.lstore_n 3, 1) := by decide +kernel
theorem d_Wrapping_sealOf_29 : decode b_Wrapping_sealOf 29 = .ok (.lload_n 3, 1) := by decide +kernel
theorem d_Wrapping_sealOf_30 : decode b_Wrapping_sealOf 30 = .ok (.lload_n 3, 1) := by decide +kernel
theorem d_Wrapping_sealOf_31 : decode b_Wrapping_sealOf 31 = .ok (.bipush 29, 2) := by decide +kernel
theorem d_Wrapping_sealOf_33 : decode b_Wrapping_sealOf 33 = .ok (.lushr, 1) := by decide +kernel
theorem d_Wrapping_sealOf_34 : decode b_Wrapping_sealOf 34 = .ok (.lxor, 1) := by decide +kernel
theorem d_Wrapping_sealOf_35 : decode b_Wrapping_sealOf 35 = .ok (.lstore_n 3, 1) := by decide +kernel
theorem d_Wrapping_sealOf_36 : decode b_Wrapping_sealOf 36 = .ok (.iinc 5 1, 3) := by decide +kernel
theorem d_Wrapping_sealOf_39 : decode b_Wrapping_sealOf 39 = .ok (.goto (-30), 3) := by decide +kernel
theorem d_Wrapping_sealOf_42 : decode b_Wrapping_sealOf 42 = .ok (.lload_n 3, 1) := by decide +kernel
theorem d_Wrapping_sealOf_43 : decode b_Wrapping_sealOf 43 = .ok (.lreturn, 1) := by decide +kernel
theorem d_Wrapping_sealSign_0 : decode b_Wrapping_sealSign 0 = .ok (.ldc 22, 2) := by decide +kernel
theorem d_Wrapping_sealSign_2 : decode b_Wrapping_sealSign 2 = .ok (.lload_n 0, 1) := by decide +kernel
theorem d_Wrapping_sealSign_3 : decode b_Wrapping_sealSign 3 = .ok (.bipush 6, 2) := by decide +kernel
theorem d_Wrapping_sealSign_5 : decode b_Wrapping_sealSign 5 = .ok (.bipush 9, 2) := by decide +kernel
theorem d_Wrapping_sealSign_7 : decode b_Wrapping_sealSign 7 = .ok (.iload_n 2, 1) := by decide +kernel
theorem d_Wrapping_sealSign_8 : decode b_Wrapping_sealSign 8 = .ok (.isub, 1) := by decide +kernel
theorem d_Wrapping_sealSign_9 : decode b_Wrapping_sealSign 9 = .ok (.imul, 1) := by decide +kernel
theorem d_Wrapping_sealSign_10 : decode b_Wrapping_sealSign 10 = .ok (.lushr, 1) := by decide +kernel
theorem d_Wrapping_sealSign_11 : decode b_Wrapping_sealSign 11 = .ok (.l2i, 1) := by decide +kernel
theorem d_Wrapping_sealSign_12 : decode b_Wrapping_sealSign 12 = .ok (.bipush 63, 2) := by decide +kernel
theorem d_Wrapping_sealSign_14 : decode b_Wrapping_sealSign 14 = .ok (.iand, 1) := by decide +kernel
theorem d_Wrapping_sealSign_15 : decode b_Wrapping_sealSign 15 = .ok (.invokevirtual 28, 3) := by decide +kernel
theorem d_Wrapping_sealSign_18 : decode b_Wrapping_sealSign 18 = .ok (.ireturn, 1) := by decide +kernel
set_option maxRecDepth 20000 in
theorem fl_Wrapping_9 : hm_fl vwCl TB R_Wrapping 9 6 0 true .int := ⟨_, _, _, _, cl_Wrapping, by decide, (TBm 162 (by decide +kernel) rfl), rfl, rfl⟩
set_option maxRecDepth 20000 in
theorem me_JString_charAt : hm_meV y_JString_charAt b_JString_charAt 2 (some .char) 1 := ⟨⟨(TBm 363 rfl rfl), (TBm 50 (by decide +kernel) rfl), by decide +kernel⟩, (TBm 361 (by decide +kernel) rfl), (TBm 362 (by decide +kernel) rfl)⟩
set_option maxRecDepth 20000 in
theorem me_Wrapping_sealOf : hm_meV y_Wrapping_sealOf b_Wrapping_sealOf 6 (some .long) 2 := ⟨⟨(TBm 438 rfl rfl), (TBm 45 (by decide +kernel) rfl), by decide +kernel⟩, (TBm 437 (by decide +kernel) rfl), (TBm 5 (by decide +kernel) rfl)⟩
set_option maxRecDepth 20000 in
theorem me_Wrapping_sealSign : hm_meS y_Wrapping_sealSign b_Wrapping_sealSign 3 (some .char) 2 := ⟨⟨(TBm 442 rfl rfl), (TBm 45 (by decide +kernel) rfl), by decide +kernel⟩, (TBm 441 (by decide +kernel) rfl)⟩
set_option maxRecDepth 20000 in
theorem me_Wrapping_signsFor : hm_meS y_Wrapping_signsFor b_Wrapping_signsFor 1 (some .int) 1 := ⟨⟨(TBm 418 rfl rfl), (TBm 45 (by decide +kernel) rfl), by decide +kernel⟩, (TBm 417 (by decide +kernel) rfl)⟩
set_option maxRecDepth 20000 in
theorem me_Wrapping_sixBits : hm_meS y_Wrapping_sixBits b_Wrapping_sixBits 4 (some .int) 2 := ⟨⟨(TBm 427 rfl rfl), (TBm 45 (by decide +kernel) rfl), by decide +kernel⟩, (TBm 426 (by decide +kernel) rfl)⟩
set_option maxRecDepth 20000 in
theorem wc_Wrapping_69 : Cond.constantLong R_Wrapping 69 (-7046029254386353131) ∈ TB := TBm 439 (by decide +kernel) rfl
set_option maxRecDepth 20000 in
theorem wl_Wrapping_13 : Cond.methodLink R_Wrapping 13 y_Wrapping_signsFor ∈ TB := TBm 416 (by decide +kernel) rfl
set_option maxRecDepth 20000 in
theorem wl_Wrapping_17 : Cond.methodLink R_Wrapping 17 y_Text_clear ∈ TB := TBm 423 (by decide +kernel) rfl
set_option maxRecDepth 20000 in
theorem wl_Wrapping_24 : Cond.methodLink R_Wrapping 24 y_Wrapping_sixBits ∈ TB := TBm 425 (by decide +kernel) rfl
set_option maxRecDepth 20000 in
theorem wl_Wrapping_28 : Cond.methodLink R_Wrapping 28 y_JString_charAt ∈ TB := TBm 433 (by decide +kernel) rfl
set_option maxRecDepth 20000 in
theorem wl_Wrapping_34 : Cond.methodLink R_Wrapping 34 y_Text_add ∈ TB := TBm 434 (by decide +kernel) rfl
set_option maxRecDepth 20000 in
theorem wl_Wrapping_38 : Cond.methodLink R_Wrapping 38 y_Wrapping_sealOf ∈ TB := TBm 435 (by decide +kernel) rfl
set_option maxRecDepth 20000 in
theorem wl_Wrapping_42 : Cond.methodLink R_Wrapping 42 y_Wrapping_sealSign ∈ TB := TBm 440 (by decide +kernel) rfl
set_option maxRecDepth 20000 in
theorem wl_Wrapping_46 : Cond.methodLink R_Wrapping 46 y_Text_size ∈ TB := TBm 419 (by decide +kernel) rfl
set_option maxRecDepth 20000 in
theorem wl_Wrapping_50 : Cond.methodLink R_Wrapping 50 y_Text_codeAt ∈ TB := TBm 428 (by decide +kernel) rfl
set_option maxRecDepth 20000 in
theorem wl_Wrapping_60 : Cond.methodLink R_Wrapping 60 Lib.Math.max.name ∈ TB := TBm 432 (by decide +kernel) rfl
set_option maxHeartbeats 4000000 in
set_option maxRecDepth 100000 in
theorem c_signsFor (l : Launch) (D : va_G) (k : Nat → ClassId) (f : hm) (t : Nat) (a : Nat) (n : Nat) (ht : f t = some (.inr (5, [.ref a, .int (nI n)]))) (hn : n ≤ 120) : hm_Mi l D vwCl (tyL k) y_Wrapping_signsFor (Cond.code y_Wrapping_signsFor b_Wrapping_signsFor 1 (some .int) :: TB) ({ frames := 1, cells := 0, slots := 0, locals := 20 }) [.ref t] f (fun (r : Int32) (f1 : hm) => nI ((n * 8 + 5) / 6) = r ∧ f = f1) 0 0 := by
  refine hm_enter (Qc := fun sz => va_Qi _ (hm_R D vwCl (tyL k) f sz) (hm_A f sz)) (by decide) rfl (Nat.le_of_ble_eq_true rfl) ?_
  intro p e s m below meth cd ls X0 hr hlk hin hK hM hS hA hl Q hQ
  have X : CallFix p m cd b_Wrapping_signsFor 1 s ([.ref t] : List Value).toArray TB R_Wrapping := ⟨X0.1, X0.2.1, X0.2.2.1, X0.2.2.2.1, fun w h => X0.2.2.2.2 w (List.mem_cons_of_mem _ h)⟩
  have hx := X.1; have hb := X.2.1; have hml := X.2.2.1; have hown := X.2.2.2.1; have hts := X.2.2.2.2
  have hl : lv_has ls 1 [(0, .ref t)] := hl
  refine lv_aload_n hx hb d_Wrapping_signsFor_0 rfl (lv_at hl 0 rfl) ?_
  refine hm_calli hS hM hA (va_runV (As := []) (rest := []) X (c_Text_size l D k f t a (nI n) ht  s.heap.size) (hm_cwV hts me_Text_size wl_Wrapping_46 rfl rfl ⟨Nat.le_of_ble_eq_true rfl, Nat.le_of_ble_eq_true rfl⟩) (hm_preV hM hK ht rfl) rfl rfl hl.1 rfl (lv_room (Nat.le_of_ble_eq_true rfl)) d_Wrapping_signsFor_1 ⟨Nat.le_of_ble_eq_true rfl, Nat.le_of_ble_eq_true rfl⟩) (fun r3 f1 H locs p2 hM hS => ?_)
  obtain ⟨rfl, rfl⟩ := p2
  refine lv_bipush (v := 8) hx hb d_Wrapping_signsFor_4 (by decide) ?_
  refine lv_imul hx hb d_Wrapping_signsFor_6 ?_
  refine lv_iconst (v := 5) hx hb d_Wrapping_signsFor_7 (by decide) ?_
  refine lv_iadd hx hb d_Wrapping_signsFor_8 ?_
  refine lv_bipush (v := 6) hx hb d_Wrapping_signsFor_9 (by decide) ?_
  refine lv_idiv hx hb d_Wrapping_signsFor_11 (by decide) ?_
  refine hm_top (z := nI ((n * 8 + 5) / 6)) (z_sg hn) ?_
  exact hm_iret X hQ hr hlk hK hM hS d_Wrapping_signsFor_12 ⟨rfl, rfl⟩
set_option maxHeartbeats 4000000 in
set_option maxRecDepth 100000 in
theorem c_sizeOfWrapped (l : Launch) (D : va_G) (k : Nat → ClassId) (f : hm) (h : Nat) (t : Nat) (a : Nat) (n : Nat) (ht : f t = some (.inr (5, [.ref a, .int (nI n)]))) (hn : n ≤ 120) : hm_Mi l D vwCl (tyL k) y_Wrapping_sizeOfWrapped (Cond.code y_Wrapping_sizeOfWrapped b_Wrapping_sizeOfWrapped 2 (some .int) :: TB) ({ frames := 2, cells := 0, slots := 0, locals := 40 }) [.ref h, .ref t] f (fun (r : Int32) (f1 : hm) => nI ((n * 8 + 5) / 6 + 11) = r ∧ f = f1) 0 0 := by
  refine hm_enter (Qc := fun sz => va_Qi _ (hm_R D vwCl (tyL k) f sz) (hm_A f sz)) (by decide) rfl (Nat.le_of_ble_eq_true rfl) ?_
  intro p e s m below meth cd ls X0 hr hlk hin hK hM hS hA hl Q hQ
  have X : CallFix p m cd b_Wrapping_sizeOfWrapped 2 s ([.ref h, .ref t] : List Value).toArray TB R_Wrapping := ⟨X0.1, X0.2.1, X0.2.2.1, X0.2.2.2.1, fun w h => X0.2.2.2.2 w (List.mem_cons_of_mem _ h)⟩
  have hx := X.1; have hb := X.2.1; have hml := X.2.2.1; have hown := X.2.2.2.1; have hts := X.2.2.2.2
  have hl : lv_has ls 2 [(0, .ref h), (1, .ref t)] := hl
  refine lv_aload_n hx hb d_Wrapping_sizeOfWrapped_0 rfl (lv_at hl 1 rfl) ?_
  refine hm_calli hS hM hA (va_runS (As := [.ref t]) (rest := []) X (c_signsFor l D k f t a n ht (by omega) s.heap.size) (hm_cwS hts me_Wrapping_signsFor wl_Wrapping_13 rfl rfl ⟨Nat.le_of_ble_eq_true rfl, Nat.le_of_ble_eq_true rfl⟩) (hm_preS hM hK) rfl rfl hl.1 rfl (lv_room (Nat.le_of_ble_eq_true rfl)) d_Wrapping_sizeOfWrapped_1 ⟨Nat.le_of_ble_eq_true rfl, Nat.le_of_ble_eq_true rfl⟩) (fun r3 f1 H locs p2 hM hS => ?_)
  obtain ⟨rfl, rfl⟩ := p2
  refine lv_bipush (v := 11) hx hb d_Wrapping_sizeOfWrapped_4 (by decide) ?_
  refine lv_iadd hx hb d_Wrapping_sizeOfWrapped_6 ?_
  refine hm_top (z := nI ((n * 8 + 5) / 6 + 11)) (nI_add _ 11) ?_
  exact hm_iret X hQ hr hlk hK hM hS d_Wrapping_sizeOfWrapped_7 ⟨rfl, rfl⟩
set_option maxHeartbeats 4000000 in
set_option maxRecDepth 100000 in
theorem c_sixBits (l : Launch) (D : va_G) (k : Nat → ClassId) (f : hm) (t : Nat) (a : Nat) (n : Nat) (x : Nat → Int32) (ch : Nat → Nat) (i : Nat) (ht : f t = some (.inr (5, [.ref a, .int (nI n)]))) (ha : f a = some (.inl (k 2, 120, .inl x))) (hn : n ≤ 120) (hx9 : ∀ j, j < n → x j = nI (ch j) ∧ ch j < 256) (hi : 6 * i < 8 * n) : hm_Mi l D vwCl (tyL k) y_Wrapping_sixBits (Cond.code y_Wrapping_sixBits b_Wrapping_sixBits 4 (some .int) :: TB) ({ frames := 1, cells := 0, slots := 0, locals := 24 }) [.ref t, .int (nI (6 * i))] f (fun (r : Int32) (f1 : hm) => nI (z_six n ch i) = r ∧ f = f1) 0 0 := by
  refine hm_enter (Qc := fun sz => va_Qi _ (hm_R D vwCl (tyL k) f sz) (hm_A f sz)) (by decide) rfl (Nat.le_of_ble_eq_true rfl) ?_
  intro p e s m below meth cd ls X0 hr hlk hin hK hM hS hA hl Q hQ
  have X : CallFix p m cd b_Wrapping_sixBits 4 s ([.ref t, .int (nI (6 * i))] : List Value).toArray TB R_Wrapping := ⟨X0.1, X0.2.1, X0.2.2.1, X0.2.2.2.1, fun w h => X0.2.2.2.2 w (List.mem_cons_of_mem _ h)⟩
  have hx := X.1; have hb := X.2.1; have hml := X.2.2.1; have hown := X.2.2.2.1; have hts := X.2.2.2.2
  have hl : lv_has ls 4 [(0, .ref t), (1, .int (nI (6 * i)))] := hl
  refine lv_aload_n hx hb d_Wrapping_sixBits_0 rfl (lv_at hl 0 rfl) ?_
  refine lv_iload_n hx hb d_Wrapping_sixBits_1 rfl (lv_at hl 1 rfl) ?_
  refine lv_bipush (v := 8) hx hb d_Wrapping_sixBits_2 (by decide) ?_
  refine lv_idiv hx hb d_Wrapping_sixBits_4 (by decide) ?_
  refine hm_top (z := nI (6 * i / 8)) (pk_div (d := 8) (by omega) (by decide) (by decide)) ?_
  refine hm_calli hS hM hA (va_runV (As := [.int (nI (6 * i / 8))]) (rest := []) X (c_Text_codeAt l D k f t a n x (nI (6 * i / 8)) ht ha hn s.heap.size) (hm_cwV hts me_Text_codeAt wl_Wrapping_50 rfl rfl ⟨Nat.le_of_ble_eq_true rfl, Nat.le_of_ble_eq_true rfl⟩) (hm_preV hM hK ht rfl) rfl rfl hl.1 rfl (lv_room (Nat.le_of_ble_eq_true rfl)) d_Wrapping_sixBits_5 ⟨Nat.le_of_ble_eq_true rfl, Nat.le_of_ble_eq_true rfl⟩) (fun r3 f1 H locs p2 hM hS => ?_)
  obtain ⟨rfl, rfl⟩ := p2
  refine hm_top (z := nI (ch (6 * i / 8))) (by rw [z_at_in (by omega) (by omega)]; exact (hx9 _ (by omega)).1) ?_
  refine lv_istore_n (lv' := [(2, .int (nI (ch (6 * i / 8)))), (0, .ref t), (1, .int (nI (6 * i)))]) hx hb d_Wrapping_sixBits_8 rfl hl (by decide) rfl (fun ls hl => ?_)
  refine lv_iconst (v := 0) hx hb d_Wrapping_sixBits_9 (by decide) ?_
  refine lv_aload_n hx hb d_Wrapping_sixBits_10 rfl (lv_at hl 1 rfl) ?_
  refine lv_iload_n hx hb d_Wrapping_sixBits_11 rfl (lv_at hl 2 rfl) ?_
  refine lv_bipush (v := 8) hx hb d_Wrapping_sixBits_12 (by decide) ?_
  refine lv_idiv hx hb d_Wrapping_sixBits_14 (by decide) ?_
  refine hm_top (z := nI (6 * i / 8)) (pk_div (d := 8) (by omega) (by decide) (by decide)) ?_
  refine lv_iconst (v := 1) hx hb d_Wrapping_sixBits_15 (by decide) ?_
  refine lv_iadd hx hb d_Wrapping_sixBits_16 ?_
  refine hm_top (nI_1 _) ?_
  refine hm_calli hS hM hA (va_runV (As := [.int (nI ((6 * i / 8) + 1))]) (rest := [.int 0]) X (c_Text_codeAt l D k f t a n x (nI ((6 * i / 8) + 1)) ht ha hn H.size) (hm_cwV hts me_Text_codeAt wl_Wrapping_50 rfl rfl ⟨Nat.le_of_ble_eq_true rfl, Nat.le_of_ble_eq_true rfl⟩) (hm_preV hM hK ht rfl) rfl rfl hl.1 rfl (lv_room (Nat.le_of_ble_eq_true rfl)) d_Wrapping_sixBits_17 ⟨Nat.le_of_ble_eq_true rfl, Nat.le_of_ble_eq_true rfl⟩) (fun r6 f4 H locs p5 hM hS => ?_)
  obtain ⟨rfl, rfl⟩ := p5
  refine va_mmax hx hb (hml.trans hl.1.symm) hown (hts _ wl_Wrapping_60) (hts _ ws_Mmax) (hts _ wn_Math) (hts _ wd_Mmax) (Nat.le_of_ble_eq_true rfl) (Nat.le_of_ble_eq_true rfl) (Nat.zero_le _) (Nat.zero_le _) d_Wrapping_sixBits_20 ?_
  refine hm_top (z := nI (z_c2 n ch (6 * i / 8 + 1))) (z_max0 hx9 (by omega) hn) ?_
  refine lv_istore_n (lv' := [(3, .int (nI (z_c2 n ch (6 * i / 8 + 1)))), (2, .int (nI (ch (6 * i / 8)))), (0, .ref t), (1, .int (nI (6 * i)))]) hx hb d_Wrapping_sixBits_23 rfl hl (by decide) rfl (fun ls hl => ?_)
  refine lv_iload_n hx hb d_Wrapping_sixBits_24 rfl (lv_at hl 1 rfl) ?_
  refine lv_bipush (v := 8) hx hb d_Wrapping_sixBits_25 (by decide) ?_
  refine lv_ishl hx hb d_Wrapping_sixBits_27 ?_
  refine lv_iload_n hx hb d_Wrapping_sixBits_28 rfl (lv_at hl 0 rfl) ?_
  refine lv_ior hx hb d_Wrapping_sixBits_29 ?_
  refine lv_bipush (v := 10) hx hb d_Wrapping_sixBits_30 (by decide) ?_
  refine lv_iload_n hx hb d_Wrapping_sixBits_32 rfl (lv_at hl 3 rfl) ?_
  refine lv_bipush (v := 8) hx hb d_Wrapping_sixBits_33 (by decide) ?_
  refine lv_irem hx hb d_Wrapping_sixBits_35 (by decide) ?_
  refine hm_top (z := nI (6 * i % 8)) (pk_rem (d := 8) (by omega) (by decide) (by decide)) ?_
  refine lv_isub hx hb d_Wrapping_sixBits_36 ?_
  refine lv_ishr hx hb d_Wrapping_sixBits_37 ?_
  refine lv_bipush (v := 63) hx hb d_Wrapping_sixBits_38 (by decide) ?_
  refine lv_iand hx hb d_Wrapping_sixBits_40 ?_
  refine hm_top (z := nI (z_six n ch i)) (z_six_eq (hx9 _ (by omega)).2 (z_c2_lt hx9 _) (by omega)) ?_
  exact hm_iret X hQ hr hlk hK hM hS d_Wrapping_sixBits_41 ⟨rfl, rfl⟩
set_option maxHeartbeats 4000000 in
set_option maxRecDepth 100000 in
theorem c_sealOf (l : Launch) (D : va_G) (k : Nat → ClassId) (f : hm) (h : Nat) (ky : Int32) (t : Nat) (a : Nat) (n : Nat) (x : Nat → Int32) (g9 : Nat) (hh : f h = some (.inr (6, [.int ky]))) (ht : f t = some (.inr (5, [.ref a, .int (nI n)]))) (ha : f a = some (.inl (k 2, 120, .inl x))) (hn : n ≤ 120) (hg : g9 ≤ n) : hm_Ml l D vwCl (tyL k) y_Wrapping_sealOf (Cond.code y_Wrapping_sealOf b_Wrapping_sealOf 6 (some .long) :: TB) ({ frames := 1, cells := 0, slots := 0, locals := 21 }) [.ref h, .ref t, .int (nI g9)] f (fun (r : Int64) (f1 : hm) => z_seal ky.toInt64 x g9 = r ∧ f = f1) 0 0 := by
  refine hm_enter (Qc := fun sz => va_Ql _ (hm_R D vwCl (tyL k) f sz) (hm_A f sz)) (by decide) rfl (Nat.le_of_ble_eq_true rfl) ?_
  intro p e s m below meth cd ls X0 hr hlk hin hK hM hS hA hl Q hQ
  have X : CallFix p m cd b_Wrapping_sealOf 6 s ([.ref h, .ref t, .int (nI g9)] : List Value).toArray TB R_Wrapping := ⟨X0.1, X0.2.1, X0.2.2.1, X0.2.2.2.1, fun w h => X0.2.2.2.2 w (List.mem_cons_of_mem _ h)⟩
  have hx := X.1; have hb := X.2.1; have hml := X.2.2.1; have hown := X.2.2.2.1; have hts := X.2.2.2.2
  have hl : lv_has ls 6 [(0, .ref h), (1, .ref t), (2, .int (nI g9))] := hl
  refine lv_aload_n hx hb d_Wrapping_sealOf_0 rfl (lv_at hl 0 rfl) ?_
  refine hm_get X hK hM hh fl_Wrapping_9 (v := .int ky) rfl d_Wrapping_sealOf_1 ?_
  refine lv_i2l hx hb d_Wrapping_sealOf_4 rfl ?_
  refine lv_lstore_n (lv' := [(3, .long ky.toInt64), (0, .ref h), (1, .ref t), (2, .int (nI g9))]) hx hb d_Wrapping_sealOf_5 rfl hl (by decide) rfl (fun ls hl => ?_)
  refine lv_iconst (v := 0) hx hb d_Wrapping_sealOf_6 (by decide) ?_
  refine lv_istore (lv' := [(5, .int 0), (3, .long ky.toInt64), (0, .ref h), (1, .ref t), (2, .int (nI g9))]) hx hb d_Wrapping_sealOf_7 hl (by decide) rfl (fun ls hl => ?_)
  have loop9 : ∀ (fu : Nat) (j : Nat) (H : Heap) (locs : List Loc) (ls : Array Slot) (hmu : g9 - j < fu) (hj : j ≤ g9) (hM : hm_W D vwCl (hm_A f s.heap.size) f H) (hS : va_S (hm_A f s.heap.size) s.heap H locs) (hl : lv_has ls 6 [(0, .ref h), (1, .ref t), (2, .int (nI g9)), (3, .long (z_seal ky.toInt64 x j)), (5, .int (nI j))]), W p l e ({ frames := 1, cells := 0, slots := 0, locals := 21 }) s m ([.ref h, .ref t, .int (nI g9)] : List Value).toArray below meth cd H locs 0 0 Q (F0 m 9 ls []) := by
    intro fu
    induction fu with
    | zero => intro j H locs ls hmu; exact absurd hmu (Nat.not_lt_zero _)
    | succ fu ih =>
      intro j H locs ls hmu hj  hM hS hl
      refine lv_iload hx hb d_Wrapping_sealOf_9 (lv_at hl 4 rfl) ?_
      refine lv_iload_n hx hb d_Wrapping_sealOf_11 rfl (lv_at hl 2 rfl) ?_
      refine lv_icmp_ge (tgt := 42) hx hb d_Wrapping_sealOf_12 (by decide) (fun h1 => ?_) (fun h1 => ?_)
      · have hge : j = g9 := by have z := h1; rw [nI_leI (by omega) (by omega)] at z; omega
        subst hge
        refine lv_lload_n hx hb d_Wrapping_sealOf_42 rfl (lv_at hl 3 rfl) ?_
        exact hm_lret X hQ hr hlk hK hM hS d_Wrapping_sealOf_43 ⟨rfl, rfl⟩
      · have hlt : j < g9 := by have z := h1; rw [nI_leI (by omega) (by omega)] at z; omega
        refine lv_lload_n hx hb d_Wrapping_sealOf_15 rfl (lv_at hl 3 rfl) ?_
        refine lv_aload_n hx hb d_Wrapping_sealOf_16 rfl (lv_at hl 1 rfl) ?_
        refine lv_iload hx hb d_Wrapping_sealOf_17 (lv_at hl 4 rfl) ?_
        refine hm_calli hS hM hA (va_runV (As := [.int (nI j)]) (rest := [.long (z_seal ky.toInt64 x j)]) X (c_Text_codeAt l D k f t a n x (nI j) ht ha hn H.size) (hm_cwV hts me_Text_codeAt wl_Wrapping_50 rfl rfl ⟨Nat.le_of_ble_eq_true rfl, Nat.le_of_ble_eq_true rfl⟩) (hm_preV hM hK ht rfl) rfl rfl hl.1 rfl (lv_room (Nat.le_of_ble_eq_true rfl)) d_Wrapping_sealOf_19 ⟨Nat.le_of_ble_eq_true rfl, Nat.le_of_ble_eq_true rfl⟩) (fun r4 f2 H locs p3 hM hS => ?_)
        obtain ⟨rfl, rfl⟩ := p3
        refine hm_top (z := x j) (z_at_in (by omega) (by omega)) ?_
        refine lv_i2l hx hb d_Wrapping_sealOf_22 rfl ?_
        refine lv_lxor hx hb d_Wrapping_sealOf_23 ?_
        refine lv_ldc2 (v := (-7046029254386353131)) hx hb hown (hts _ wc_Wrapping_69) d_Wrapping_sealOf_24 ?_
        refine lv_lmul hx hb d_Wrapping_sealOf_27 ?_
        refine lv_lstore_n (lv' := [(3, .long (((z_seal ky.toInt64 x j) ^^^ ((x j).toInt64)) * (-7046029254386353131))), (0, .ref h), (1, .ref t), (2, .int (nI g9)), (5, .int (nI j))]) hx hb d_Wrapping_sealOf_28 rfl hl (by decide) rfl (fun ls hl => ?_)
        refine lv_lload_n hx hb d_Wrapping_sealOf_29 rfl (lv_at hl 0 rfl) ?_
        refine lv_lload_n hx hb d_Wrapping_sealOf_30 rfl (lv_at hl 0 rfl) ?_
        refine lv_bipush (v := 29) hx hb d_Wrapping_sealOf_31 (by decide) ?_
        refine lv_lushr hx hb d_Wrapping_sealOf_33 rfl ?_
        refine lv_lxor hx hb d_Wrapping_sealOf_34 ?_
        refine lv_lstore_n (lv' := [(3, .long ((((z_seal ky.toInt64 x j) ^^^ ((x j).toInt64)) * (-7046029254386353131)) ^^^ (((((z_seal ky.toInt64 x j) ^^^ ((x j).toInt64)) * (-7046029254386353131)).toUInt64 >>> ((29 : Int32).toInt64.toUInt64 &&& Int64.toUInt64 63)).toInt64))), (0, .ref h), (1, .ref t), (2, .int (nI g9)), (5, .int (nI j))]) hx hb d_Wrapping_sealOf_35 rfl hl (by decide) rfl (fun ls hl => ?_)
        refine lv_iinc (lv' := [(5, .int (nI (j + 1))), (3, .long ((((z_seal ky.toInt64 x j) ^^^ ((x j).toInt64)) * (-7046029254386353131)) ^^^ (((((z_seal ky.toInt64 x j) ^^^ ((x j).toInt64)) * (-7046029254386353131)).toUInt64 >>> ((29 : Int32).toInt64.toUInt64 &&& Int64.toUInt64 63)).toInt64))), (0, .ref h), (1, .ref t), (2, .int (nI g9))]) hx hb d_Wrapping_sealOf_36 hl (k := 4) rfl (hm_inc _) (by decide) rfl (fun ls hl => ?_)
        refine lv_goto (tgt := 9) hx hb d_Wrapping_sealOf_39 (by decide) ?_
        exact ih (j + 1)  H locs ls (by omega) (by omega)  hM hS (lv_sub hl [2, 3, 4, 1, 0] rfl)
  exact loop9 _ 0  s.heap [] ls (Nat.lt_succ_self _) (Nat.zero_le _)  hM hS (lv_sub hl [2, 3, 4, 1, 0] rfl)
set_option maxHeartbeats 4000000 in
set_option maxRecDepth 100000 in
theorem c_sealSign (l : Launch) (D : va_G) (k : Nat → ClassId) (sA sV : Nat → Nat) (f : hm) (z : Int64) (t : Nat) : hm_MiZ l sA sV D vwCl (tyL k) y_Wrapping_sealSign (Cond.code y_Wrapping_sealSign b_Wrapping_sealSign 3 (some .char) :: TB) ({ frames := 4, cells := 0, slots := 0, locals := 85 }) [.long z, .int (nI t)] f (fun (r : Int32) (f1 : hm) => nI (st_chr 6 (z_ss z t)) = r ∧ f = f1) 0 0 := by
  refine hm_enterZ (Qc := fun sz => va_Qi _ (hm_R D vwCl (tyL k) f sz) (hm_A f sz)) (by decide) rfl (Nat.le_of_ble_eq_true rfl) ?_
  intro p e s m below meth cd ls hZ X0 hr hlk hin hK hM hS hA hl Q hQ
  have X : CallFix p m cd b_Wrapping_sealSign 3 s ([.long z, .int (nI t)] : List Value).toArray TB R_Wrapping := ⟨X0.1, X0.2.1, X0.2.2.1, X0.2.2.2.1, fun w h => X0.2.2.2.2 w (List.mem_cons_of_mem _ h)⟩
  have hx := X.1; have hb := X.2.1; have hml := X.2.2.1; have hown := X.2.2.2.1; have hts := X.2.2.2.2
  have hl : lv_has ls 3 [(0, .long z), (2, .int (nI t))] := hl
  refine va_ldcS hx hb hown (hZ.2.2.1 6 (by decide)) d_Wrapping_sealSign_0 ?_
  refine lv_lload_n hx hb d_Wrapping_sealSign_2 rfl (lv_at hl 0 rfl) ?_
  refine lv_bipush (v := 6) hx hb d_Wrapping_sealSign_3 (by decide) ?_
  refine lv_bipush (v := 9) hx hb d_Wrapping_sealSign_5 (by decide) ?_
  refine lv_iload_n hx hb d_Wrapping_sealSign_7 rfl (lv_at hl 1 rfl) ?_
  refine lv_isub hx hb d_Wrapping_sealSign_8 ?_
  refine lv_imul hx hb d_Wrapping_sealSign_9 ?_
  refine lv_lushr hx hb d_Wrapping_sealSign_10 rfl ?_
  refine lv_l2i hx hb d_Wrapping_sealSign_11 rfl ?_
  refine lv_bipush (v := 63) hx hb d_Wrapping_sealSign_12 (by decide) ?_
  refine lv_iand hx hb d_Wrapping_sealSign_14 ?_
  refine hm_top (z := nI (z_ss z t)) (pk_and _ 6 (by decide)) ?_
  refine hm_calli hS hM hA (va_runV (As := [.int (nI (z_ss z t))]) (rest := []) X (j_charAt l D k sA sV f 6 (z_ss z t)  (by decide) (z_ss_in z t) s.heap.size) (hm_cwV hts me_JString_charAt wl_Wrapping_28 rfl rfl ⟨Nat.le_of_ble_eq_true rfl, Nat.le_of_ble_eq_true rfl⟩) (hm_preVT hZ hS hA hM hK (i := 6) (by decide)) rfl rfl hl.1 rfl (lv_room (Nat.le_of_ble_eq_true rfl)) d_Wrapping_sealSign_15 ⟨Nat.le_of_ble_eq_true rfl, Nat.le_of_ble_eq_true rfl⟩) (fun r3 f1 H locs p2 hM hS => ?_)
  obtain ⟨rfl, rfl⟩ := p2
  exact hm_zret X hQ hr hlk hK hM hS (pk_charN (q := st_chr 6 (z_ss z t)) (by have h9 := (st_ok 6 (by decide) _ (z_ss_in z t)).2.1; omega)).1 d_Wrapping_sealSign_18 ⟨rfl, rfl⟩
set_option maxHeartbeats 4000000 in
set_option maxRecDepth 100000 in
theorem c_wrapInto (l : Launch) (D : va_G) (k : Nat → ClassId) (sA sV : Nat → Nat) (f : hm) (h : Nat) (ky : Int32) (t : Nat) (a : Nat) (n : Nat) (x : Nat → Int32) (ch : Nat → Nat) (t2 : Nat) (a2 : Nat) (n2 : Int32) (y : Nat → Int32) (hh : f h = some (.inr (6, [.int ky]))) (ht : f t = some (.inr (5, [.ref a, .int (nI n)]))) (ha : f a = some (.inl (k 2, 120, .inl x))) (ht2 : f t2 = some (.inr (5, [.ref a2, .int n2]))) (ha2 : f a2 = some (.inl (k 2, 120, .inl y))) (hn : n ≤ 120) (hx9 : ∀ j, j < n → x j = nI (ch j) ∧ ch j < 256) (hs : (n * 8 + 5) / 6 + 11 ≤ 120) (htt : t ≠ t2) (haa : a ≠ a2) : hm_MvZ l sA sV D vwCl (tyL k) y_Wrapping_wrapInto (Cond.code y_Wrapping_wrapInto b_Wrapping_wrapInto 7 none :: TB) ({ frames := 5, cells := 0, slots := 0, locals := 107 }) [.ref h, .ref t, .ref t2] f (fun (f1 : hm) => ∃ (y2 : Nat → Int32), (∀ i, i < (n * 8 + 5) / 6 → y2 i = nI (st_chr 6 (z_six n ch i))) ∧ (y2 ((n * 8 + 5) / 6) = 46) ∧ (∀ i, i < 10 → y2 ((n * 8 + 5) / 6 + 1 + i) = nI (st_chr 6 (z_ss (z_seal ky.toInt64 y2 ((n * 8 + 5) / 6)) i))) ∧ f1 t2 = some (.inr (5, [.ref a2, .int (nI ((n * 8 + 5) / 6 + 11))])) ∧ f1 a2 = some (.inl (k 2, 120, .inl y2)) ∧ ∀ (zq : Nat) (zx : va_E), zq ≠ t2 → zq ≠ a2 → f zq = some zx → f1 zq = some zx) 0 0 := by
  refine hm_enterZ (Qc := fun sz => va_Qv _ (hm_R D vwCl (tyL k) f sz) (hm_A f sz)) (by decide) rfl (Nat.le_of_ble_eq_true rfl) ?_
  intro p e s m below meth cd ls hZ X0 hr hlk hin hK hM hS hA hl Q hQ
  have X : CallFix p m cd b_Wrapping_wrapInto 7 s ([.ref h, .ref t, .ref t2] : List Value).toArray TB R_Wrapping := ⟨X0.1, X0.2.1, X0.2.2.1, X0.2.2.2.1, fun w h => X0.2.2.2.2 w (List.mem_cons_of_mem _ h)⟩
  have hx := X.1; have hb := X.2.1; have hml := X.2.2.1; have hown := X.2.2.2.1; have hts := X.2.2.2.2
  have hl : lv_has ls 7 [(0, .ref h), (1, .ref t), (2, .ref t2)] := hl
  refine lv_aload_n hx hb d_Wrapping_wrapInto_0 rfl (lv_at hl 1 rfl) ?_
  refine hm_calli hS hM hA (va_runS (As := [.ref t]) (rest := []) X (c_signsFor l D k f t a n ht hn s.heap.size) (hm_cwS hts me_Wrapping_signsFor wl_Wrapping_13 rfl rfl ⟨Nat.le_of_ble_eq_true rfl, Nat.le_of_ble_eq_true rfl⟩) (hm_preS hM hK) rfl rfl hl.1 rfl (lv_room (Nat.le_of_ble_eq_true rfl)) d_Wrapping_wrapInto_1 ⟨Nat.le_of_ble_eq_true rfl, Nat.le_of_ble_eq_true rfl⟩) (fun r3 f1 H locs p2 hM hS => ?_)
  obtain ⟨rfl, rfl⟩ := p2
  refine lv_istore_n (lv' := [(3, .int (nI ((n * 8 + 5) / 6))), (0, .ref h), (1, .ref t), (2, .ref t2)]) hx hb d_Wrapping_wrapInto_4 rfl hl (by decide) rfl (fun ls hl => ?_)
  refine lv_aload_n hx hb d_Wrapping_wrapInto_5 rfl (lv_at hl 3 rfl) ?_
  refine hm_callv hS hM hA (va_runV (As := []) (rest := []) X (c_Text_clear l D k f t2 a2 n2 ht2  H.size) (hm_cwV hts me_Text_clear wl_Wrapping_17 rfl rfl ⟨Nat.le_of_ble_eq_true rfl, Nat.le_of_ble_eq_true rfl⟩) (hm_preV hM hK ht2 rfl) rfl rfl hl.1 rfl (lv_room (Nat.le_of_ble_eq_true rfl)) d_Wrapping_wrapInto_6 ⟨Nat.le_of_ble_eq_true rfl, Nat.le_of_ble_eq_true rfl⟩) (fun f4 H locs p5 hM hS => ?_)
  obtain ⟨g6, hfr7⟩ := p5
  refine lv_iconst (v := 0) hx hb d_Wrapping_wrapInto_9 (by decide) ?_
  refine lv_istore (lv' := [(4, .int 0), (3, .int (nI ((n * 8 + 5) / 6))), (0, .ref h), (1, .ref t), (2, .ref t2)]) hx hb d_Wrapping_wrapInto_10 hl (by decide) rfl (fun ls hl => ?_)
  have g8 : f4 h = some (.inr (6, [.int ky])) := hfr7 _ _ (hm_neI hh ht2 (by decide)) hh
  have g9 : f4 t = some (.inr (5, [.ref a, .int (nI n)])) := hfr7 _ _ htt ht
  have g10 : f4 a = some (.inl (k 2, 120, .inl x)) := hfr7 _ _ ((hm_neA ht2 ha).symm) ha
  have g11 : f4 a2 = some (.inl (k 2, 120, .inl y)) := hfr7 _ _ ((hm_neA ht2 ha2).symm) ha2
  have loop12 : ∀ (fu : Nat) (j : Nat) (y1 : Nat → Int32) (fL : hm) (H : Heap) (locs : List Loc) (ls : Array Slot) (hmu : (n * 8 + 5) / 6 - j < fu) (hj : j ≤ (n * 8 + 5) / 6) (hy1 : ∀ i, i < j → y1 i = nI (st_chr 6 (z_six n ch i))) (hh : fL h = some (.inr (6, [.int ky]))) (ht : fL t = some (.inr (5, [.ref a, .int (nI n)]))) (ha : fL a = some (.inl (k 2, 120, .inl x))) (ht2 : fL t2 = some (.inr (5, [.ref a2, .int (nI j)]))) (ha2 : fL a2 = some (.inl (k 2, 120, .inl y1))) (hfr : ∀ (q : Nat) (x : va_E), q ≠ t2 → q ≠ a2 → f q = some x → fL q = some x) (hM : hm_W D vwCl (hm_A f s.heap.size) fL H) (hS : va_S (hm_A f s.heap.size) s.heap H locs) (hl : lv_has ls 7 [(0, .ref h), (1, .ref t), (2, .ref t2), (3, .int (nI ((n * 8 + 5) / 6))), (4, .int (nI j))]), W p l e ({ frames := 5, cells := 0, slots := 0, locals := 107 }) s m ([.ref h, .ref t, .ref t2] : List Value).toArray below meth cd H locs 0 0 Q (F0 m 12 ls []) := by
    intro fu
    induction fu with
    | zero => intro j y1 fL H locs ls hmu; exact absurd hmu (Nat.not_lt_zero _)
    | succ fu ih =>
      intro j y1 fL H locs ls hmu hj hy1 hh ht ha ht2 ha2 hfr hM hS hl
      refine lv_iload hx hb d_Wrapping_wrapInto_12 (lv_at hl 4 rfl) ?_
      refine lv_iload_n hx hb d_Wrapping_wrapInto_14 rfl (lv_at hl 3 rfl) ?_
      refine lv_icmp_ge (tgt := 43) hx hb d_Wrapping_wrapInto_15 (by decide) (fun h12 => ?_) (fun h12 => ?_)
      · have hge : j = (n * 8 + 5) / 6 := by have z := h12; rw [nI_leI (by omega) (by omega)] at z; omega
        subst hge
        refine lv_aload_n hx hb d_Wrapping_wrapInto_43 rfl (lv_at hl 0 rfl) ?_
        refine lv_aload_n hx hb d_Wrapping_wrapInto_44 rfl (lv_at hl 2 rfl) ?_
        refine lv_iload_n hx hb d_Wrapping_wrapInto_45 rfl (lv_at hl 3 rfl) ?_
        refine hm_calll hS hM hA (va_runV (As := [.ref t2, .int (nI ((n * 8 + 5) / 6))]) (rest := []) X (c_sealOf l D k fL h ky t2 a2 ((n * 8 + 5) / 6) y1 ((n * 8 + 5) / 6) hh ht2 ha2 (by omega) (Nat.le_refl _) H.size) (hm_cwV hts me_Wrapping_sealOf wl_Wrapping_38 rfl rfl ⟨Nat.le_of_ble_eq_true rfl, Nat.le_of_ble_eq_true rfl⟩) (hm_preV hM hK hh rfl) rfl rfl hl.1 rfl (lv_room (Nat.le_of_ble_eq_true rfl)) d_Wrapping_wrapInto_46 ⟨Nat.le_of_ble_eq_true rfl, Nat.le_of_ble_eq_true rfl⟩) (fun r15 f13 H locs p14 hM hS => ?_)
        obtain ⟨rfl, rfl⟩ := p14
        refine lv_lstore (lv' := [(4, .long (z_seal ky.toInt64 y1 ((n * 8 + 5) / 6))), (0, .ref h), (1, .ref t), (2, .ref t2), (3, .int (nI ((n * 8 + 5) / 6)))]) hx hb d_Wrapping_wrapInto_49 hl (by decide) rfl (fun ls hl => ?_)
        refine lv_aload_n hx hb d_Wrapping_wrapInto_51 rfl (lv_at hl 3 rfl) ?_
        refine lv_bipush (v := 46) hx hb d_Wrapping_wrapInto_52 (by decide) ?_
        refine hm_calli hS hM hA (va_runV (As := [.int 46]) (rest := []) X (c_Text_add l D k fL t2 a2 ((n * 8 + 5) / 6) y1 46 ht2 ha2 (by omega) (by decide) H.size) (hm_cwV hts me_Text_add wl_Wrapping_34 rfl rfl ⟨Nat.le_of_ble_eq_true rfl, Nat.le_of_ble_eq_true rfl⟩) (hm_preV hM hK ht2 rfl) rfl rfl hl.1 rfl (lv_room (Nat.le_of_ble_eq_true rfl)) d_Wrapping_wrapInto_54 ⟨Nat.le_of_ble_eq_true rfl, Nat.le_of_ble_eq_true rfl⟩) (fun r18 f16 H locs p17 hM hS => ?_)
        obtain ⟨rfl, g19, g20, hfr21⟩ := p17
        refine lv_pop hx hb d_Wrapping_wrapInto_57 rfl ?_
        refine lv_iconst (v := 0) hx hb d_Wrapping_wrapInto_58 (by decide) ?_
        refine lv_istore (lv' := [(6, .int 0), (4, .long (z_seal ky.toInt64 y1 ((n * 8 + 5) / 6))), (0, .ref h), (1, .ref t), (2, .ref t2), (3, .int (nI ((n * 8 + 5) / 6)))]) hx hb d_Wrapping_wrapInto_59 hl (by decide) rfl (fun ls hl => ?_)
        have g22 : f16 h = some (.inr (6, [.int ky])) := hfr21 _ _ (hm_neI hh ht2 (by decide)) (hm_neA hh ha2) hh
        have g23 : f16 t = some (.inr (5, [.ref a, .int (nI n)])) := hfr21 _ _ htt (hm_neA ht ha2) ht
        have g24 : f16 a = some (.inl (k 2, 120, .inl x)) := hfr21 _ _ ((hm_neA ht2 ha).symm) haa ha
        have loop61 : ∀ (fu61 : Nat) (j2 : Nat) (y2 : Nat → Int32) (fL : hm) (H : Heap) (locs : List Loc) (ls : Array Slot) (hmu61 : 10 - j2 < fu61) (hj2 : j2 ≤ 10) (hy2 : ∀ i, i < (n * 8 + 5) / 6 → y2 i = y1 i) (hdot : y2 ((n * 8 + 5) / 6) = 46) (hy3 : ∀ i, i < j2 → y2 ((n * 8 + 5) / 6 + 1 + i) = nI (st_chr 6 (z_ss (z_seal ky.toInt64 y1 ((n * 8 + 5) / 6)) i))) (hh : fL h = some (.inr (6, [.int ky]))) (ht : fL t = some (.inr (5, [.ref a, .int (nI n)]))) (ha : fL a = some (.inl (k 2, 120, .inl x))) (ht2 : fL t2 = some (.inr (5, [.ref a2, .int (nI ((n * 8 + 5) / 6 + 1 + j2))]))) (ha2 : fL a2 = some (.inl (k 2, 120, .inl y2))) (hfr : ∀ (q : Nat) (x : va_E), q ≠ t2 → q ≠ a2 → f q = some x → fL q = some x) (hM : hm_W D vwCl (hm_A f s.heap.size) fL H) (hS : va_S (hm_A f s.heap.size) s.heap H locs) (hl : lv_has ls 7 [(0, .ref h), (1, .ref t), (2, .ref t2), (4, .long (z_seal ky.toInt64 y1 ((n * 8 + 5) / 6))), (6, .int (nI j2))]), W p l e ({ frames := 5, cells := 0, slots := 0, locals := 107 }) s m ([.ref h, .ref t, .ref t2] : List Value).toArray below meth cd H locs 0 0 Q (F0 m 61 ls []) := by
          intro fu61
          induction fu61 with
          | zero => intro j2 y2 fL H locs ls hmu61; exact absurd hmu61 (Nat.not_lt_zero _)
          | succ fu61 ih61 =>
            intro j2 y2 fL H locs ls hmu61 hj2 hy2 hdot hy3 hh ht ha ht2 ha2 hfr hM hS hl
            refine lv_iload hx hb d_Wrapping_wrapInto_61 (lv_at hl 4 rfl) ?_
            refine lv_bipush (v := 10) hx hb d_Wrapping_wrapInto_63 (by decide) ?_
            refine lv_icmp_ge (tgt := 86) hx hb d_Wrapping_wrapInto_65 (by decide) (fun h25 => ?_) (fun h25 => ?_)
            · have hge : j2 = 10 := by have z := h25; have z2 := (nI_leI (a := 10) (b := j2) (by decide) (by omega)).mp z; omega
              subst hge
              have hy4 : ∀ i, i < (n * 8 + 5) / 6 → y2 i = nI (st_chr 6 (z_six n ch i)) := fun i h9 => (hy2 i h9).trans (hy1 i (by omega))
              have hy5 : ∀ i, i < 10 → y2 ((n * 8 + 5) / 6 + 1 + i) = nI (st_chr 6 (z_ss (z_seal ky.toInt64 y2 ((n * 8 + 5) / 6)) i)) := fun i h9 => by rw [z_seal_congr (j := (n * 8 + 5) / 6) (fun i h8 => hy2 i h8)]; exact hy3 i h9
              exact hm_vret X hQ hr hlk hK hM hS d_Wrapping_wrapInto_86 ⟨y2, hy4, hdot, hy5, ht2, ha2, hfr⟩
            · have hlt : j2 < 10 := by have z := h25; have z2 := mt (nI_leI (a := 10) (b := j2) (by decide) (by omega)).mpr z; omega
              refine lv_aload_n hx hb d_Wrapping_wrapInto_68 rfl (lv_at hl 2 rfl) ?_
              refine lv_lload hx hb d_Wrapping_wrapInto_69 (lv_at hl 3 rfl) ?_
              refine lv_iload hx hb d_Wrapping_wrapInto_71 (lv_at hl 4 rfl) ?_
              refine hm_calli hS hM hA (va_runS (As := [.long (z_seal ky.toInt64 y1 ((n * 8 + 5) / 6)), .int (nI j2)]) (rest := [.ref t2]) X (c_sealSign l D k sA sV fL (z_seal ky.toInt64 y1 ((n * 8 + 5) / 6)) j2   H.size) (hm_cwS hts me_Wrapping_sealSign wl_Wrapping_42 rfl rfl ⟨Nat.le_of_ble_eq_true rfl, Nat.le_of_ble_eq_true rfl⟩) (hm_preSZ hZ hS hA hM hK) rfl rfl hl.1 rfl (lv_room (Nat.le_of_ble_eq_true rfl)) d_Wrapping_wrapInto_73 ⟨Nat.le_of_ble_eq_true rfl, Nat.le_of_ble_eq_true rfl⟩) (fun r28 f26 H locs p27 hM hS => ?_)
              obtain ⟨rfl, rfl⟩ := p27
              refine hm_calli hS hM hA (va_runV (As := [.int (nI (st_chr 6 (z_ss (z_seal ky.toInt64 y1 ((n * 8 + 5) / 6)) j2)))]) (rest := []) X (c_Text_add l D k fL t2 a2 ((n * 8 + 5) / 6 + 1 + j2) y2 (nI (st_chr 6 (z_ss (z_seal ky.toInt64 y1 ((n * 8 + 5) / 6)) j2))) ht2 ha2 (by omega) (z_chr (by decide) (z_ss_in _ _)) H.size) (hm_cwV hts me_Text_add wl_Wrapping_34 rfl rfl ⟨Nat.le_of_ble_eq_true rfl, Nat.le_of_ble_eq_true rfl⟩) (hm_preV hM hK ht2 rfl) rfl rfl hl.1 rfl (lv_room (Nat.le_of_ble_eq_true rfl)) d_Wrapping_wrapInto_76 ⟨Nat.le_of_ble_eq_true rfl, Nat.le_of_ble_eq_true rfl⟩) (fun r31 f29 H locs p30 hM hS => ?_)
              obtain ⟨rfl, g32, g33, hfr34⟩ := p30
              refine lv_pop hx hb d_Wrapping_wrapInto_79 rfl ?_
              refine lv_iinc (lv' := [(6, .int (nI (j2 + 1))), (0, .ref h), (1, .ref t), (2, .ref t2), (4, .long (z_seal ky.toInt64 y1 ((n * 8 + 5) / 6)))]) hx hb d_Wrapping_wrapInto_80 hl (k := 4) rfl (hm_inc _) (by decide) rfl (fun ls hl => ?_)
              refine lv_goto (tgt := 61) hx hb d_Wrapping_wrapInto_83 (by decide) ?_
              have g35 : f29 h = some (.inr (6, [.int ky])) := hfr34 _ _ (hm_neI hh ht2 (by decide)) (hm_neA hh ha2) hh
              have g36 : f29 t = some (.inr (5, [.ref a, .int (nI n)])) := hfr34 _ _ htt (hm_neA ht ha2) ht
              have g37 : f29 a = some (.inl (k 2, 120, .inl x)) := hfr34 _ _ ((hm_neA ht2 ha).symm) haa ha
              exact ih61 (j2 + 1) (upd y2 ((n * 8 + 5) / 6 + 1 + j2) (nI (st_chr 6 (z_ss (z_seal ky.toInt64 y1 ((n * 8 + 5) / 6)) j2)))) f29 H locs ls (by omega) (by omega) (fun i h9 => by simp [upd, show i ≠ (n * 8 + 5) / 6 + 1 + j2 by omega]; exact hy2 i h9) (by simp [upd, show (n * 8 + 5) / 6 ≠ (n * 8 + 5) / 6 + 1 + j2 by omega]; exact hdot) (fun i h9 => by by_cases e9 : i = j2 <;> simp [upd, e9]; exact hy3 i (by omega)) g35 g36 g37 g32 g33 (fun zq zx n0 n1 hq => by have t0 := hfr _ _ n0 n1 hq; have t1 := hfr34 _ _ n0 n1 t0; exact t1) hM hS (lv_sub hl [1, 2, 3, 4, 0] rfl)
        exact loop61 _ 0 (upd y1 ((n * 8 + 5) / 6) 46) f16 H locs ls (Nat.lt_succ_self _) (Nat.zero_le _) (fun i h9 => by simp [upd, show i ≠ (n * 8 + 5) / 6 by omega]) (by simp [upd]) (fun i h9 => absurd h9 (Nat.not_lt_zero _)) g22 g23 g24 g19 g20 (fun zq zx n0 n1 hq => by have t0 := hfr _ _ n0 n1 hq; have t1 := hfr21 _ _ n0 n1 t0; exact t1) hM hS (lv_sub hl [2, 3, 4, 1, 0] rfl)
      · have hlt : j < (n * 8 + 5) / 6 := by have z := h12; rw [nI_leI (by omega) (by omega)] at z; omega
        refine lv_aload_n hx hb d_Wrapping_wrapInto_18 rfl (lv_at hl 2 rfl) ?_
        refine va_ldcS hx hb hown (hZ.2.2.1 6 (by decide)) d_Wrapping_wrapInto_19 ?_
        refine lv_aload_n hx hb d_Wrapping_wrapInto_21 rfl (lv_at hl 1 rfl) ?_
        refine lv_bipush (v := 6) hx hb d_Wrapping_wrapInto_22 (by decide) ?_
        refine lv_iload hx hb d_Wrapping_wrapInto_24 (lv_at hl 4 rfl) ?_
        refine lv_imul hx hb d_Wrapping_wrapInto_26 ?_
        refine hm_top (z := nI (6 * j)) (pk_mul 6 j) ?_
        refine hm_calli hS hM hA (va_runS (As := [.ref t, .int (nI (6 * j))]) (rest := [.ref (sA 6), .ref t2]) X (c_sixBits l D k fL t a n x ch j ht ha hn hx9 (by omega) H.size) (hm_cwS hts me_Wrapping_sixBits wl_Wrapping_24 rfl rfl ⟨Nat.le_of_ble_eq_true rfl, Nat.le_of_ble_eq_true rfl⟩) (hm_preS hM hK) rfl rfl hl.1 rfl (lv_room (Nat.le_of_ble_eq_true rfl)) d_Wrapping_wrapInto_27 ⟨Nat.le_of_ble_eq_true rfl, Nat.le_of_ble_eq_true rfl⟩) (fun r15 f13 H locs p14 hM hS => ?_)
        obtain ⟨rfl, rfl⟩ := p14
        refine hm_calli hS hM hA (va_runV (As := [.int (nI (z_six n ch j))]) (rest := [.ref t2]) X (j_charAt l D k sA sV fL 6 (z_six n ch j)  (by decide) (z_six_in n ch j) H.size) (hm_cwV hts me_JString_charAt wl_Wrapping_28 rfl rfl ⟨Nat.le_of_ble_eq_true rfl, Nat.le_of_ble_eq_true rfl⟩) (hm_preVT hZ hS hA hM hK (i := 6) (by decide)) rfl rfl hl.1 rfl (lv_room (Nat.le_of_ble_eq_true rfl)) d_Wrapping_wrapInto_30 ⟨Nat.le_of_ble_eq_true rfl, Nat.le_of_ble_eq_true rfl⟩) (fun r18 f16 H locs p17 hM hS => ?_)
        obtain ⟨rfl, rfl⟩ := p17
        refine hm_calli hS hM hA (va_runV (As := [.int (nI (st_chr 6 (z_six n ch j)))]) (rest := []) X (c_Text_add l D k fL t2 a2 j y1 (nI (st_chr 6 (z_six n ch j))) ht2 ha2 (by omega) (z_chr (by decide) (z_six_in n ch j)) H.size) (hm_cwV hts me_Text_add wl_Wrapping_34 rfl rfl ⟨Nat.le_of_ble_eq_true rfl, Nat.le_of_ble_eq_true rfl⟩) (hm_preV hM hK ht2 rfl) rfl rfl hl.1 rfl (lv_room (Nat.le_of_ble_eq_true rfl)) d_Wrapping_wrapInto_33 ⟨Nat.le_of_ble_eq_true rfl, Nat.le_of_ble_eq_true rfl⟩) (fun r21 f19 H locs p20 hM hS => ?_)
        obtain ⟨rfl, g22, g23, hfr24⟩ := p20
        refine lv_pop hx hb d_Wrapping_wrapInto_36 rfl ?_
        refine lv_iinc (lv' := [(4, .int (nI (j + 1))), (0, .ref h), (1, .ref t), (2, .ref t2), (3, .int (nI ((n * 8 + 5) / 6)))]) hx hb d_Wrapping_wrapInto_37 hl (k := 4) rfl (hm_inc _) (by decide) rfl (fun ls hl => ?_)
        refine lv_goto (tgt := 12) hx hb d_Wrapping_wrapInto_40 (by decide) ?_
        have g25 : f19 h = some (.inr (6, [.int ky])) := hfr24 _ _ (hm_neI hh ht2 (by decide)) (hm_neA hh ha2) hh
        have g26 : f19 t = some (.inr (5, [.ref a, .int (nI n)])) := hfr24 _ _ htt (hm_neA ht ha2) ht
        have g27 : f19 a = some (.inl (k 2, 120, .inl x)) := hfr24 _ _ ((hm_neA ht2 ha).symm) haa ha
        exact ih (j + 1) (upd y1 j (nI (st_chr 6 (z_six n ch j)))) f19 H locs ls (by omega) (by omega) (fun i h9 => by by_cases e9 : i = j <;> simp [upd, e9]; exact hy1 i (by omega)) g25 g26 g27 g22 g23 (fun zq zx n0 n1 hq => by have t0 := hfr _ _ n0 n1 hq; have t1 := hfr24 _ _ n0 n1 t0; exact t1) hM hS (lv_sub hl [1, 2, 3, 4, 0] rfl)
  exact loop12 _ 0 y f4 H locs ls (Nat.lt_succ_self _) (Nat.zero_le _) (fun i h9 => absurd h9 (Nat.not_lt_zero _)) g8 g9 g10 g6 g11 (fun zq zx n0 n1 hq => by have t0 := hq; have t1 := hfr7 _ _ n0 t0; exact t1) hM hS (lv_sub hl [2, 3, 4, 1, 0] rfl)
