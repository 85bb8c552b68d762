theorem d_Text_addText_0 : decode b_Text_addText 0 = .ok (.iconst 0, 1) := by decide +kernel
theorem d_Text_addText_1 : decode b_Text_addText 1 = .ok (.istore_n 2, 1) := by decide +kernel
theorem d_Text_addText_2 : decode b_Text_addText 2 = .ok (.iload_n 2, 1) := by decide +kernel
theorem d_Text_addText_3 : decode b_Text_addText 3 = .ok (.aload_n 1, 1) := by decide +kernel
theorem d_Text_addText_4 : decode b_Text_addText 4 = .ok (.invokevirtual 25, 3) := by decide +kernel
theorem d_Text_addText_7 : decode b_Text_addText 7 = .ok (.if_icmp .ge 19, 3) := by decide +kernel
theorem d_Text_addText_10 : decode b_Text_addText 10 = .ok (.aload_n 0, 1) := by decide +kernel
theorem d_Text_addText_11 : decode b_Text_addText 11 = .ok (.aload_n 1, 1) := by decide +kernel
theorem d_Text_addText_12 : decode b_Text_addText 12 = .ok (.iload_n 2, 1) := by decide +kernel
theorem d_Text_addText_13 : decode b_Text_addText 13 = .ok (.invokevirtual 30, 3) := by decide +kernel
theorem d_Text_addText_16 : decode b_Text_addText 16 = .ok (.invokevirtual 34, 3) := by decide +kernel
theorem d_Text_addText_19 : decode b_Text_addText 19 = .ok (.pop, 1) := by decide +kernel
theorem d_Text_addText_20 : decode b_Text_addText 20 = .ok (.iinc 2 1, 3) := by decide +kernel
theorem d_Text_addText_23 : decode b_Text_addText 23 = .ok (.goto (-21), 3) := by decide +kernel
theorem d_Text_addText_26 : decode b_Text_addText 26 = .ok (.return_, 1) := by decide +kernel
theorem d_Text_addNumber_0 : decode b_Text_addNumber 0 = .ok (.ldc 38, 2) := by decide +kernel
theorem d_Text_addNumber_2 : decode b_Text_addNumber 2 = .ok (.istore_n 2, 1) := by decide +kernel
theorem d_Text_addNumber_3 : decode b_Text_addNumber 3 = .ok (.iload_n 2, 1) := by decide +kernel
theorem d_Text_addNumber_4 : decode b_Text_addNumber 4 = .ok (.ifCond .le 36, 3) := by decide +kernel
theorem d_Text_addNumber_7 : decode b_Text_addNumber 7 = .ok (.iload_n 1, 1) := by decide +kernel
theorem d_Text_addNumber_8 : decode b_Text_addNumber 8 = .ok (.iload_n 2, 1) := by decide +kernel
theorem d_Text_addNumber_9 : decode b_Text_addNumber 9 = .ok (.if_icmp .ge 8, 3) := by decide +kernel
theorem d_Text_addNumber_12 : decode b_Text_addNumber 12 = .ok (.iload_n 2, 1) := by decide +kernel
theorem d_Text_addNumber_13 : decode b_Text_addNumber 13 = .ok (.iconst 1, 1) := by decide +kernel
theorem d_Text_addNumber_14 : decode b_Text_addNumber 14 = .ok (.if_icmp .ne 18, 3) := by decide +kernel
theorem d_Text_addNumber_17 : decode b_Text_addNumber 17 = .ok (.aload_n 0, 1) := by decide +kernel
theorem d_Text_addNumber_18 : decode b_Text_addNumber 18 = .ok (.bipush 48, 2) := by decide +kernel
theorem d_Text_addNumber_20 : decode b_Text_addNumber 20 = .ok (.iload_n 1, 1) := by decide +kernel
theorem d_Text_addNumber_21 : decode b_Text_addNumber 21 = .ok (.iload_n 2, 1) := by decide +kernel
theorem d_Text_addNumber_22 : decode b_Text_addNumber 22 = .ok (.idiv, 1) := by decide +kernel
theorem d_Text_addNumber_23 : decode b_Text_addNumber 23 = .ok (.bipush 10, 2) := by decide +kernel
theorem d_Text_addNumber_25 : decode b_Text_addNumber 25 = .ok (.irem, 1) := by decide +kernel
theorem d_Text_addNumber_26 : decode b_Text_addNumber 26 = .ok (.iadd, 1) := by decide +kernel
theorem d_Text_addNumber_27 : decode b_Text_addNumber 27 = .ok (.i2c, 1) := by decide +kernel
theorem d_Text_addNumber_28 : decode b_Text_addNumber 28 = .ok (.invokevirtual 34, 3) := by decide +kernel
theorem d_Text_addNumber_31 : decode b_Text_addNumber 31 = .ok (.pop, 1) := by decide +kernel
theorem d_Text_addNumber_32 : decode b_Text_addNumber 32 = .ok (.iload_n 2, 1) := by decide +kernel
theorem d_Text_addNumber_33 : decode b_Text_addNumber 33 = .ok (.bipush 10, 2) := by decide +kernel
theorem d_Text_addNumber_35 : decode b_Text_addNumber 35 = .ok (.idiv, 1) := by decide +kernel
theorem d_Text_addNumber_36 : decode b_Text_addNumber 36 = .ok (.istore_n 2, 1) := by decide +kernel
theorem d_Text_addNumber_37 : decode b_Text_addNumber 37 = .ok (.goto (-34), 3) := by decide +kernel
theorem d_Text_addNumber_40 : decode b_Text_addNumber 40 = .ok (.return_, 1) := by decide +kernel
theorem d_Wrapping_hasSeal_0 : decode b_Wrapping_hasSeal 0 = .ok (.aload_n 1, 1) := by decide +kernel
theorem d_Wrapping_hasSeal_1 : decode b_Wrapping_hasSeal 1 = .ok (.invokevirtual 46, 3) := by decide +kernel
theorem d_Wrapping_hasSeal_4 : decode b_Wrapping_hasSeal 4 = .ok (.bipush 11, 2) := by decide +kernel
theorem d_Wrapping_hasSeal_6 : decode b_Wrapping_hasSeal 6 = .ok (.isub, 1) := by decide +kernel
theorem d_Wrapping_hasSeal_7 : decode b_Wrapping_hasSeal 7 = .ok (.istore_n 2, 1) := by decide +kernel
theorem d_Wrapping_hasSeal_8 : decode b_Wrapping_hasSeal 8 = .ok (.aload_n 0, 1) := by decide +kernel
theorem d_Wrapping_hasSeal_9 : decode b_Wrapping_hasSeal 9 = .ok (.aload_n 1, 1) := by decide +kernel
theorem d_Wrapping_hasSeal_10 : decode b_Wrapping_hasSeal 10 = .ok (.iload_n 2, 1) := by decide +kernel
theorem d_Wrapping_hasSeal_11 : decode b_Wrapping_hasSeal 11 = .ok (.invokevirtual 38, 3) := by decide +kernel
theorem d_Wrapping_hasSeal_14 : decode b_Wrapping_hasSeal 14 = .ok (.lstore_n 3, 1) := by decide +kernel
theorem d_Wrapping_hasSeal_15 : decode b_Wrapping_hasSeal 15 = .ok (.iconst 0, 1) := by decide +kernel
theorem d_Wrapping_hasSeal_16 : decode b_Wrapping_hasSeal 16 = .ok (.istore 5, 2) := by decide +kernel
theorem d_Wrapping_hasSeal_18 : decode b_Wrapping_hasSeal 18 = .ok (.iload 5, 2) := by decide +kernel
theorem d_Wrapping_hasSeal_20 : decode b_Wrapping_hasSeal 20 = .ok (.bipush 10, 2) := by decide +kernel
theorem d_Wrapping_hasSeal_22 : decode b_Wrapping_hasSeal 22 = .ok (.if_icmp .ge 30, 3) := by decide +kernel
theorem d_Wrapping_hasSeal_25 : decode b_Wrapping_hasSeal 25 = .ok (.aload_n 1, 1) := by decide +kernel
theorem d_Wrapping_hasSeal_26 : decode b_Wrapping_hasSeal 26 = .ok (.iload_n 2, 1) := by decide +kernel
theorem d_Wrapping_hasSeal_27 : decode b_Wrapping_hasSeal 27 = .ok (.iconst 1, 1) := by decide +kernel
theorem d_Wrapping_hasSeal_28 : decode b_Wrapping_hasSeal 28 = .ok (.iadd, 1) := by decide +kernel
theorem d_Wrapping_hasSeal_29 : decode b_Wrapping_hasSeal 29 = .ok (.iload 5, 2) := by decide +kernel
theorem d_Wrapping_hasSeal_31 : decode b_Wrapping_hasSeal 31 = .ok (.iadd, 1) := by decide +kernel
theorem d_Wrapping_hasSeal_32 : decode b_Wrapping_hasSeal 32 = .ok (.invokevirtual 50, 3) := by decide +kernel
theorem d_Wrapping_hasSeal_35 : decode b_Wrapping_hasSeal 35 = .ok (.lload_n 3, 1) := by decide +kernel
theorem d_Wrapping_hasSeal_36 : decode b_Wrapping_hasSeal 36 = .ok (.iload 5, 2) := by decide +kernel
theorem d_Wrapping_hasSeal_38 : decode b_Wrapping_hasSeal 38 = .ok (.invokestatic 42, 3) := by decide +kernel
theorem d_Wrapping_hasSeal_41 : decode b_Wrapping_hasSeal 41 = .ok (.if_icmp .eq 5, 3) := by decide +kernel
theorem d_Wrapping_hasSeal_44 : decode b_Wrapping_hasSeal 44 = .ok (.iconst 0, 1) := by decide +kernel
theorem d_Wrapping_hasSeal_45 : decode b_Wrapping_hasSeal 45 = .ok (.ireturn, 1) := by decide +kernel
theorem d_Wrapping_hasSeal_46 : decode b_Wrapping_hasSeal 46 = .ok (.iinc 5 1, 3) := by decide +kernel
theorem d_Wrapping_hasSeal_49 : decode b_Wrapping_hasSeal 49 = .ok (.goto (-31), 3) := by decide +kernel
theorem d_Wrapping_hasSeal_52 : decode b_Wrapping_hasSeal 52 = .ok (.iconst 1, 1) := by decide +kernel
theorem d_Wrapping_hasSeal_53 : decode b_Wrapping_hasSeal 53 = .ok (.ireturn, 1) := by decide +kernel
theorem d_Wrapping_unwrapInto_0 : decode b_Wrapping_unwrapInto 0 = .ok (.aload_n 1, 1) := by decide +kernel
theorem d_Wrapping_unwrapInto_1 : decode b_Wrapping_unwrapInto 1 = .ok (.invokevirtual 46, 3) := by decide +kernel
theorem d_Wrapping_unwrapInto_4 : decode b_Wrapping_unwrapInto 4 = .ok (.bipush 11, 2) := by decide +kernel
theorem d_Wrapping_unwrapInto_6 : decode b_Wrapping_unwrapInto 6 = .ok (.isub, 1) := by decide +kernel
theorem d_Wrapping_unwrapInto_7 : decode b_Wrapping_unwrapInto 7 = .ok (.bipush 6, 2) := by decide +kernel
theorem d_Wrapping_unwrapInto_9 : decode b_Wrapping_unwrapInto 9 = .ok (.imul, 1) := by decide +kernel
theorem d_Wrapping_unwrapInto_10 : decode b_Wrapping_unwrapInto 10 = .ok (.bipush 8, 2) := by decide +kernel
theorem d_Wrapping_unwrapInto_12 : decode b_Wrapping_unwrapInto 12 = .ok (.idiv, 1) := by decide +kernel
theorem d_Wrapping_unwrapInto_13 : decode b_Wrapping_unwrapInto 13 = .ok (.istore_n 3, 1) := by decide +kernel
theorem d_Wrapping_unwrapInto_14 : decode b_Wrapping_unwrapInto 14 = .ok (.aload_n 2, 1) := by decide +kernel
theorem d_Wrapping_unwrapInto_15 : decode b_Wrapping_unwrapInto 15 = .ok (.invokevirtual 17, 3) := by decide +kernel
theorem d_Wrapping_unwrapInto_18 : decode b_Wrapping_unwrapInto 18 = .ok (.iconst 0, 1) := by decide +kernel
theorem d_Wrapping_unwrapInto_19 : decode b_Wrapping_unwrapInto 19 = .ok (.istore 4, 2) := by decide +kernel
theorem d_Wrapping_unwrapInto_21 : decode b_Wrapping_unwrapInto 21 = .ok (.iload 4, 2) := by decide +kernel
theorem d_Wrapping_unwrapInto_23 : decode b_Wrapping_unwrapInto 23 = .ok (.iload_n 3, 1) := by decide +kernel
theorem d_Wrapping_unwrapInto_24 : decode b_Wrapping_unwrapInto 24 = .ok (.if_icmp .ge 24, 3) := by decide +kernel
theorem d_Wrapping_unwrapInto_27 : decode b_Wrapping_unwrapInto 27 = .ok (.aload_n 2, 1) := by decide +kernel
theorem d_Wrapping_unwrapInto_28 : decode b_Wrapping_unwrapInto 28 = .ok (.aload_n 1, 1) := by decide +kernel
theorem d_Wrapping_unwrapInto_29 : decode b_Wrapping_unwrapInto 29 = .ok (.bipush 8, 2) := by decide +kernel
theorem d_Wrapping_unwrapInto_31 : decode b_Wrapping_unwrapInto 31 = .ok (.iload 4, 2) := by decide +kernel
theorem d_Wrapping_unwrapInto_33 : decode b_Wrapping_unwrapInto 33 = .ok (.imul, 1) := by decide +kernel
theorem d_Wrapping_unwrapInto_34 : decode b_Wrapping_unwrapInto 34 = .ok (.invokestatic 57, 3) := by decide +kernel
theorem d_Wrapping_unwrapInto_37 : decode b_Wrapping_unwrapInto 37 = .ok (.i2c, 1) := by decide +kernel
theorem d_Wrapping_unwrapInto_38 : decode b_Wrapping_unwrapInto 38 = .ok (.invokevirtual 34, 3) := by decide +kernel
theorem d_Wrapping_unwrapInto_41 : decode b_Wrapping_unwrapInto 41 = .ok (.pop, 1) := by decide +kernel
theorem d_Wrapping_unwrapInto_42 : decode b_Wrapping_unwrapInto 42 = .ok (.iinc 4 1, 3) := by decide +kernel
theorem d_Wrapping_unwrapInto_45 : decode b_Wrapping_unwrapInto 45 = .ok (.goto (-24), 3) := by decide +kernel
theorem d_Wrapping_unwrapInto_48 : decode b_Wrapping_unwrapInto 48 = .ok (.return_, 1) := by decide +kernel
theorem d_Wrapping_eightBits_0 : decode b_Wrapping_eightBits 0 = .ok (.aload_n 0, 1) := by decide +kernel
theorem d_Wrapping_eightBits_1 : decode b_Wrapping_eightBits 1 = .ok (.iload_n 1, 1) := by decide +kernel
theorem d_Wrapping_eightBits_2 : decode b_Wrapping_eightBits 2 = .ok (.bipush 6, 2) := by decide +kernel
theorem d_Wrapping_eightBits_4 : decode b_Wrapping_eightBits 4 = .ok (.idiv, 1) := by decide +kernel
theorem d_Wrapping_eightBits_5 : decode b_Wrapping_eightBits 5 = .ok (.invokestatic 54, 3) := by decide +kernel
theorem d_Wrapping_eightBits_8 : decode b_Wrapping_eightBits 8 = .ok (.istore_n 2, 1) := by decide +kernel
theorem d_Wrapping_eightBits_9 : decode b_Wrapping_eightBits 9 = .ok (.aload_n 0, 1) := by decide +kernel
theorem d_Wrapping_eightBits_10 : decode b_Wrapping_eightBits 10 = .ok (.iload_n 1, 1) := by decide +kernel
theorem d_Wrapping_eightBits_11 : decode b_Wrapping_eightBits 11 = .ok (.bipush 6, 2) := by decide +kernel
theorem d_Wrapping_eightBits_13 : decode b_Wrapping_eightBits 13 = .ok (.idiv, 1) := by decide +kernel
theorem d_Wrapping_eightBits_14 : decode b_Wrapping_eightBits 14 = .ok (.iconst 1, 1) := by decide +kernel
theorem d_Wrapping_eightBits_15 : decode b_Wrapping_eightBits 15 = .ok (.iadd, 1) := by decide +kernel
theorem d_Wrapping_eightBits_16 : decode b_Wrapping_eightBits 16 = .ok (.invokestatic 54, 3) := by decide +kernel
theorem d_Wrapping_eightBits_19 : decode b_Wrapping_eightBits 19 = .ok (.istore_n 3, 1) := by decide +kernel
theorem d_Wrapping_eightBits_20 : decode b_Wrapping_eightBits 20 = .ok (.iload_n 2, 1) := by decide +kernel
theorem d_Wrapping_eightBits_21 : decode b_Wrapping_eightBits 21 = .ok (.bipush 6, 2) := by decide +kernel
theorem d_Wrapping_eightBits_23 : decode b_Wrapping_eightBits 23 = .ok (.ishl, 1) := by decide +kernel
theorem d_Wrapping_eightBits_24 : decode b_Wrapping_eightBits 24 = .ok (.iload_n 3, 1) := by decide +kernel
theorem d_Wrapping_eightBits_25 : decode b_Wrapping_eightBits 25 = .ok (.ior, 1) := by decide +kernel
theorem d_Wrapping_eightBits_26 : decode b_Wrapping_eightBits 26 = .ok (.iconst 4, 1) := by decide +kernel
theorem d_Wrapping_eightBits_27 : decode b_Wrapping_eightBits 27 = .ok (.iload_n 1, 1) := by decide +kernel
theorem d_Wrapping_eightBits_28 : decode b_Wrapping_eightBits 28 = .ok (.bipush 6, 2) := by decide +kernel
theorem d_Wrapping_eightBits_30 : decode b_Wrapping_eightBits 30 = .ok (.irem, 1) := by decide +kernel
theorem d_Wrapping_eightBits_31 : decode b_Wrapping_eightBits 31 = .ok (.isub, 1) := by decide +kernel
theorem d_Wrapping_eightBits_32 : decode b_Wrapping_eightBits 32 = .ok (.ishr, 1) := by decide +kernel
theorem d_Wrapping_eightBits_33 : decode b_Wrapping_eightBits 33 = .ok (.sipush 255, 3) := by decide +kernel
theorem d_Wrapping_eightBits_36 : decode b_Wrapping_eightBits 36 = .ok (.iand, 1) := by decide +kernel
theorem d_Wrapping_eightBits_37 : decode b_Wrapping_eightBits 37 = .ok (.ireturn, 1) := by decide +kernel
theorem d_Wrapping_signValue_0 : decode b_Wrapping_signValue 0 = .ok (.ldc 22, 2) := by decide +kernel
theorem d_Wrapping_signValue_2 : decode b_Wrapping_signValue 2 = .ok (.aload_n 0, 1) := by decide +kernel
theorem d_Wrapping_signValue_3 : decode b_Wrapping_signValue 3 = .ok (.iload_n 1, 1) := by decide +kernel
theorem d_Wrapping_signValue_4 : decode b_Wrapping_signValue 4 = .ok (.invokevirtual 50, 3) := by decide +kernel
theorem d_Wrapping_signValue_7 : decode b_Wrapping_signValue 7 = .ok (.i2c, 1) := by decide +kernel
theorem d_Wrapping_signValue_8 : decode b_Wrapping_signValue 8 = .ok (.invokevirtual 66, 3) := by decide +kernel
theorem d_Wrapping_signValue_11 : decode b_Wrapping_signValue 11 = .ok (.ireturn, 1) := by decide +kernel
set_option maxRecDepth 20000 in
theorem me_JString_indexOf : hm_meV y_JString_indexOf b_JString_indexOf 2 (some .int) 1 := ⟨⟨(TBm 493 rfl rfl), (TBm 50 (by decide +kernel) rfl), by decide +kernel⟩, (TBm 491 (by decide +kernel) rfl), (TBm 492 (by decide +kernel) rfl)⟩
set_option maxRecDepth 20000 in
theorem me_Wrapping_eightBits : hm_meS y_Wrapping_eightBits b_Wrapping_eightBits 4 (some .int) 2 := ⟨⟨(TBm 555 rfl rfl), (TBm 45 (by decide +kernel) rfl), by decide +kernel⟩, (TBm 554 (by decide +kernel) rfl)⟩
set_option maxRecDepth 20000 in
theorem me_Wrapping_signValue : hm_meS y_Wrapping_signValue b_Wrapping_signValue 2 (some .int) 2 := ⟨⟨(TBm 489 rfl rfl), (TBm 45 (by decide +kernel) rfl), by decide +kernel⟩, (TBm 488 (by decide +kernel) rfl)⟩
set_option maxRecDepth 20000 in
theorem wc_Text_38 : Cond.constant R_Text 38 1000000000 ∈ TB := TBm 406 (by decide +kernel) rfl
set_option maxRecDepth 20000 in
theorem wl_Text_25 : Cond.methodLink R_Text 25 y_JString_length ∈ TB := TBm 350 (by decide +kernel) rfl
set_option maxRecDepth 20000 in
theorem wl_Text_30 : Cond.methodLink R_Text 30 y_JString_charAt ∈ TB := TBm 360 (by decide +kernel) rfl
set_option maxRecDepth 20000 in
theorem wl_Text_34 : Cond.methodLink R_Text 34 y_Text_add ∈ TB := TBm 398 (by decide +kernel) rfl
set_option maxRecDepth 20000 in
theorem wl_Wrapping_54 : Cond.methodLink R_Wrapping 54 y_Wrapping_signValue ∈ TB := TBm 487 (by decide +kernel) rfl
set_option maxRecDepth 20000 in
theorem wl_Wrapping_57 : Cond.methodLink R_Wrapping 57 y_Wrapping_eightBits ∈ TB := TBm 553 (by decide +kernel) rfl
set_option maxRecDepth 20000 in
theorem wl_Wrapping_66 : Cond.methodLink R_Wrapping 66 y_JString_indexOf ∈ TB := TBm 490 (by decide +kernel) rfl
set_option maxHeartbeats 4000000 in
set_option maxRecDepth 100000 in
theorem c_addText (l : Launch) (D : va_G) (k : Nat → ClassId) (sA sV : Nat → Nat) (f : hm) (t : Nat) (a : Nat) (n : Nat) (x : Nat → Int32) (i : Nat) (ht : f t = some (.inr (5, [.ref a, .int (nI n)]))) (ha : f a = some (.inl (k 2, 120, .inl x))) (hi : i < 12) (hn : n + st_len.getD i 0 ≤ 120) : hm_MvZ l sA sV D vwCl (tyL k) y_Text_addText (Cond.code y_Text_addText b_Text_addText 3 none :: TB) ({ frames := 4, cells := 0, slots := 0, locals := 85 }) [.ref t, .ref (sA i)] f (fun (f1 : hm) => ∃ (y : Nat → Int32), (∀ e, e < n → y e = x e) ∧ (∀ e, e < st_len.getD i 0 → y (n + e) = nI (st_chr i e)) ∧ f1 t = some (.inr (5, [.ref a, .int (nI (n + st_len.getD i 0))])) ∧ f1 a = some (.inl (k 2, 120, .inl y)) ∧ ∀ (zq : Nat) (zx : va_E), zq ≠ t → zq ≠ a → f zq = some zx → f1 zq = some zx) 0 0 := by
  refine hm_enterZ (Qc := fun sz => va_Qv _ (hm_R D vwCl (tyL k) f sz) (hm_A f sz)) (by decide) rfl (Nat.le_of_ble_eq_true rfl) ?_
  intro p e s m below meth cd ls hZ X0 hr hlk hin hK hM hS hA hl Q hQ
  have X : CallFix p m cd b_Text_addText 3 s ([.ref t, .ref (sA i)] : List Value).toArray TB R_Text := ⟨X0.1, X0.2.1, X0.2.2.1, X0.2.2.2.1, fun w h => X0.2.2.2.2 w (List.mem_cons_of_mem _ h)⟩
  have hx := X.1; have hb := X.2.1; have hml := X.2.2.1; have hown := X.2.2.2.1; have hts := X.2.2.2.2
  have hl : lv_has ls 3 [(0, .ref t), (1, .ref (sA i))] := hl
  have hln := st_ln i hi
  refine lv_iconst (v := 0) hx hb d_Text_addText_0 (by decide) ?_
  refine lv_istore_n (lv' := [(2, .int 0), (0, .ref t), (1, .ref (sA i))]) hx hb d_Text_addText_1 rfl hl (by decide) rfl (fun ls hl => ?_)
  have loop2 : ∀ (fu : Nat) (j : Nat) (y : Nat → Int32) (fL : hm) (H : Heap) (locs : List Loc) (ls : Array Slot) (hmu : st_len.getD i 0 - j < fu) (hj : j ≤ st_len.getD i 0) (hy1 : ∀ e, e < n → y e = x e) (hy2 : ∀ e, e < j → y (n + e) = nI (st_chr i e)) (ht : fL t = some (.inr (5, [.ref a, .int (nI (n + j))]))) (ha : fL a = some (.inl (k 2, 120, .inl y))) (hfr : ∀ (q : Nat) (x : va_E), q ≠ t → q ≠ a → f q = some x → fL q = some x) (hM : hm_W D vwCl (hm_A f s.heap.size) fL H) (hS : va_S (hm_A f s.heap.size) s.heap H locs) (hl : lv_has ls 3 [(0, .ref t), (1, .ref (sA i)), (2, .int (nI j))]), W p l e ({ frames := 4, cells := 0, slots := 0, locals := 85 }) s m ([.ref t, .ref (sA i)] : List Value).toArray below meth cd H locs 0 0 Q (F0 m 2 ls []) := by
    intro fu
    induction fu with
    | zero => intro j y fL H locs ls hmu; exact absurd hmu (Nat.not_lt_zero _)
    | succ fu ih =>
      intro j y fL H locs ls hmu hj hy1 hy2 ht ha hfr hM hS hl
      refine lv_iload_n hx hb d_Text_addText_2 rfl (lv_at hl 2 rfl) ?_
      refine lv_aload_n hx hb d_Text_addText_3 rfl (lv_at hl 1 rfl) ?_
      refine hm_calli hS hM hA (va_runV (As := []) (rest := [.int (nI j)]) X (j_length l D k sA sV fL i  hi H.size) (hm_cwV hts me_JString_length wl_Text_25 rfl rfl ⟨Nat.le_of_ble_eq_true rfl, Nat.le_of_ble_eq_true rfl⟩) (hm_preVT hZ hS hA hM hK (i := i) hi) rfl rfl hl.1 rfl (lv_room (Nat.le_of_ble_eq_true rfl)) d_Text_addText_4 ⟨Nat.le_of_ble_eq_true rfl, Nat.le_of_ble_eq_true rfl⟩) (fun r3 f1 H locs p2 hM hS => ?_)
      obtain ⟨rfl, rfl⟩ := p2
      refine lv_icmp_ge (tgt := 26) hx hb d_Text_addText_7 (by decide) (fun h4 => ?_) (fun h4 => ?_)
      · have hge : j = st_len.getD i 0 := by have z := (nI_leI (a := st_len.getD i 0) (b := j) (by omega) (by omega)).mp h4; omega
        exact hm_vret X hQ hr hlk hK hM hS d_Text_addText_26 ⟨y, hy1, fun e h9 => hy2 e (by omega), hge ▸ ht, ha, hfr⟩
      · have hlt : j < st_len.getD i 0 := by have z := mt (nI_leI (a := st_len.getD i 0) (b := j) (by omega) (by omega)).mpr h4; omega
        refine lv_aload_n hx hb d_Text_addText_10 rfl (lv_at hl 0 rfl) ?_
        refine lv_aload_n hx hb d_Text_addText_11 rfl (lv_at hl 1 rfl) ?_
        refine lv_iload_n hx hb d_Text_addText_12 rfl (lv_at hl 2 rfl) ?_
        refine hm_calli hS hM hA (va_runV (As := [.int (nI j)]) (rest := [.ref t]) X (j_charAt l D k sA sV fL i j  hi hlt H.size) (hm_cwV hts me_JString_charAt wl_Text_30 rfl rfl ⟨Nat.le_of_ble_eq_true rfl, Nat.le_of_ble_eq_true rfl⟩) (hm_preVT hZ hS hA hM hK (i := i) hi) rfl rfl hl.1 rfl (lv_room (Nat.le_of_ble_eq_true rfl)) d_Text_addText_13 ⟨Nat.le_of_ble_eq_true rfl, Nat.le_of_ble_eq_true rfl⟩) (fun r7 f5 H locs p6 hM hS => ?_)
        obtain ⟨rfl, rfl⟩ := p6
        refine hm_calli hS hM hA (va_runV (As := [.int (nI (st_chr i j))]) (rest := []) X (c_Text_add l D k fL t a (n + j) y (nI (st_chr i j)) ht ha (by omega) (z_chr hi hlt) H.size) (hm_cwV hts me_Text_add wl_Text_34 rfl rfl ⟨Nat.le_of_ble_eq_true rfl, Nat.le_of_ble_eq_true rfl⟩) (hm_preV hM hK ht rfl) rfl rfl hl.1 rfl (lv_room (Nat.le_of_ble_eq_true rfl)) d_Text_addText_16 ⟨Nat.le_of_ble_eq_true rfl, Nat.le_of_ble_eq_true rfl⟩) (fun r10 f8 H locs p9 hM hS => ?_)
        obtain ⟨rfl, g11, g12, hfr13⟩ := p9
        refine lv_pop hx hb d_Text_addText_19 rfl ?_
        refine lv_iinc (lv' := [(2, .int (nI (j + 1))), (0, .ref t), (1, .ref (sA i))]) hx hb d_Text_addText_20 hl (k := 2) rfl (hm_inc _) (by decide) rfl (fun ls hl => ?_)
        refine lv_goto (tgt := 2) hx hb d_Text_addText_23 (by decide) ?_
        exact ih (j + 1) (upd y (n + j) (nI (st_chr i j))) f8 H locs ls (by omega) (by omega) (fun e h9 => by simp [upd, show e ≠ n + j by omega]; exact hy1 e h9) (fun e h9 => by by_cases e9 : e = j <;> simp [upd, e9]; exact hy2 e (by omega)) g11 g12 (fun zq zx n0 n1 hq => by have t0 := hfr _ _ n0 n1 hq; have t1 := hfr13 _ _ n0 n1 t0; exact t1) hM hS (lv_sub hl [1, 2, 0] rfl)
  exact loop2 _ 0 x f s.heap [] ls (Nat.lt_succ_self _) (Nat.zero_le _) (fun e h9 => rfl) (fun e h9 => absurd h9 (Nat.not_lt_zero _)) ht ha (fun q x n0 n1 hq => hq) hM hS (lv_sub hl [1, 2, 0] rfl)
set_option maxHeartbeats 4000000 in
set_option maxRecDepth 100000 in
theorem c_addNumber (l : Launch) (D : va_G) (k : Nat → ClassId) (f : hm) (t : Nat) (a : Nat) (n : Nat) (x : Nat → Int32) (v : Nat) (K : Nat) (ht : f t = some (.inr (5, [.ref a, .int (nI n)]))) (ha : f a = some (.inl (k 2, 120, .inl x))) (hdg : z_dg v K) (hv : v < 2 ^ 31) (hn : n + (K + 1) ≤ 120) : hm_Mv l D vwCl (tyL k) y_Text_addNumber (Cond.code y_Text_addNumber b_Text_addNumber 3 none :: TB) ({ frames := 1, cells := 0, slots := 0, locals := 21 }) [.ref t, .int (nI v)] f (fun (f1 : hm) => ∃ (y : Nat → Int32), (∀ e, e < n → y e = x e) ∧ (∀ e, e < K + 1 → y (n + e) = nI (z_d v K e)) ∧ f1 t = some (.inr (5, [.ref a, .int (nI (n + (K + 1)))])) ∧ f1 a = some (.inl (k 2, 120, .inl y)) ∧ ∀ (zq : Nat) (zx : va_E), zq ≠ t → zq ≠ a → f zq = some zx → f1 zq = some zx) 0 0 := by
  refine hm_enter (Qc := fun sz => va_Qv _ (hm_R D vwCl (tyL k) f sz) (hm_A f sz)) (by decide) rfl (Nat.le_of_ble_eq_true rfl) ?_
  intro p e s m below meth cd ls X0 hr hlk hin hK hM hS hA hl Q hQ
  have X : CallFix p m cd b_Text_addNumber 3 s ([.ref t, .int (nI v)] : List Value).toArray TB R_Text := ⟨X0.1, X0.2.1, X0.2.2.1, X0.2.2.2.1, fun w h => X0.2.2.2.2 w (List.mem_cons_of_mem _ h)⟩
  have hx := X.1; have hb := X.2.1; have hml := X.2.2.1; have hown := X.2.2.2.1; have hts := X.2.2.2.2
  have hl : lv_has ls 3 [(0, .ref t), (1, .int (nI v))] := hl
  have hK8 := hdg.2.2
  refine lv_ldc (v := 1000000000) hx hb hown (hts _ wc_Text_38) d_Text_addNumber_0 ?_
  refine lv_istore_n (lv' := [(2, .int 1000000000), (0, .ref t), (1, .int (nI v))]) hx hb d_Text_addNumber_2 rfl hl (by decide) rfl (fun ls hl => ?_)
  have loop3 : ∀ (fu : Nat) (e9 : Nat) (y : Nat → Int32) (fL : hm) (H : Heap) (locs : List Loc) (ls : Array Slot) (hmu : 10 - e9 < fu) (he : e9 ≤ 10) (hy1 : ∀ e, e < n → y e = x e) (hy2 : ∀ e, e < e9 + K - 9 → y (n + e) = nI (z_d v K e)) (ht : fL t = some (.inr (5, [.ref a, .int (nI (n + (e9 + K - 9)))]))) (ha : fL a = some (.inl (k 2, 120, .inl y))) (hfr : ∀ (q : Nat) (x : va_E), q ≠ t → q ≠ a → f q = some x → fL q = some x) (hM : hm_W D vwCl (hm_A f s.heap.size) fL H) (hS : va_S (hm_A f s.heap.size) s.heap H locs) (hl : lv_has ls 3 [(0, .ref t), (1, .int (nI v)), (2, .int (nI (z_un e9)))]), W p l e ({ frames := 1, cells := 0, slots := 0, locals := 21 }) s m ([.ref t, .int (nI v)] : List Value).toArray below meth cd H locs 0 0 Q (F0 m 3 ls []) := by
    intro fu
    induction fu with
    | zero => intro e9 y fL H locs ls hmu; exact absurd hmu (Nat.not_lt_zero _)
    | succ fu ih =>
      intro e9 y fL H locs ls hmu he hy1 hy2 ht ha hfr hM hS hl
      refine lv_iload_n hx hb d_Text_addNumber_3 rfl (lv_at hl 2 rfl) ?_
      refine lv_if_le (tgt := 40) hx hb d_Text_addNumber_4 (by decide) (fun h1 => ?_) (fun h1 => ?_)
      · have hge : e9 = 10 := by have z := (z_un_b e9 (by omega)); have z1 := (nI_leI (b := 0) z.1 (by decide)).mp h1; have z2 := mt z.2.mpr (by omega); omega
        subst hge
        exact hm_vret X hQ hr hlk hK hM hS d_Text_addNumber_40 ⟨y, hy1, fun e h9 => hy2 e (by omega), (show 10 + K - 9 = K + 1 by omega) ▸ ht, ha, hfr⟩
      · have hlt : e9 < 10 := by have z := (z_un_b e9 (by omega)); have z1 := mt (nI_leI (b := 0) z.1 (by decide)).mpr h1; exact z.2.mp (by omega)
        refine lv_iload_n hx hb d_Text_addNumber_7 rfl (lv_at hl 1 rfl) ?_
        refine lv_iload_n hx hb d_Text_addNumber_8 rfl (lv_at hl 2 rfl) ?_
        refine lv_icmp_ge (tgt := 17) hx hb d_Text_addNumber_9 (by decide) (fun h2 => ?_) (fun h2 => ?_)
        · have hge : 9 ≤ e9 + K := (z_dg_ge hdg hlt).mp (Or.inl ((nI_leI (z_un_b e9 (by omega)).1 hv).mp h2))
          refine lv_aload_n hx hb d_Text_addNumber_17 rfl (lv_at hl 0 rfl) ?_
          refine lv_bipush (v := 48) hx hb d_Text_addNumber_18 (by decide) ?_
          refine lv_iload_n hx hb d_Text_addNumber_20 rfl (lv_at hl 1 rfl) ?_
          refine lv_iload_n hx hb d_Text_addNumber_21 rfl (lv_at hl 2 rfl) ?_
          refine lv_idiv hx hb d_Text_addNumber_22 (nI_ne0 ((z_un_b e9 (by omega)).2.mpr hlt) (z_un_b e9 (by omega)).1) ?_
          refine lv_bipush (v := 10) hx hb d_Text_addNumber_23 (by decide) ?_
          refine lv_irem hx hb d_Text_addNumber_25 (by decide) ?_
          refine lv_iadd hx hb d_Text_addNumber_26 ?_
          refine hm_top (z := nI (z_d v K (e9 + K - 9))) (z_d_eq hv hlt hge) ?_
          refine lv_i2c hx hb d_Text_addNumber_27 rfl ?_
          refine hm_top (z := nI (z_d v K (e9 + K - 9))) (z_c16 (by have := z_d_lt v K (e9 + K - 9); omega)) ?_
          refine hm_calli hS hM hA (va_runV (As := [.int (nI (z_d v K (e9 + K - 9)))]) (rest := []) X (c_Text_add l D k fL t a (n + (e9 + K - 9)) y (nI (z_d v K (e9 + K - 9))) ht ha (by omega) (z_nar (by have := z_d_lt v K (e9 + K - 9); omega)) H.size) (hm_cwV hts me_Text_add wl_Text_34 rfl rfl ⟨Nat.le_of_ble_eq_true rfl, Nat.le_of_ble_eq_true rfl⟩) (hm_preV hM hK ht rfl) rfl rfl hl.1 rfl (lv_room (Nat.le_of_ble_eq_true rfl)) d_Text_addNumber_28 ⟨Nat.le_of_ble_eq_true rfl, Nat.le_of_ble_eq_true rfl⟩) (fun r5 f3 H locs p4 hM hS => ?_)
          obtain ⟨rfl, g6, g7, hfr8⟩ := p4
          refine lv_pop hx hb d_Text_addNumber_31 rfl ?_
          refine lv_iload_n hx hb d_Text_addNumber_32 rfl (lv_at hl 2 rfl) ?_
          refine lv_bipush (v := 10) hx hb d_Text_addNumber_33 (by decide) ?_
          refine lv_idiv hx hb d_Text_addNumber_35 (by decide) ?_
          refine hm_top (z := nI (z_un (e9 + 1))) (z_un_10 e9 hlt) ?_
          refine lv_istore_n (lv' := [(2, .int (nI (z_un (e9 + 1)))), (0, .ref t), (1, .int (nI v))]) hx hb d_Text_addNumber_36 rfl hl (by decide) rfl (fun ls hl => ?_)
          have g9 : f3 t = some (.inr (5, [.ref a, .int (nI (n + (e9 + 1 + K - 9)))])) := by rw [show n + (e9 + 1 + K - 9) = n + (e9 + K - 9) + 1 by omega]; exact g6
          refine lv_goto (tgt := 3) hx hb d_Text_addNumber_37 (by decide) ?_
          exact ih (e9 + 1) (upd y (n + (e9 + K - 9)) (nI (z_d v K (e9 + K - 9)))) f3 H locs ls (by omega) (by omega) (fun e h9 => by simp [upd, show e ≠ n + (e9 + K - 9) by omega]; exact hy1 e h9) (fun e h9 => by by_cases e8 : e = e9 + K - 9 <;> simp [upd, e8]; exact hy2 e (by omega)) g9 g7 (fun zq zx n0 n1 hq => by have t0 := hfr _ _ n0 n1 hq; have t1 := hfr8 _ _ n0 n1 t0; exact t1) hM hS (lv_sub hl [1, 2, 0] rfl)
        · refine lv_iload_n hx hb d_Text_addNumber_12 rfl (lv_at hl 2 rfl) ?_
          refine lv_iconst (v := 1) hx hb d_Text_addNumber_13 (by decide) ?_
          refine lv_icmp_ne (tgt := 32) hx hb d_Text_addNumber_14 (by decide) (fun h3 => ?_) (fun h3 => ?_)
          · have hng : ¬ 9 ≤ e9 + K := fun z => ((z_dg_ge hdg hlt).mpr z).elim (fun q => absurd ((nI_leI (z_un_b e9 (by omega)).1 hv).mpr q) h2) (fun q => absurd ((z_un_1 e9 hlt).mpr q) h3)
            refine lv_iload_n hx hb d_Text_addNumber_32 rfl (lv_at hl 2 rfl) ?_
            refine lv_bipush (v := 10) hx hb d_Text_addNumber_33 (by decide) ?_
            refine lv_idiv hx hb d_Text_addNumber_35 (by decide) ?_
            refine hm_top (z := nI (z_un (e9 + 1))) (z_un_10 e9 hlt) ?_
            refine lv_istore_n (lv' := [(2, .int (nI (z_un (e9 + 1)))), (0, .ref t), (1, .int (nI v))]) hx hb d_Text_addNumber_36 rfl hl (by decide) rfl (fun ls hl => ?_)
            have g4 : fL t = some (.inr (5, [.ref a, .int (nI (n + (e9 + 1 + K - 9)))])) := by rw [show n + (e9 + 1 + K - 9) = n + (e9 + K - 9) by omega]; exact ht
            refine lv_goto (tgt := 3) hx hb d_Text_addNumber_37 (by decide) ?_
            exact ih (e9 + 1) y fL H locs ls (by omega) (by omega) hy1 (fun e h9 => hy2 e (by omega)) g4 ha (fun zq zx n0 n1 hq => by have t0 := hfr _ _ n0 n1 hq; exact t0) hM hS (lv_sub hl [1, 2, 0] rfl)
          · have hge : 9 ≤ e9 + K := (z_dg_ge hdg hlt).mp (Or.inr ((z_un_1 e9 hlt).mp h3))
            refine lv_aload_n hx hb d_Text_addNumber_17 rfl (lv_at hl 0 rfl) ?_
            refine lv_bipush (v := 48) hx hb d_Text_addNumber_18 (by decide) ?_
            refine lv_iload_n hx hb d_Text_addNumber_20 rfl (lv_at hl 1 rfl) ?_
            refine lv_iload_n hx hb d_Text_addNumber_21 rfl (lv_at hl 2 rfl) ?_
            refine lv_idiv hx hb d_Text_addNumber_22 (nI_ne0 ((z_un_b e9 (by omega)).2.mpr hlt) (z_un_b e9 (by omega)).1) ?_
            refine lv_bipush (v := 10) hx hb d_Text_addNumber_23 (by decide) ?_
            refine lv_irem hx hb d_Text_addNumber_25 (by decide) ?_
            refine lv_iadd hx hb d_Text_addNumber_26 ?_
            refine hm_top (z := nI (z_d v K (e9 + K - 9))) (z_d_eq hv hlt hge) ?_
            refine lv_i2c hx hb d_Text_addNumber_27 rfl ?_
            refine hm_top (z := nI (z_d v K (e9 + K - 9))) (z_c16 (by have := z_d_lt v K (e9 + K - 9); omega)) ?_
            refine hm_calli hS hM hA (va_runV (As := [.int (nI (z_d v K (e9 + K - 9)))]) (rest := []) X (c_Text_add l D k fL t a (n + (e9 + K - 9)) y (nI (z_d v K (e9 + K - 9))) ht ha (by omega) (z_nar (by have := z_d_lt v K (e9 + K - 9); omega)) H.size) (hm_cwV hts me_Text_add wl_Text_34 rfl rfl ⟨Nat.le_of_ble_eq_true rfl, Nat.le_of_ble_eq_true rfl⟩) (hm_preV hM hK ht rfl) rfl rfl hl.1 rfl (lv_room (Nat.le_of_ble_eq_true rfl)) d_Text_addNumber_28 ⟨Nat.le_of_ble_eq_true rfl, Nat.le_of_ble_eq_true rfl⟩) (fun r6 f4 H locs p5 hM hS => ?_)
            obtain ⟨rfl, g7, g8, hfr9⟩ := p5
            refine lv_pop hx hb d_Text_addNumber_31 rfl ?_
            refine lv_iload_n hx hb d_Text_addNumber_32 rfl (lv_at hl 2 rfl) ?_
            refine lv_bipush (v := 10) hx hb d_Text_addNumber_33 (by decide) ?_
            refine lv_idiv hx hb d_Text_addNumber_35 (by decide) ?_
            refine hm_top (z := nI (z_un (e9 + 1))) (z_un_10 e9 hlt) ?_
            refine lv_istore_n (lv' := [(2, .int (nI (z_un (e9 + 1)))), (0, .ref t), (1, .int (nI v))]) hx hb d_Text_addNumber_36 rfl hl (by decide) rfl (fun ls hl => ?_)
            have g10 : f4 t = some (.inr (5, [.ref a, .int (nI (n + (e9 + 1 + K - 9)))])) := by rw [show n + (e9 + 1 + K - 9) = n + (e9 + K - 9) + 1 by omega]; exact g7
            refine lv_goto (tgt := 3) hx hb d_Text_addNumber_37 (by decide) ?_
            exact ih (e9 + 1) (upd y (n + (e9 + K - 9)) (nI (z_d v K (e9 + K - 9)))) f4 H locs ls (by omega) (by omega) (fun e h9 => by simp [upd, show e ≠ n + (e9 + K - 9) by omega]; exact hy1 e h9) (fun e h9 => by by_cases e8 : e = e9 + K - 9 <;> simp [upd, e8]; exact hy2 e (by omega)) g10 g8 (fun zq zx n0 n1 hq => by have t0 := hfr _ _ n0 n1 hq; have t1 := hfr9 _ _ n0 n1 t0; exact t1) hM hS (lv_sub hl [1, 2, 0] rfl)
  have ht0 : f t = some (.inr (5, [.ref a, .int (nI (n + (0 + K - 9)))])) := by rw [show n + (0 + K - 9) = n by omega]; exact ht
  exact loop3 _ 0 x f s.heap [] ls (Nat.lt_succ_self _) (Nat.zero_le _) (fun e h9 => rfl) (fun e h9 => absurd h9 (by omega)) ht0 ha (fun q x n0 n1 hq => hq) hM hS (lv_sub hl [1, 2, 0] rfl)
set_option maxHeartbeats 4000000 in
set_option maxRecDepth 100000 in
theorem c_signValue (l : Launch) (D : va_G) (k : Nat → ClassId) (sA sV : Nat → Nat) (f : hm) (t : Nat) (a : Nat) (n : Nat) (x : Nat → Int32) (ch : Nat → Nat) (j : Nat) (ht : f t = some (.inr (5, [.ref a, .int (nI n)]))) (ha : f a = some (.inl (k 2, 120, .inl x))) (hn : n ≤ 120) (hx9 : ∀ j, j < n → x j = nI (ch j) ∧ ch j < 127) (hj : j < n) : hm_MiZ l sA sV D vwCl (tyL k) y_Wrapping_signValue (Cond.code y_Wrapping_signValue b_Wrapping_signValue 2 (some .int) :: TB) ({ frames := 4, cells := 0, slots := 0, locals := 91 }) [.ref t, .int (nI j)] f (fun (r : Int32) (f1 : hm) => m_sval (x j) = r ∧ f = f1) 0 0 := by
  refine hm_enterZ (Qc := fun sz => va_Qi _ (hm_R D vwCl (tyL k) f sz) (hm_A f sz)) (by decide) rfl (Nat.le_of_ble_eq_true rfl) ?_
  intro p e s m below meth cd ls hZ X0 hr hlk hin hK hM hS hA hl Q hQ
  have X : CallFix p m cd b_Wrapping_signValue 2 s ([.ref t, .int (nI j)] : List Value).toArray TB R_Wrapping := ⟨X0.1, X0.2.1, X0.2.2.1, X0.2.2.2.1, fun w h => X0.2.2.2.2 w (List.mem_cons_of_mem _ h)⟩
  have hx := X.1; have hb := X.2.1; have hml := X.2.2.1; have hown := X.2.2.2.1; have hts := X.2.2.2.2
  have hl : lv_has ls 2 [(0, .ref t), (1, .int (nI j))] := hl
  refine va_ldcS hx hb hown (hZ.2.2.1 6 (by decide)) d_Wrapping_signValue_0 ?_
  refine lv_aload_n hx hb d_Wrapping_signValue_2 rfl (lv_at hl 0 rfl) ?_
  refine lv_iload_n hx hb d_Wrapping_signValue_3 rfl (lv_at hl 1 rfl) ?_
  refine hm_calli hS hM hA (va_runV (As := [.int (nI j)]) (rest := [.ref (sA 6)]) X (c_Text_codeAt l D k f t a n x (nI j) ht ha hn s.heap.size) (hm_cwV hts me_Text_codeAt wl_Wrapping_50 rfl rfl ⟨Nat.le_of_ble_eq_true rfl, Nat.le_of_ble_eq_true rfl⟩) (hm_preV hM hK ht rfl) rfl rfl hl.1 rfl (lv_room (Nat.le_of_ble_eq_true rfl)) d_Wrapping_signValue_4 ⟨Nat.le_of_ble_eq_true rfl, Nat.le_of_ble_eq_true rfl⟩) (fun r3 f1 H locs p2 hM hS => ?_)
  obtain ⟨rfl, rfl⟩ := p2
  refine hm_top (z := x j) (z_at_in (by omega) (by omega)) ?_
  refine lv_i2c hx hb d_Wrapping_signValue_7 rfl ?_
  refine hm_top (z := x j) (by rw [(hx9 j hj).1]; exact z_c16 (by have := (hx9 j hj).2; omega)) ?_
  refine hm_calli hS hM hA (va_runV (As := [.int (x j)]) (rest := []) X (j_indexOf l D k sA sV f 6 (x j) (x j)  (by decide) (by rw [(hx9 j hj).1]; exact z_enc1 _ (by have := (hx9 j hj).2; omega)) (by rw [(hx9 j hj).1]; exact z_i8 _ (by have := (hx9 j hj).2; omega)) (by decide) H.size) (hm_cwV hts me_JString_indexOf wl_Wrapping_66 rfl rfl ⟨Nat.le_of_ble_eq_true rfl, Nat.le_of_ble_eq_true rfl⟩) (hm_preVT hZ hS hA hM hK (i := 6) (by decide)) rfl rfl hl.1 rfl (lv_room (Nat.le_of_ble_eq_true rfl)) d_Wrapping_signValue_8 ⟨Nat.le_of_ble_eq_true rfl, Nat.le_of_ble_eq_true rfl⟩) (fun r6 f4 H locs p5 hM hS => ?_)
  obtain ⟨rfl, rfl⟩ := p5
  exact hm_iret X hQ hr hlk hK hM hS d_Wrapping_signValue_11 ⟨(by rw [(hx9 j hj).1]; exact (z_sv_eq _ (by have := (hx9 j hj).2; omega)).symm), rfl⟩
set_option maxHeartbeats 4000000 in
set_option maxRecDepth 100000 in
theorem c_hasForm (l : Launch) (D : va_G) (k : Nat → ClassId) (sA sV : Nat → Nat) (f : hm) (h : Nat) (t : Nat) (a : Nat) (n : Nat) (x : Nat → Int32) (ch : Nat → Nat) (ht : f t = some (.inr (5, [.ref a, .int (nI n)]))) (ha : f a = some (.inl (k 2, 120, .inl x))) (hn : n ≤ 120) (hx9 : ∀ j, j < n → x j = nI (ch j) ∧ ch j < 127) (hn11 : 11 ≤ n) : hm_MiZ l sA sV D vwCl (tyL k) y_Wrapping_hasForm (Cond.code y_Wrapping_hasForm b_Wrapping_hasForm 5 (some .boolean) :: TB) ({ frames := 5, cells := 0, slots := 0, locals := 112 }) [.ref h, .ref t] f (fun (r : Int32) (f1 : hm) => ((r = 1 ∧ z_form n x) ∨ (r = 0 ∧ ¬ z_form n x)) ∧ f = f1) 0 0 := by
  refine hm_enterZ (Qc := fun sz => va_Qi _ (hm_R D vwCl (tyL k) f sz) (hm_A f sz)) (by decide) rfl (Nat.le_of_ble_eq_true rfl) ?_
  intro p e s m below meth cd ls hZ X0 hr hlk hin hK hM hS hA hl Q hQ
  have X : CallFix p m cd b_Wrapping_hasForm 5 s ([.ref h, .ref t] : List Value).toArray TB R_Wrapping := ⟨X0.1, X0.2.1, X0.2.2.1, X0.2.2.2.1, fun w h => X0.2.2.2.2 w (List.mem_cons_of_mem _ h)⟩
  have hx := X.1; have hb := X.2.1; have hml := X.2.2.1; have hown := X.2.2.2.1; have hts := X.2.2.2.2
  have hl : lv_has ls 5 [(0, .ref h), (1, .ref t)] := hl
  refine lv_aload_n hx hb d_Wrapping_hasForm_0 rfl (lv_at hl 1 rfl) ?_
  refine hm_calli hS hM hA (va_runV (As := []) (rest := []) X (c_Text_size l D k f t a (nI n) ht  s.heap.size) (hm_cwV hts me_Text_size wl_Wrapping_46 rfl rfl ⟨Nat.le_of_ble_eq_true rfl, Nat.le_of_ble_eq_true rfl⟩) (hm_preV hM hK ht rfl) rfl rfl hl.1 rfl (lv_room (Nat.le_of_ble_eq_true rfl)) d_Wrapping_hasForm_1 ⟨Nat.le_of_ble_eq_true rfl, Nat.le_of_ble_eq_true rfl⟩) (fun r3 f1 H locs p2 hM hS => ?_)
  obtain ⟨rfl, rfl⟩ := p2
  refine lv_bipush (v := 11) hx hb d_Wrapping_hasForm_4 (by decide) ?_
  refine lv_isub hx hb d_Wrapping_hasForm_6 ?_
  refine hm_top (z := nI (n - 11)) (pk_sub (b := 11) hn11) ?_
  refine lv_istore_n (lv' := [(2, .int (nI (n - 11))), (0, .ref h), (1, .ref t)]) hx hb d_Wrapping_hasForm_7 rfl hl (by decide) rfl (fun ls hl => ?_)
  refine lv_iload_n hx hb d_Wrapping_hasForm_8 rfl (lv_at hl 0 rfl) ?_
  refine lv_if_lt (tgt := 19) hx hb d_Wrapping_hasForm_9 (by decide) (fun h4 => ?_) (fun h4 => ?_)
  · exact absurd h4 (nI_pos (by omega))
  · refine lv_iload_n hx hb d_Wrapping_hasForm_12 rfl (lv_at hl 0 rfl) ?_
    refine lv_iconst (v := 4) hx hb d_Wrapping_hasForm_13 (by decide) ?_
    refine lv_irem hx hb d_Wrapping_hasForm_14 (by decide) ?_
    refine hm_top (z := nI ((n - 11) % 4)) (pk_rem (d := 4) (by omega) (by decide) (by decide)) ?_
    refine lv_iconst (v := 1) hx hb d_Wrapping_hasForm_15 (by decide) ?_
    refine lv_icmp_ne (tgt := 21) hx hb d_Wrapping_hasForm_16 (by decide) (fun h5 => ?_) (fun h5 => ?_)
    · have hm1 : ¬ (n - 11) % 4 = 1 := fun z => h5 ((nI_eq (b := 1) (by omega) (by decide)).mpr z)
      refine lv_iconst (v := 0) hx hb d_Wrapping_hasForm_21 (by decide) ?_
      refine lv_istore_n (lv' := [(3, .int 0), (2, .int (nI (n - 11))), (0, .ref h), (1, .ref t)]) hx hb d_Wrapping_hasForm_22 rfl hl (by decide) rfl (fun ls hl => ?_)
      have loop23 : ∀ (fu : Nat) (j : Nat) (H : Heap) (locs : List Loc) (ls : Array Slot) (hmu : n - j < fu) (hj : j ≤ n) (hok : ∀ e, e < j → (¬ e = n - 11 → ¬ m_sval (x e) < 0) ∧ (e = n - 11 → x e = 46)) (hM : hm_W D vwCl (hm_A f s.heap.size) f H) (hS : va_S (hm_A f s.heap.size) s.heap H locs) (hl : lv_has ls 5 [(0, .ref h), (1, .ref t), (2, .int (nI (n - 11))), (3, .int (nI j))]), W p l e ({ frames := 5, cells := 0, slots := 0, locals := 112 }) s m ([.ref h, .ref t] : List Value).toArray below meth cd H locs 0 0 Q (F0 m 23 ls []) := by
        intro fu
        induction fu with
        | zero => intro j H locs ls hmu; exact absurd hmu (Nat.not_lt_zero _)
        | succ fu ih =>
          intro j H locs ls hmu hj hok  hM hS hl
          refine lv_iload_n hx hb d_Wrapping_hasForm_23 rfl (lv_at hl 3 rfl) ?_
          refine lv_aload_n hx hb d_Wrapping_hasForm_24 rfl (lv_at hl 1 rfl) ?_
          refine hm_calli hS hM hA (va_runV (As := []) (rest := [.int (nI j)]) X (c_Text_size l D k f t a (nI n) ht  H.size) (hm_cwV hts me_Text_size wl_Wrapping_46 rfl rfl ⟨Nat.le_of_ble_eq_true rfl, Nat.le_of_ble_eq_true rfl⟩) (hm_preV hM hK ht rfl) rfl rfl hl.1 rfl (lv_room (Nat.le_of_ble_eq_true rfl)) d_Wrapping_hasForm_25 ⟨Nat.le_of_ble_eq_true rfl, Nat.le_of_ble_eq_true rfl⟩) (fun r8 f6 H locs p7 hM hS => ?_)
          obtain ⟨rfl, rfl⟩ := p7
          refine lv_icmp_ge (tgt := 82) hx hb d_Wrapping_hasForm_28 (by decide) (fun h9 => ?_) (fun h9 => ?_)
          · have hge : j = n := by have z := (nI_leI (a := n) (b := j) (by omega) (by omega)).mp h9; omega
            refine lv_iload_n hx hb d_Wrapping_hasForm_82 rfl (lv_at hl 2 rfl) ?_
            refine lv_bipush (v := 6) hx hb d_Wrapping_hasForm_83 (by decide) ?_
            refine lv_imul hx hb d_Wrapping_hasForm_85 ?_
            refine hm_top (z := nI ((n - 11) * 6)) (pk_mul _ 6) ?_
            refine lv_bipush (v := 8) hx hb d_Wrapping_hasForm_86 (by decide) ?_
            refine lv_irem hx hb d_Wrapping_hasForm_88 (by decide) ?_
            refine hm_top (z := nI ((n - 11) * 6 % 8)) (pk_rem (d := 8) (by omega) (by decide) (by decide)) ?_
            refine lv_istore_n (lv' := [(3, .int (nI ((n - 11) * 6 % 8))), (0, .ref h), (1, .ref t), (2, .int (nI (n - 11)))]) hx hb d_Wrapping_hasForm_89 rfl hl (by decide) rfl (fun ls hl => ?_)
            have z_f0 : nI ((n - 11) * 6 % 8) = 0 → (n - 11) % 4 = 0 := fun z => (z_fill _ (Nat.mod_lt _ (by decide))).mp (by rw [← z_6mod]; exact z)
            refine lv_iload_n hx hb d_Wrapping_hasForm_90 rfl (lv_at hl 0 rfl) ?_
            refine lv_if_eq (tgt := 110) hx hb d_Wrapping_hasForm_91 (by decide) (fun h10 => ?_) (fun h10 => ?_)
            · refine lv_iconst (v := 1) hx hb d_Wrapping_hasForm_110 (by decide) ?_
              refine lv_goto (tgt := 115) hx hb d_Wrapping_hasForm_111 (by decide) ?_
              exact hm_zret X hQ hr hlk hK hM hS rfl d_Wrapping_hasForm_115 ⟨Or.inl ⟨rfl, hn11, (hok (n - 11) (by omega)).2 rfl, hm1, fun k h1 h2 => (hok k (by omega)).1 h2, fun z => absurd (z_f0 h10) (by omega), fun z => absurd (z_f0 h10) (by omega)⟩, rfl⟩
            · have hn12 : 12 ≤ n := by by_cases z : 12 ≤ n; exact z; exact absurd (show nI ((n - 11) * 6 % 8) = 0 by rw [show n - 11 = 0 by omega]; rfl) h10
              have hr0 : ¬ (n - 11) % 4 = 0 := fun z => h10 (by rw [z_6mod, z]; rfl)
              have hq9 := z_sg1_eq (ch (n - 12)) (by have := (hx9 (n - 12) (by omega)).2; omega) (by rw [← (hx9 (n - 12) (by omega)).1]; exact (hok (n - 12) (by omega)).1 (by omega))
              rw [← (hx9 (n - 12) (by omega)).1] at hq9
              refine lv_aload_n hx hb d_Wrapping_hasForm_94 rfl (lv_at hl 2 rfl) ?_
              refine lv_iload_n hx hb d_Wrapping_hasForm_95 rfl (lv_at hl 3 rfl) ?_
              refine lv_iconst (v := 1) hx hb d_Wrapping_hasForm_96 (by decide) ?_
              refine lv_isub hx hb d_Wrapping_hasForm_97 ?_
              refine hm_top (z := nI (n - 12)) ((pk_sub (b := 1) (by omega)).trans (congrArg nI (by omega))) ?_
              refine hm_calli hS hM hA (va_runS (As := [.ref t, .int (nI (n - 12))]) (rest := []) X (c_signValue l D k sA sV f t a n x ch (n - 12) ht ha hn hx9 (by omega) H.size) (hm_cwS hts me_Wrapping_signValue wl_Wrapping_54 rfl rfl ⟨Nat.le_of_ble_eq_true rfl, Nat.le_of_ble_eq_true rfl⟩) (hm_preSZ hZ hS hA hM hK) rfl rfl hl.1 rfl (lv_room (Nat.le_of_ble_eq_true rfl)) d_Wrapping_hasForm_98 ⟨Nat.le_of_ble_eq_true rfl, Nat.le_of_ble_eq_true rfl⟩) (fun r13 f11 H locs p12 hM hS => ?_)
              obtain ⟨rfl, rfl⟩ := p12
              refine lv_iconst (v := 1) hx hb d_Wrapping_hasForm_101 (by decide) ?_
              refine lv_iload_n hx hb d_Wrapping_hasForm_102 rfl (lv_at hl 0 rfl) ?_
              refine lv_ishl hx hb d_Wrapping_hasForm_103 ?_
              refine lv_iconst (v := 1) hx hb d_Wrapping_hasForm_104 (by decide) ?_
              refine lv_isub hx hb d_Wrapping_hasForm_105 ?_
              refine lv_iand hx hb d_Wrapping_hasForm_106 ?_
              have hlst : ((m_sval (x (n - 12))) &&& ((1 <<< ((nI ((n - 11) * 6 % 8)) &&& 31)) - 1)) = 0 ↔ (((n - 11) % 4 = 2 → z_sg1 (x (n - 12)) % 16 = 0) ∧ ((n - 11) % 4 = 3 → z_sg1 (x (n - 12)) % 4 = 0)) := by rw [hq9.1, z_6mod]; exact z_last _ hq9.2.1 _ (Nat.mod_lt _ (by decide)) hm1
              refine lv_if_ne (tgt := 114) hx hb d_Wrapping_hasForm_107 (by decide) (fun h14 => ?_) (fun h14 => ?_)
              · refine lv_iconst (v := 0) hx hb d_Wrapping_hasForm_114 (by decide) ?_
                exact hm_zret X hQ hr hlk hK hM hS rfl d_Wrapping_hasForm_115 ⟨Or.inr ⟨rfl, fun z => h14 (hlst.mpr z.2.2.2.2)⟩, rfl⟩
              · refine lv_iconst (v := 1) hx hb d_Wrapping_hasForm_110 (by decide) ?_
                refine lv_goto (tgt := 115) hx hb d_Wrapping_hasForm_111 (by decide) ?_
                exact hm_zret X hQ hr hlk hK hM hS rfl d_Wrapping_hasForm_115 ⟨Or.inl ⟨rfl, hn11, (hok (n - 11) (by omega)).2 rfl, hm1, fun k h1 h2 => (hok k (by omega)).1 h2, hlst.mp h14⟩, rfl⟩
          · have hlt : j < n := by have z := mt (nI_leI (a := n) (b := j) (by omega) (by omega)).mpr h9; omega
            refine lv_iload_n hx hb d_Wrapping_hasForm_31 rfl (lv_at hl 3 rfl) ?_
            refine lv_iload_n hx hb d_Wrapping_hasForm_32 rfl (lv_at hl 2 rfl) ?_
            refine lv_icmp_ne (tgt := 54) hx hb d_Wrapping_hasForm_33 (by decide) (fun h10 => ?_) (fun h10 => ?_)
            · have hdot : ¬ j = n - 11 := fun z => h10 ((nI_eq (by omega) (by omega)).mpr z)
              refine lv_aload_n hx hb d_Wrapping_hasForm_54 rfl (lv_at hl 1 rfl) ?_
              refine lv_iload_n hx hb d_Wrapping_hasForm_55 rfl (lv_at hl 3 rfl) ?_
              refine hm_calli hS hM hA (va_runS (As := [.ref t, .int (nI j)]) (rest := []) X (c_signValue l D k sA sV f t a n x ch j ht ha hn hx9 hlt H.size) (hm_cwS hts me_Wrapping_signValue wl_Wrapping_54 rfl rfl ⟨Nat.le_of_ble_eq_true rfl, Nat.le_of_ble_eq_true rfl⟩) (hm_preSZ hZ hS hA hM hK) rfl rfl hl.1 rfl (lv_room (Nat.le_of_ble_eq_true rfl)) d_Wrapping_hasForm_56 ⟨Nat.le_of_ble_eq_true rfl, Nat.le_of_ble_eq_true rfl⟩) (fun r13 f11 H locs p12 hM hS => ?_)
              obtain ⟨rfl, rfl⟩ := p12
              refine lv_if_lt (tgt := 66) hx hb d_Wrapping_hasForm_59 (by decide) (fun h14 => ?_) (fun h14 => ?_)
              · have hbad := h14
                refine lv_iconst (v := 0) hx hb d_Wrapping_hasForm_66 (by decide) ?_
                refine lv_istore (lv' := [(4, .int 0), (0, .ref h), (1, .ref t), (2, .int (nI (n - 11))), (3, .int (nI j))]) hx hb d_Wrapping_hasForm_67 hl (by decide) rfl (fun ls hl => ?_)
                refine lv_iload hx hb d_Wrapping_hasForm_69 (lv_at hl 0 rfl) ?_
                refine lv_if_ne (tgt := 76) hx hb d_Wrapping_hasForm_71 (by decide) (fun h15 => ?_) (fun h15 => ?_)
                · exact absurd h15 (by decide)
                · refine lv_iconst (v := 0) hx hb d_Wrapping_hasForm_74 (by decide) ?_
                  exact hm_zret X hQ hr hlk hK hM hS rfl d_Wrapping_hasForm_75 ⟨Or.inr ⟨rfl, fun z => z.2.2.2.1 j hlt hdot hbad⟩, rfl⟩
              · have hgood := h14
                refine lv_iconst (v := 1) hx hb d_Wrapping_hasForm_62 (by decide) ?_
                refine lv_goto (tgt := 67) hx hb d_Wrapping_hasForm_63 (by decide) ?_
                refine lv_istore (lv' := [(4, .int 1), (0, .ref h), (1, .ref t), (2, .int (nI (n - 11))), (3, .int (nI j))]) hx hb d_Wrapping_hasForm_67 hl (by decide) rfl (fun ls hl => ?_)
                refine lv_iload hx hb d_Wrapping_hasForm_69 (lv_at hl 0 rfl) ?_
                refine lv_if_ne (tgt := 76) hx hb d_Wrapping_hasForm_71 (by decide) (fun h15 => ?_) (fun h15 => ?_)
                · refine lv_iinc (lv' := [(3, .int (nI (j + 1))), (4, .int 1), (0, .ref h), (1, .ref t), (2, .int (nI (n - 11)))]) hx hb d_Wrapping_hasForm_76 hl (k := 4) rfl (hm_inc _) (by decide) rfl (fun ls hl => ?_)
                  refine lv_goto (tgt := 23) hx hb d_Wrapping_hasForm_79 (by decide) ?_
                  exact ih (j + 1)  H locs ls (by omega) (by omega) (z_ext hok ⟨fun _ => hgood, fun z => absurd z hdot⟩)  hM hS (lv_sub hl [2, 3, 4, 0] rfl)
                · exact absurd h15 (by decide)
            · have hdot : j = n - 11 := (nI_eq (by omega) (by omega)).mp h10
              refine lv_aload_n hx hb d_Wrapping_hasForm_36 rfl (lv_at hl 1 rfl) ?_
              refine lv_iload_n hx hb d_Wrapping_hasForm_37 rfl (lv_at hl 3 rfl) ?_
              refine hm_calli hS hM hA (va_runV (As := [.int (nI j)]) (rest := []) X (c_Text_codeAt l D k f t a n x (nI j) ht ha hn H.size) (hm_cwV hts me_Text_codeAt wl_Wrapping_50 rfl rfl ⟨Nat.le_of_ble_eq_true rfl, Nat.le_of_ble_eq_true rfl⟩) (hm_preV hM hK ht rfl) rfl rfl hl.1 rfl (lv_room (Nat.le_of_ble_eq_true rfl)) d_Wrapping_hasForm_38 ⟨Nat.le_of_ble_eq_true rfl, Nat.le_of_ble_eq_true rfl⟩) (fun r13 f11 H locs p12 hM hS => ?_)
              obtain ⟨rfl, rfl⟩ := p12
              refine hm_top (z := x j) (z_at_in (by omega) (by omega)) ?_
              refine lv_bipush (v := 46) hx hb d_Wrapping_hasForm_41 (by decide) ?_
              refine lv_icmp_ne (tgt := 50) hx hb d_Wrapping_hasForm_43 (by decide) (fun h14 => ?_) (fun h14 => ?_)
              · have hbad := h14
                refine lv_iconst (v := 0) hx hb d_Wrapping_hasForm_50 (by decide) ?_
                refine lv_goto (tgt := 67) hx hb d_Wrapping_hasForm_51 (by decide) ?_
                refine lv_istore (lv' := [(4, .int 0), (0, .ref h), (1, .ref t), (2, .int (nI (n - 11))), (3, .int (nI j))]) hx hb d_Wrapping_hasForm_67 hl (by decide) rfl (fun ls hl => ?_)
                refine lv_iload hx hb d_Wrapping_hasForm_69 (lv_at hl 0 rfl) ?_
                refine lv_if_ne (tgt := 76) hx hb d_Wrapping_hasForm_71 (by decide) (fun h15 => ?_) (fun h15 => ?_)
                · exact absurd h15 (by decide)
                · refine lv_iconst (v := 0) hx hb d_Wrapping_hasForm_74 (by decide) ?_
                  exact hm_zret X hQ hr hlk hK hM hS rfl d_Wrapping_hasForm_75 ⟨Or.inr ⟨rfl, fun z => hbad (by rw [hdot]; exact z.2.1)⟩, rfl⟩
              · have hgood := h14
                refine lv_iconst (v := 1) hx hb d_Wrapping_hasForm_46 (by decide) ?_
                refine lv_goto (tgt := 67) hx hb d_Wrapping_hasForm_47 (by decide) ?_
                refine lv_istore (lv' := [(4, .int 1), (0, .ref h), (1, .ref t), (2, .int (nI (n - 11))), (3, .int (nI j))]) hx hb d_Wrapping_hasForm_67 hl (by decide) rfl (fun ls hl => ?_)
                refine lv_iload hx hb d_Wrapping_hasForm_69 (lv_at hl 0 rfl) ?_
                refine lv_if_ne (tgt := 76) hx hb d_Wrapping_hasForm_71 (by decide) (fun h15 => ?_) (fun h15 => ?_)
                · refine lv_iinc (lv' := [(3, .int (nI (j + 1))), (4, .int 1), (0, .ref h), (1, .ref t), (2, .int (nI (n - 11)))]) hx hb d_Wrapping_hasForm_76 hl (k := 4) rfl (hm_inc _) (by decide) rfl (fun ls hl => ?_)
                  refine lv_goto (tgt := 23) hx hb d_Wrapping_hasForm_79 (by decide) ?_
                  exact ih (j + 1)  H locs ls (by omega) (by omega) (z_ext hok ⟨fun z => absurd hdot z, fun _ => hgood⟩)  hM hS (lv_sub hl [2, 3, 4, 0] rfl)
                · exact absurd h15 (by decide)
      exact loop23 _ 0  H locs ls (Nat.lt_succ_self _) (Nat.zero_le _) (fun e h9 => absurd h9 (Nat.not_lt_zero _))  hM hS (lv_sub hl [2, 3, 1, 0] rfl)
    · have hm1 : (n - 11) % 4 = 1 := (nI_eq (b := 1) (by omega) (by decide)).mp h5
      refine lv_iconst (v := 0) hx hb d_Wrapping_hasForm_19 (by decide) ?_
      exact hm_zret X hQ hr hlk hK hM hS rfl d_Wrapping_hasForm_20 ⟨Or.inr ⟨rfl, fun z => z.2.2.1 hm1⟩, rfl⟩
set_option maxHeartbeats 4000000 in
set_option maxRecDepth 100000 in
theorem c_hasSeal (l : Launch) (D : va_G) (k : Nat → ClassId) (sA sV : Nat → Nat) (f : hm) (h : Nat) (ky : Int32) (t : Nat) (a : Nat) (n : Nat) (x : Nat → Int32) (hh : f h = some (.inr (6, [.int ky]))) (ht : f t = some (.inr (5, [.ref a, .int (nI n)]))) (ha : f a = some (.inl (k 2, 120, .inl x))) (hn : n ≤ 120) (hn11 : 11 ≤ n) : hm_MiZ l sA sV D vwCl (tyL k) y_Wrapping_hasSeal (Cond.code y_Wrapping_hasSeal b_Wrapping_hasSeal 6 (some .boolean) :: TB) ({ frames := 5, cells := 0, slots := 0, locals := 107 }) [.ref h, .ref t] f (fun (r : Int32) (f1 : hm) => ((r = 1 ∧ z_sealed ky.toInt64 n x) ∨ (r = 0 ∧ ¬ z_sealed ky.toInt64 n x)) ∧ f = f1) 0 0 := by
  refine hm_enterZ (Qc := fun sz => va_Qi _ (hm_R D vwCl (tyL k) f sz) (hm_A f sz)) (by decide) rfl (Nat.le_of_ble_eq_true rfl) ?_
  intro p e s m below meth cd ls hZ X0 hr hlk hin hK hM hS hA hl Q hQ
  have X : CallFix p m cd b_Wrapping_hasSeal 6 s ([.ref h, .ref t] : List Value).toArray TB R_Wrapping := ⟨X0.1, X0.2.1, X0.2.2.1, X0.2.2.2.1, fun w h => X0.2.2.2.2 w (List.mem_cons_of_mem _ h)⟩
  have hx := X.1; have hb := X.2.1; have hml := X.2.2.1; have hown := X.2.2.2.1; have hts := X.2.2.2.2
  have hl : lv_has ls 6 [(0, .ref h), (1, .ref t)] := hl
  refine lv_aload_n hx hb d_Wrapping_hasSeal_0 rfl (lv_at hl 1 rfl) ?_
  refine hm_calli hS hM hA (va_runV (As := []) (rest := []) X (c_Text_size l D k f t a (nI n) ht  s.heap.size) (hm_cwV hts me_Text_size wl_Wrapping_46 rfl rfl ⟨Nat.le_of_ble_eq_true rfl, Nat.le_of_ble_eq_true rfl⟩) (hm_preV hM hK ht rfl) rfl rfl hl.1 rfl (lv_room (Nat.le_of_ble_eq_true rfl)) d_Wrapping_hasSeal_1 ⟨Nat.le_of_ble_eq_true rfl, Nat.le_of_ble_eq_true rfl⟩) (fun r3 f1 H locs p2 hM hS => ?_)
  obtain ⟨rfl, rfl⟩ := p2
  refine lv_bipush (v := 11) hx hb d_Wrapping_hasSeal_4 (by decide) ?_
  refine lv_isub hx hb d_Wrapping_hasSeal_6 ?_
  refine hm_top (z := nI (n - 11)) (pk_sub (b := 11) hn11) ?_
  refine lv_istore_n (lv' := [(2, .int (nI (n - 11))), (0, .ref h), (1, .ref t)]) hx hb d_Wrapping_hasSeal_7 rfl hl (by decide) rfl (fun ls hl => ?_)
  refine lv_aload_n hx hb d_Wrapping_hasSeal_8 rfl (lv_at hl 1 rfl) ?_
  refine lv_aload_n hx hb d_Wrapping_hasSeal_9 rfl (lv_at hl 2 rfl) ?_
  refine lv_iload_n hx hb d_Wrapping_hasSeal_10 rfl (lv_at hl 0 rfl) ?_
  refine hm_calll hS hM hA (va_runV (As := [.ref t, .int (nI (n - 11))]) (rest := []) X (c_sealOf l D k f h ky t a n x (n - 11) hh ht ha hn (by omega) H.size) (hm_cwV hts me_Wrapping_sealOf wl_Wrapping_38 rfl rfl ⟨Nat.le_of_ble_eq_true rfl, Nat.le_of_ble_eq_true rfl⟩) (hm_preV hM hK hh rfl) rfl rfl hl.1 rfl (lv_room (Nat.le_of_ble_eq_true rfl)) d_Wrapping_hasSeal_11 ⟨Nat.le_of_ble_eq_true rfl, Nat.le_of_ble_eq_true rfl⟩) (fun r6 f4 H locs p5 hM hS => ?_)
  obtain ⟨rfl, rfl⟩ := p5
  refine lv_lstore_n (lv' := [(3, .long (z_seal ky.toInt64 x (n - 11))), (2, .int (nI (n - 11))), (0, .ref h), (1, .ref t)]) hx hb d_Wrapping_hasSeal_14 rfl hl (by decide) rfl (fun ls hl => ?_)
  refine lv_iconst (v := 0) hx hb d_Wrapping_hasSeal_15 (by decide) ?_
  refine lv_istore (lv' := [(5, .int 0), (3, .long (z_seal ky.toInt64 x (n - 11))), (2, .int (nI (n - 11))), (0, .ref h), (1, .ref t)]) hx hb d_Wrapping_hasSeal_16 hl (by decide) rfl (fun ls hl => ?_)
  have loop18 : ∀ (fu : Nat) (j : Nat) (H : Heap) (locs : List Loc) (ls : Array Slot) (hmu : 10 - j < fu) (hj : j ≤ 10) (hok : ∀ e, e < j → x (n - 10 + e) = nI (st_chr 6 (z_ss (z_seal ky.toInt64 x (n - 11)) e))) (hM : hm_W D vwCl (hm_A f s.heap.size) f H) (hS : va_S (hm_A f s.heap.size) s.heap H locs) (hl : lv_has ls 6 [(0, .ref h), (1, .ref t), (2, .int (nI (n - 11))), (3, .long (z_seal ky.toInt64 x (n - 11))), (5, .int (nI j))]), W p l e ({ frames := 5, cells := 0, slots := 0, locals := 107 }) s m ([.ref h, .ref t] : List Value).toArray below meth cd H locs 0 0 Q (F0 m 18 ls []) := by
    intro fu
    induction fu with
    | zero => intro j H locs ls hmu; exact absurd hmu (Nat.not_lt_zero _)
    | succ fu ih =>
      intro j H locs ls hmu hj hok  hM hS hl
      refine lv_iload hx hb d_Wrapping_hasSeal_18 (lv_at hl 4 rfl) ?_
      refine lv_bipush (v := 10) hx hb d_Wrapping_hasSeal_20 (by decide) ?_
      refine lv_icmp_ge (tgt := 52) hx hb d_Wrapping_hasSeal_22 (by decide) (fun h7 => ?_) (fun h7 => ?_)
      · have hge : j = 10 := by have z2 := (nI_leI (a := 10) (b := j) (by decide) (by omega)).mp h7; omega
        refine lv_iconst (v := 1) hx hb d_Wrapping_hasSeal_52 (by decide) ?_
        exact hm_zret X hQ hr hlk hK hM hS rfl d_Wrapping_hasSeal_53 ⟨Or.inl ⟨rfl, fun i h9 => hok i (by omega)⟩, rfl⟩
      · have hlt : j < 10 := by have z := h7; have z2 := mt (nI_leI (a := 10) (b := j) (by decide) (by omega)).mpr z; omega
        refine lv_aload_n hx hb d_Wrapping_hasSeal_25 rfl (lv_at hl 1 rfl) ?_
        refine lv_iload_n hx hb d_Wrapping_hasSeal_26 rfl (lv_at hl 2 rfl) ?_
        refine lv_iconst (v := 1) hx hb d_Wrapping_hasSeal_27 (by decide) ?_
        refine lv_iadd hx hb d_Wrapping_hasSeal_28 ?_
        refine hm_top (nI_1 _) ?_
        refine hm_top (z := nI (n - 10)) (congrArg nI (by omega)) ?_
        refine lv_iload hx hb d_Wrapping_hasSeal_29 (lv_at hl 4 rfl) ?_
        refine lv_iadd hx hb d_Wrapping_hasSeal_31 ?_
        refine hm_top (z := nI (n - 10 + j)) (nI_add _ _) ?_
        refine hm_calli hS hM hA (va_runV (As := [.int (nI (n - 10 + j))]) (rest := []) X (c_Text_codeAt l D k f t a n x (nI (n - 10 + j)) ht ha hn H.size) (hm_cwV hts me_Text_codeAt wl_Wrapping_50 rfl rfl ⟨Nat.le_of_ble_eq_true rfl, Nat.le_of_ble_eq_true rfl⟩) (hm_preV hM hK ht rfl) rfl rfl hl.1 rfl (lv_room (Nat.le_of_ble_eq_true rfl)) d_Wrapping_hasSeal_32 ⟨Nat.le_of_ble_eq_true rfl, Nat.le_of_ble_eq_true rfl⟩) (fun r10 f8 H locs p9 hM hS => ?_)
        obtain ⟨rfl, rfl⟩ := p9
        refine hm_top (z := x (n - 10 + j)) (z_at_in (by omega) (by omega)) ?_
        refine lv_lload_n hx hb d_Wrapping_hasSeal_35 rfl (lv_at hl 3 rfl) ?_
        refine lv_iload hx hb d_Wrapping_hasSeal_36 (lv_at hl 4 rfl) ?_
        refine hm_calli hS hM hA (va_runS (As := [.long (z_seal ky.toInt64 x (n - 11)), .int (nI j)]) (rest := [.int (x (n - 10 + j))]) X (c_sealSign l D k sA sV f (z_seal ky.toInt64 x (n - 11)) j   H.size) (hm_cwS hts me_Wrapping_sealSign wl_Wrapping_42 rfl rfl ⟨Nat.le_of_ble_eq_true rfl, Nat.le_of_ble_eq_true rfl⟩) (hm_preSZ hZ hS hA hM hK) rfl rfl hl.1 rfl (lv_room (Nat.le_of_ble_eq_true rfl)) d_Wrapping_hasSeal_38 ⟨Nat.le_of_ble_eq_true rfl, Nat.le_of_ble_eq_true rfl⟩) (fun r13 f11 H locs p12 hM hS => ?_)
        obtain ⟨rfl, rfl⟩ := p12
        refine lv_icmp_eq (tgt := 46) hx hb d_Wrapping_hasSeal_41 (by decide) (fun h14 => ?_) (fun h14 => ?_)
        · refine lv_iinc (lv' := [(5, .int (nI (j + 1))), (0, .ref h), (1, .ref t), (2, .int (nI (n - 11))), (3, .long (z_seal ky.toInt64 x (n - 11)))]) hx hb d_Wrapping_hasSeal_46 hl (k := 4) rfl (hm_inc _) (by decide) rfl (fun ls hl => ?_)
          refine lv_goto (tgt := 18) hx hb d_Wrapping_hasSeal_49 (by decide) ?_
          exact ih (j + 1)  H locs ls (by omega) (by omega) (z_ext hok h14)  hM hS (lv_sub hl [1, 2, 3, 4, 0] rfl)
        · refine lv_iconst (v := 0) hx hb d_Wrapping_hasSeal_44 (by decide) ?_
          exact hm_zret X hQ hr hlk hK hM hS rfl d_Wrapping_hasSeal_45 ⟨Or.inr ⟨rfl, fun z => h14 (z j hlt)⟩, rfl⟩
  exact loop18 _ 0  H locs ls (Nat.lt_succ_self _) (Nat.zero_le _) (fun e h9 => absurd h9 (Nat.not_lt_zero _))  hM hS (lv_sub hl [3, 4, 2, 1, 0] rfl)
set_option maxHeartbeats 4000000 in
set_option maxRecDepth 100000 in
theorem c_eightBits (l : Launch) (D : va_G) (k : Nat → ClassId) (sA sV : Nat → Nat) (f : hm) (t : Nat) (a : Nat) (n : Nat) (x : Nat → Int32) (ch : Nat → Nat) (i : Nat) (ht : f t = some (.inr (5, [.ref a, .int (nI n)]))) (ha : f a = some (.inl (k 2, 120, .inl x))) (hn : n ≤ 120) (hx9 : ∀ j, j < n → x j = nI (ch j) ∧ ch j < 127) (hs : ∀ j, j < n → ¬ j = n - 11 → ¬ m_sval (x j) < 0) (hi : 8 * i + 8 ≤ 6 * (n - 11)) : hm_MiZ l sA sV D vwCl (tyL k) y_Wrapping_eightBits (Cond.code y_Wrapping_eightBits b_Wrapping_eightBits 4 (some .int) :: TB) ({ frames := 5, cells := 0, slots := 0, locals := 112 }) [.ref t, .int (nI (8 * i))] f (fun (r : Int32) (f1 : hm) => nI (z_eight x i) = r ∧ f = f1) 0 0 := by
  refine hm_enterZ (Qc := fun sz => va_Qi _ (hm_R D vwCl (tyL k) f sz) (hm_A f sz)) (by decide) rfl (Nat.le_of_ble_eq_true rfl) ?_
  intro p e s m below meth cd ls hZ X0 hr hlk hin hK hM hS hA hl Q hQ
  have X : CallFix p m cd b_Wrapping_eightBits 4 s ([.ref t, .int (nI (8 * i))] : List Value).toArray TB R_Wrapping := ⟨X0.1, X0.2.1, X0.2.2.1, X0.2.2.2.1, fun w h => X0.2.2.2.2 w (List.mem_cons_of_mem _ h)⟩
  have hx := X.1; have hb := X.2.1; have hml := X.2.2.1; have hown := X.2.2.2.1; have hts := X.2.2.2.2
  have hl : lv_has ls 4 [(0, .ref t), (1, .int (nI (8 * i)))] := hl
  refine lv_aload_n hx hb d_Wrapping_eightBits_0 rfl (lv_at hl 0 rfl) ?_
  refine lv_iload_n hx hb d_Wrapping_eightBits_1 rfl (lv_at hl 1 rfl) ?_
  refine lv_bipush (v := 6) hx hb d_Wrapping_eightBits_2 (by decide) ?_
  refine lv_idiv hx hb d_Wrapping_eightBits_4 (by decide) ?_
  refine hm_top (z := nI (8 * i / 6)) (pk_div (d := 6) (by omega) (by decide) (by decide)) ?_
  refine hm_calli hS hM hA (va_runS (As := [.ref t, .int (nI (8 * i / 6))]) (rest := []) X (c_signValue l D k sA sV f t a n x ch (8 * i / 6) ht ha hn hx9 (by omega) s.heap.size) (hm_cwS hts me_Wrapping_signValue wl_Wrapping_54 rfl rfl ⟨Nat.le_of_ble_eq_true rfl, Nat.le_of_ble_eq_true rfl⟩) (hm_preSZ hZ hS hA hM hK) rfl rfl hl.1 rfl (lv_room (Nat.le_of_ble_eq_true rfl)) d_Wrapping_eightBits_5 ⟨Nat.le_of_ble_eq_true rfl, Nat.le_of_ble_eq_true rfl⟩) (fun r3 f1 H locs p2 hM hS => ?_)
  obtain ⟨rfl, rfl⟩ := p2
  have hq1 := z_sg1_eq (ch (8 * i / 6)) (by have := (hx9 (8 * i / 6) (by omega)).2; omega) (by rw [← (hx9 (8 * i / 6) (by omega)).1]; exact hs (8 * i / 6) (by omega) (by omega))
  rw [← (hx9 (8 * i / 6) (by omega)).1] at hq1
  refine hm_top (z := nI (z_sg1 (x (8 * i / 6)))) hq1.1 ?_
  refine lv_istore_n (lv' := [(2, .int (nI (z_sg1 (x (8 * i / 6))))), (0, .ref t), (1, .int (nI (8 * i)))]) hx hb d_Wrapping_eightBits_8 rfl hl (by decide) rfl (fun ls hl => ?_)
  refine lv_aload_n hx hb d_Wrapping_eightBits_9 rfl (lv_at hl 1 rfl) ?_
  refine lv_iload_n hx hb d_Wrapping_eightBits_10 rfl (lv_at hl 2 rfl) ?_
  refine lv_bipush (v := 6) hx hb d_Wrapping_eightBits_11 (by decide) ?_
  refine lv_idiv hx hb d_Wrapping_eightBits_13 (by decide) ?_
  refine hm_top (z := nI (8 * i / 6)) (pk_div (d := 6) (by omega) (by decide) (by decide)) ?_
  refine lv_iconst (v := 1) hx hb d_Wrapping_eightBits_14 (by decide) ?_
  refine lv_iadd hx hb d_Wrapping_eightBits_15 ?_
  refine hm_top (nI_1 _) ?_
  refine hm_calli hS hM hA (va_runS (As := [.ref t, .int (nI ((8 * i / 6) + 1))]) (rest := []) X (c_signValue l D k sA sV f t a n x ch ((8 * i / 6) + 1) ht ha hn hx9 (by omega) H.size) (hm_cwS hts me_Wrapping_signValue wl_Wrapping_54 rfl rfl ⟨Nat.le_of_ble_eq_true rfl, Nat.le_of_ble_eq_true rfl⟩) (hm_preSZ hZ hS hA hM hK) rfl rfl hl.1 rfl (lv_room (Nat.le_of_ble_eq_true rfl)) d_Wrapping_eightBits_16 ⟨Nat.le_of_ble_eq_true rfl, Nat.le_of_ble_eq_true rfl⟩) (fun r6 f4 H locs p5 hM hS => ?_)
  obtain ⟨rfl, rfl⟩ := p5
  have hq2 := z_sg1_eq (ch (8 * i / 6 + 1)) (by have := (hx9 (8 * i / 6 + 1) (by omega)).2; omega) (by rw [← (hx9 (8 * i / 6 + 1) (by omega)).1]; exact hs (8 * i / 6 + 1) (by omega) (by omega))
  rw [← (hx9 (8 * i / 6 + 1) (by omega)).1] at hq2
  refine hm_top (z := nI (z_sg1 (x (8 * i / 6 + 1)))) hq2.1 ?_
  refine lv_istore_n (lv' := [(3, .int (nI (z_sg1 (x (8 * i / 6 + 1))))), (2, .int (nI (z_sg1 (x (8 * i / 6))))), (0, .ref t), (1, .int (nI (8 * i)))]) hx hb d_Wrapping_eightBits_19 rfl hl (by decide) rfl (fun ls hl => ?_)
  refine lv_iload_n hx hb d_Wrapping_eightBits_20 rfl (lv_at hl 1 rfl) ?_
  refine lv_bipush (v := 6) hx hb d_Wrapping_eightBits_21 (by decide) ?_
  refine lv_ishl hx hb d_Wrapping_eightBits_23 ?_
  refine lv_iload_n hx hb d_Wrapping_eightBits_24 rfl (lv_at hl 0 rfl) ?_
  refine lv_ior hx hb d_Wrapping_eightBits_25 ?_
  refine lv_iconst (v := 4) hx hb d_Wrapping_eightBits_26 (by decide) ?_
  refine lv_iload_n hx hb d_Wrapping_eightBits_27 rfl (lv_at hl 3 rfl) ?_
  refine lv_bipush (v := 6) hx hb d_Wrapping_eightBits_28 (by decide) ?_
  refine lv_irem hx hb d_Wrapping_eightBits_30 (by decide) ?_
  refine hm_top (z := nI (8 * i % 6)) (pk_rem (d := 6) (by omega) (by decide) (by decide)) ?_
  refine lv_isub hx hb d_Wrapping_eightBits_31 ?_
  refine lv_ishr hx hb d_Wrapping_eightBits_32 ?_
  refine lv_sipush (v := 255) hx hb d_Wrapping_eightBits_33 (by decide) ?_
  refine lv_iand hx hb d_Wrapping_eightBits_36 ?_
  refine hm_top (z := nI (z_eight x i)) (z_eight_eq hq1.2.1 hq2.2.1 (by omega)) ?_
  exact hm_iret X hQ hr hlk hK hM hS d_Wrapping_eightBits_37 ⟨rfl, rfl⟩
set_option maxHeartbeats 4000000 in
set_option maxRecDepth 100000 in
theorem c_unwrapInto (l : Launch) (D : va_G) (k : Nat → ClassId) (sA sV : Nat → Nat) (f : hm) (h : Nat) (t : Nat) (a : Nat) (n : Nat) (x : Nat → Int32) (ch : Nat → Nat) (t2 : Nat) (a2 : Nat) (n2 : Int32) (y : Nat → Int32) (ht : f t = some (.inr (5, [.ref a, .int (nI n)]))) (ha : f a = some (.inl (k 2, 120, .inl x))) (ht2 : f t2 = some (.inr (5, [.ref a2, .int n2]))) (ha2 : f a2 = some (.inl (k 2, 120, .inl y))) (hn : n ≤ 120) (hx9 : ∀ j, j < n → x j = nI (ch j) ∧ ch j < 127) (hs : ∀ j, j < n → ¬ j = n - 11 → ¬ m_sval (x j) < 0) (hn11 : 11 ≤ n) (htt : t ≠ t2) (haa : a ≠ a2) : hm_MvZ l sA sV D vwCl (tyL k) y_Wrapping_unwrapInto (Cond.code y_Wrapping_unwrapInto b_Wrapping_unwrapInto 5 none :: TB) ({ frames := 6, cells := 0, slots := 0, locals := 135 }) [.ref h, .ref t, .ref t2] f (fun (f1 : hm) => ∃ (y1 : Nat → Int32), (∀ e, e < (n - 11) * 6 / 8 → y1 e = nI (z_eight x e)) ∧ f1 t2 = some (.inr (5, [.ref a2, .int (nI ((n - 11) * 6 / 8))])) ∧ f1 a2 = some (.inl (k 2, 120, .inl y1)) ∧ ∀ (zq : Nat) (zx : va_E), zq ≠ t2 → zq ≠ a2 → f zq = some zx → f1 zq = some zx) 0 0 := by
  refine hm_enterZ (Qc := fun sz => va_Qv _ (hm_R D vwCl (tyL k) f sz) (hm_A f sz)) (by decide) rfl (Nat.le_of_ble_eq_true rfl) ?_
  intro p e s m below meth cd ls hZ X0 hr hlk hin hK hM hS hA hl Q hQ
  have X : CallFix p m cd b_Wrapping_unwrapInto 5 s ([.ref h, .ref t, .ref t2] : List Value).toArray TB R_Wrapping := ⟨X0.1, X0.2.1, X0.2.2.1, X0.2.2.2.1, fun w h => X0.2.2.2.2 w (List.mem_cons_of_mem _ h)⟩
  have hx := X.1; have hb := X.2.1; have hml := X.2.2.1; have hown := X.2.2.2.1; have hts := X.2.2.2.2
  have hl : lv_has ls 5 [(0, .ref h), (1, .ref t), (2, .ref t2)] := hl
  refine lv_aload_n hx hb d_Wrapping_unwrapInto_0 rfl (lv_at hl 1 rfl) ?_
  refine hm_calli hS hM hA (va_runV (As := []) (rest := []) X (c_Text_size l D k f t a (nI n) ht  s.heap.size) (hm_cwV hts me_Text_size wl_Wrapping_46 rfl rfl ⟨Nat.le_of_ble_eq_true rfl, Nat.le_of_ble_eq_true rfl⟩) (hm_preV hM hK ht rfl) rfl rfl hl.1 rfl (lv_room (Nat.le_of_ble_eq_true rfl)) d_Wrapping_unwrapInto_1 ⟨Nat.le_of_ble_eq_true rfl, Nat.le_of_ble_eq_true rfl⟩) (fun r3 f1 H locs p2 hM hS => ?_)
  obtain ⟨rfl, rfl⟩ := p2
  refine lv_bipush (v := 11) hx hb d_Wrapping_unwrapInto_4 (by decide) ?_
  refine lv_isub hx hb d_Wrapping_unwrapInto_6 ?_
  refine hm_top (z := nI (n - 11)) (pk_sub (b := 11) hn11) ?_
  refine lv_bipush (v := 6) hx hb d_Wrapping_unwrapInto_7 (by decide) ?_
  refine lv_imul hx hb d_Wrapping_unwrapInto_9 ?_
  refine hm_top (z := nI ((n - 11) * 6)) (pk_mul _ 6) ?_
  refine lv_bipush (v := 8) hx hb d_Wrapping_unwrapInto_10 (by decide) ?_
  refine lv_idiv hx hb d_Wrapping_unwrapInto_12 (by decide) ?_
  refine hm_top (z := nI ((n - 11) * 6 / 8)) (pk_div (d := 8) (by omega) (by decide) (by decide)) ?_
  refine lv_istore_n (lv' := [(3, .int (nI ((n - 11) * 6 / 8))), (0, .ref h), (1, .ref t), (2, .ref t2)]) hx hb d_Wrapping_unwrapInto_13 rfl hl (by decide) rfl (fun ls hl => ?_)
  refine lv_aload_n hx hb d_Wrapping_unwrapInto_14 rfl (lv_at hl 3 rfl) ?_
  refine hm_callv hS hM hA (va_runV (As := []) (rest := []) X (c_Text_clear l D k f t2 a2 n2 ht2  H.size) (hm_cwV hts me_Text_clear wl_Wrapping_17 rfl rfl ⟨Nat.le_of_ble_eq_true rfl, Nat.le_of_ble_eq_true rfl⟩) (hm_preV hM hK ht2 rfl) rfl rfl hl.1 rfl (lv_room (Nat.le_of_ble_eq_true rfl)) d_Wrapping_unwrapInto_15 ⟨Nat.le_of_ble_eq_true rfl, Nat.le_of_ble_eq_true rfl⟩) (fun f4 H locs p5 hM hS => ?_)
  obtain ⟨g6, hfr7⟩ := p5
  refine lv_iconst (v := 0) hx hb d_Wrapping_unwrapInto_18 (by decide) ?_
  refine lv_istore (lv' := [(4, .int 0), (3, .int (nI ((n - 11) * 6 / 8))), (0, .ref h), (1, .ref t), (2, .ref t2)]) hx hb d_Wrapping_unwrapInto_19 hl (by decide) rfl (fun ls hl => ?_)
  have g8 : f4 t = some (.inr (5, [.ref a, .int (nI n)])) := hfr7 _ _ htt ht
  have g9 : f4 a = some (.inl (k 2, 120, .inl x)) := hfr7 _ _ ((hm_neA ht2 ha).symm) ha
  have g10 : f4 a2 = some (.inl (k 2, 120, .inl y)) := hfr7 _ _ ((hm_neA ht2 ha2).symm) ha2
  have loop21 : ∀ (fu : Nat) (j : Nat) (y1 : Nat → Int32) (fL : hm) (H : Heap) (locs : List Loc) (ls : Array Slot) (hmu : (n - 11) * 6 / 8 - j < fu) (hj : j ≤ (n - 11) * 6 / 8) (hy1 : ∀ e, e < j → y1 e = nI (z_eight x e)) (ht : fL t = some (.inr (5, [.ref a, .int (nI n)]))) (ha : fL a = some (.inl (k 2, 120, .inl x))) (ht2 : fL t2 = some (.inr (5, [.ref a2, .int (nI j)]))) (ha2 : fL a2 = some (.inl (k 2, 120, .inl y1))) (hfr : ∀ (q : Nat) (x : va_E), q ≠ t2 → q ≠ a2 → f q = some x → fL q = some x) (hM : hm_W D vwCl (hm_A f s.heap.size) fL H) (hS : va_S (hm_A f s.heap.size) s.heap H locs) (hl : lv_has ls 5 [(0, .ref h), (1, .ref t), (2, .ref t2), (3, .int (nI ((n - 11) * 6 / 8))), (4, .int (nI j))]), W p l e ({ frames := 6, cells := 0, slots := 0, locals := 135 }) s m ([.ref h, .ref t, .ref t2] : List Value).toArray below meth cd H locs 0 0 Q (F0 m 21 ls []) := by
    intro fu
    induction fu with
    | zero => intro j y1 fL H locs ls hmu; exact absurd hmu (Nat.not_lt_zero _)
    | succ fu ih =>
      intro j y1 fL H locs ls hmu hj hy1 ht ha ht2 ha2 hfr hM hS hl
      refine lv_iload hx hb d_Wrapping_unwrapInto_21 (lv_at hl 4 rfl) ?_
      refine lv_iload_n hx hb d_Wrapping_unwrapInto_23 rfl (lv_at hl 3 rfl) ?_
      refine lv_icmp_ge (tgt := 48) hx hb d_Wrapping_unwrapInto_24 (by decide) (fun h11 => ?_) (fun h11 => ?_)
      · have hge : j = (n - 11) * 6 / 8 := by have z := (nI_leI (a := (n - 11) * 6 / 8) (b := j) (by omega) (by omega)).mp h11; omega
        exact hm_vret X hQ hr hlk hK hM hS d_Wrapping_unwrapInto_48 ⟨y1, fun e h9 => hy1 e (by omega), hge ▸ ht2, ha2, hfr⟩
      · have hlt : j < (n - 11) * 6 / 8 := by have z := mt (nI_leI (a := (n - 11) * 6 / 8) (b := j) (by omega) (by omega)).mpr h11; omega
        refine lv_aload_n hx hb d_Wrapping_unwrapInto_27 rfl (lv_at hl 2 rfl) ?_
        refine lv_aload_n hx hb d_Wrapping_unwrapInto_28 rfl (lv_at hl 1 rfl) ?_
        refine lv_bipush (v := 8) hx hb d_Wrapping_unwrapInto_29 (by decide) ?_
        refine lv_iload hx hb d_Wrapping_unwrapInto_31 (lv_at hl 4 rfl) ?_
        refine lv_imul hx hb d_Wrapping_unwrapInto_33 ?_
        refine hm_top (z := nI (8 * j)) (pk_mul 8 j) ?_
        refine hm_calli hS hM hA (va_runS (As := [.ref t, .int (nI (8 * j))]) (rest := [.ref t2]) X (c_eightBits l D k sA sV fL t a n x ch j ht ha hn hx9 hs (by omega) H.size) (hm_cwS hts me_Wrapping_eightBits wl_Wrapping_57 rfl rfl ⟨Nat.le_of_ble_eq_true rfl, Nat.le_of_ble_eq_true rfl⟩) (hm_preSZ hZ hS hA hM hK) rfl rfl hl.1 rfl (lv_room (Nat.le_of_ble_eq_true rfl)) d_Wrapping_unwrapInto_34 ⟨Nat.le_of_ble_eq_true rfl, Nat.le_of_ble_eq_true rfl⟩) (fun r14 f12 H locs p13 hM hS => ?_)
        obtain ⟨rfl, rfl⟩ := p13
        refine lv_i2c hx hb d_Wrapping_unwrapInto_37 rfl ?_
        refine hm_top (z := nI (z_eight x j)) (z_c16 (by have := z_eight_lt x j; omega)) ?_
        refine hm_calli hS hM hA (va_runV (As := [.int (nI (z_eight x j))]) (rest := []) X (c_Text_add l D k fL t2 a2 j y1 (nI (z_eight x j)) ht2 ha2 (by omega) (z_nar (by have := z_eight_lt x j; omega)) H.size) (hm_cwV hts me_Text_add wl_Wrapping_34 rfl rfl ⟨Nat.le_of_ble_eq_true rfl, Nat.le_of_ble_eq_true rfl⟩) (hm_preV hM hK ht2 rfl) rfl rfl hl.1 rfl (lv_room (Nat.le_of_ble_eq_true rfl)) d_Wrapping_unwrapInto_38 ⟨Nat.le_of_ble_eq_true rfl, Nat.le_of_ble_eq_true rfl⟩) (fun r17 f15 H locs p16 hM hS => ?_)
        obtain ⟨rfl, g18, g19, hfr20⟩ := p16
        refine lv_pop hx hb d_Wrapping_unwrapInto_41 rfl ?_
        refine lv_iinc (lv' := [(4, .int (nI (j + 1))), (0, .ref h), (1, .ref t), (2, .ref t2), (3, .int (nI ((n - 11) * 6 / 8)))]) hx hb d_Wrapping_unwrapInto_42 hl (k := 4) rfl (hm_inc _) (by decide) rfl (fun ls hl => ?_)
        refine lv_goto (tgt := 21) hx hb d_Wrapping_unwrapInto_45 (by decide) ?_
        have g21 : f15 t = some (.inr (5, [.ref a, .int (nI n)])) := hfr20 _ _ htt (hm_neA ht ha2) ht
        have g22 : f15 a = some (.inl (k 2, 120, .inl x)) := hfr20 _ _ ((hm_neA ht2 ha).symm) haa ha
        exact ih (j + 1) (upd y1 j (nI (z_eight x j))) f15 H locs ls (by omega) (by omega) (fun e h9 => by by_cases e9 : e = j <;> simp [upd, e9]; exact hy1 e (by omega)) g21 g22 g18 g19 (fun zq zx n0 n1 hq => by have t0 := hfr _ _ n0 n1 hq; have t1 := hfr20 _ _ n0 n1 t0; exact t1) hM hS (lv_sub hl [1, 2, 3, 4, 0] rfl)
  exact loop21 _ 0 y f4 H locs ls (Nat.lt_succ_self _) (Nat.zero_le _) (fun e h9 => absurd h9 (Nat.not_lt_zero _)) g8 g9 g6 g10 (fun zq zx n0 n1 hq => by have t0 := hq; have t1 := hfr7 _ _ n0 t0; exact t1) hM hS (lv_sub hl [2, 3, 4, 1, 0] rfl)
