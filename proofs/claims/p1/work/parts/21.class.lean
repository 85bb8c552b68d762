theorem d_GrantServer_client_0 : decode b_GrantServer_client 0 = .ok (.aload_n 0, 1) := by decide +kernel
theorem d_GrantServer_client_1 : decode b_GrantServer_client 1 = .ok (.getfield 50, 3) := by decide +kernel
theorem d_GrantServer_client_4 : decode b_GrantServer_client 4 = .ok (.iconst 4, 1) := by decide +kernel
theorem d_GrantServer_client_5 : decode b_GrantServer_client 5 = .ok (.if_icmp .ge 10, 3) := by decide +kernel
theorem d_GrantServer_client_8 : decode b_GrantServer_client 8 = .ok (.iload_n 3, 1) := by decide +kernel
theorem d_GrantServer_client_9 : decode b_GrantServer_client 9 = .ok (.invokestatic 83, 3) := by decide +kernel
theorem d_GrantServer_client_12 : decode b_GrantServer_client 12 = .ok (.ifCond .ne 5, 3) := by decide +kernel
theorem d_GrantServer_client_15 : decode b_GrantServer_client 15 = .ok (.iconst (-1), 1) := by decide +kernel
theorem d_GrantServer_client_16 : decode b_GrantServer_client 16 = .ok (.ireturn, 1) := by decide +kernel
theorem d_GrantServer_client_17 : decode b_GrantServer_client 17 = .ok (.aload_n 0, 1) := by decide +kernel
theorem d_GrantServer_client_18 : decode b_GrantServer_client 18 = .ok (.getfield 11, 3) := by decide +kernel
theorem d_GrantServer_client_21 : decode b_GrantServer_client 21 = .ok (.aload_n 0, 1) := by decide +kernel
theorem d_GrantServer_client_22 : decode b_GrantServer_client 22 = .ok (.getfield 50, 3) := by decide +kernel
theorem d_GrantServer_client_25 : decode b_GrantServer_client 25 = .ok (.new 9, 3) := by decide +kernel
theorem d_GrantServer_client_28 : decode b_GrantServer_client 28 = .ok (.dup, 1) := by decide +kernel
theorem d_GrantServer_client_29 : decode b_GrantServer_client 29 = .ok (.iload_n 1, 1) := by decide +kernel
theorem d_GrantServer_client_30 : decode b_GrantServer_client 30 = .ok (.iload_n 2, 1) := by decide +kernel
theorem d_GrantServer_client_31 : decode b_GrantServer_client 31 = .ok (.iload_n 3, 1) := by decide +kernel
theorem d_GrantServer_client_32 : decode b_GrantServer_client 32 = .ok (.invokespecial 87, 3) := by decide +kernel
theorem d_GrantServer_client_35 : decode b_GrantServer_client 35 = .ok (.aastore, 1) := by decide +kernel
theorem d_GrantServer_client_36 : decode b_GrantServer_client 36 = .ok (.aload_n 0, 1) := by decide +kernel
theorem d_GrantServer_client_37 : decode b_GrantServer_client 37 = .ok (.dup, 1) := by decide +kernel
theorem d_GrantServer_client_38 : decode b_GrantServer_client 38 = .ok (.getfield 50, 3) := by decide +kernel
theorem d_GrantServer_client_41 : decode b_GrantServer_client 41 = .ok (.iconst 1, 1) := by decide +kernel
theorem d_GrantServer_client_42 : decode b_GrantServer_client 42 = .ok (.iadd, 1) := by decide +kernel
theorem d_GrantServer_client_43 : decode b_GrantServer_client 43 = .ok (.putfield 50, 3) := by decide +kernel
theorem d_GrantServer_client_46 : decode b_GrantServer_client 46 = .ok (.aload_n 0, 1) := by decide +kernel
theorem d_GrantServer_client_47 : decode b_GrantServer_client 47 = .ok (.getfield 50, 3) := by decide +kernel
theorem d_GrantServer_client_50 : decode b_GrantServer_client 50 = .ok (.iconst 1, 1) := by decide +kernel
theorem d_GrantServer_client_51 : decode b_GrantServer_client 51 = .ok (.isub, 1) := by decide +kernel
theorem d_GrantServer_client_52 : decode b_GrantServer_client 52 = .ok (.ireturn, 1) := by decide +kernel
theorem d_GrantServer_login_0 : decode b_GrantServer_login 0 = .ok (.aload_n 0, 1) := by decide +kernel
theorem d_GrantServer_login_1 : decode b_GrantServer_login 1 = .ok (.iload_n 1, 1) := by decide +kernel
theorem d_GrantServer_login_2 : decode b_GrantServer_login 2 = .ok (.invokevirtual 90, 3) := by decide +kernel
theorem d_GrantServer_login_5 : decode b_GrantServer_login 5 = .ok (.astore_n 3, 1) := by decide +kernel
theorem d_GrantServer_login_6 : decode b_GrantServer_login 6 = .ok (.aload_n 3, 1) := by decide +kernel
theorem d_GrantServer_login_7 : decode b_GrantServer_login 7 = .ok (.ifnull 15, 3) := by decide +kernel
theorem d_GrantServer_login_10 : decode b_GrantServer_login 10 = .ok (.aload_n 3, 1) := by decide +kernel
theorem d_GrantServer_login_11 : decode b_GrantServer_login 11 = .ok (.getfield 94, 3) := by decide +kernel
theorem d_GrantServer_login_14 : decode b_GrantServer_login 14 = .ok (.iload_n 2, 1) := by decide +kernel
theorem d_GrantServer_login_15 : decode b_GrantServer_login 15 = .ok (.if_icmp .ne 7, 3) := by decide +kernel
theorem d_GrantServer_login_18 : decode b_GrantServer_login 18 = .ok (.iconst 1, 1) := by decide +kernel
theorem d_GrantServer_login_19 : decode b_GrantServer_login 19 = .ok (.goto 4, 3) := by decide +kernel
theorem d_GrantServer_login_22 : decode b_GrantServer_login 22 = .ok (.iconst 0, 1) := by decide +kernel
theorem d_GrantServer_login_23 : decode b_GrantServer_login 23 = .ok (.istore 4, 2) := by decide +kernel
theorem d_GrantServer_login_25 : decode b_GrantServer_login 25 = .ok (.aload_n 0, 1) := by decide +kernel
theorem d_GrantServer_login_26 : decode b_GrantServer_login 26 = .ok (.iload 4, 2) := by decide +kernel
theorem d_GrantServer_login_28 : decode b_GrantServer_login 28 = .ok (.ifCond .eq 7, 3) := by decide +kernel
theorem d_GrantServer_login_31 : decode b_GrantServer_login 31 = .ok (.iload_n 1, 1) := by decide +kernel
theorem d_GrantServer_login_32 : decode b_GrantServer_login 32 = .ok (.goto 4, 3) := by decide +kernel
theorem d_GrantServer_login_35 : decode b_GrantServer_login 35 = .ok (.iconst (-1), 1) := by decide +kernel
theorem d_GrantServer_login_36 : decode b_GrantServer_login 36 = .ok (.putfield 54, 3) := by decide +kernel
theorem d_GrantServer_login_39 : decode b_GrantServer_login 39 = .ok (.iload 4, 2) := by decide +kernel
theorem d_GrantServer_login_41 : decode b_GrantServer_login 41 = .ok (.ireturn, 1) := by decide +kernel
theorem d_GrantServer_key_0 : decode b_GrantServer_key 0 = .ok (.iload_n 1, 1) := by decide +kernel
theorem d_GrantServer_key_1 : decode b_GrantServer_key 1 = .ok (.invokestatic 203, 3) := by decide +kernel
theorem d_GrantServer_key_4 : decode b_GrantServer_key 4 = .ok (.ifCond .eq 18, 3) := by decide +kernel
theorem d_GrantServer_key_7 : decode b_GrantServer_key 7 = .ok (.aload_n 0, 1) := by decide +kernel
theorem d_GrantServer_key_8 : decode b_GrantServer_key 8 = .ok (.getfield 33, 3) := by decide +kernel
theorem d_GrantServer_key_11 : decode b_GrantServer_key 11 = .ok (.iload_n 1, 1) := by decide +kernel
theorem d_GrantServer_key_12 : decode b_GrantServer_key 12 = .ok (.invokevirtual 207, 3) := by decide +kernel
theorem d_GrantServer_key_15 : decode b_GrantServer_key 15 = .ok (.ifCond .eq 7, 3) := by decide +kernel
theorem d_GrantServer_key_18 : decode b_GrantServer_key 18 = .ok (.iconst 1, 1) := by decide +kernel
theorem d_GrantServer_key_19 : decode b_GrantServer_key 19 = .ok (.goto 4, 3) := by decide +kernel
theorem d_GrantServer_key_22 : decode b_GrantServer_key 22 = .ok (.iconst 0, 1) := by decide +kernel
theorem d_GrantServer_key_23 : decode b_GrantServer_key 23 = .ok (.ireturn, 1) := by decide +kernel
theorem d_GrantServer_alter_0 : decode b_GrantServer_alter 0 = .ok (.iload_n 2, 1) := by decide +kernel
theorem d_GrantServer_alter_1 : decode b_GrantServer_alter 1 = .ok (.invokestatic 203, 3) := by decide +kernel
theorem d_GrantServer_alter_4 : decode b_GrantServer_alter 4 = .ok (.ifCond .eq 19, 3) := by decide +kernel
theorem d_GrantServer_alter_7 : decode b_GrantServer_alter 7 = .ok (.aload_n 0, 1) := by decide +kernel
theorem d_GrantServer_alter_8 : decode b_GrantServer_alter 8 = .ok (.getfield 33, 3) := by decide +kernel
theorem d_GrantServer_alter_11 : decode b_GrantServer_alter 11 = .ok (.iload_n 1, 1) := by decide +kernel
theorem d_GrantServer_alter_12 : decode b_GrantServer_alter 12 = .ok (.iload_n 2, 1) := by decide +kernel
theorem d_GrantServer_alter_13 : decode b_GrantServer_alter 13 = .ok (.invokevirtual 210, 3) := by decide +kernel
theorem d_GrantServer_alter_16 : decode b_GrantServer_alter 16 = .ok (.ifCond .eq 7, 3) := by decide +kernel
theorem d_GrantServer_alter_19 : decode b_GrantServer_alter 19 = .ok (.iconst 1, 1) := by decide +kernel
theorem d_GrantServer_alter_20 : decode b_GrantServer_alter 20 = .ok (.goto 4, 3) := by decide +kernel
theorem d_GrantServer_alter_23 : decode b_GrantServer_alter 23 = .ok (.iconst 0, 1) := by decide +kernel
theorem d_GrantServer_alter_24 : decode b_GrantServer_alter 24 = .ok (.ireturn, 1) := by decide +kernel
theorem d_GrantServer_letter_0 : decode b_GrantServer_letter 0 = .ok (.iload_n 1, 1) := by decide +kernel
theorem d_GrantServer_letter_1 : decode b_GrantServer_letter 1 = .ok (.ifCond .eq 14, 3) := by decide +kernel
theorem d_GrantServer_letter_4 : decode b_GrantServer_letter 4 = .ok (.aload_n 0, 1) := by decide +kernel
theorem d_GrantServer_letter_5 : decode b_GrantServer_letter 5 = .ok (.getfield 37, 3) := by decide +kernel
theorem d_GrantServer_letter_8 : decode b_GrantServer_letter 8 = .ok (.iload_n 2, 1) := by decide +kernel
theorem d_GrantServer_letter_9 : decode b_GrantServer_letter 9 = .ok (.invokevirtual 224, 3) := by decide +kernel
theorem d_GrantServer_letter_12 : decode b_GrantServer_letter 12 = .ok (.goto 11, 3) := by decide +kernel
theorem d_GrantServer_letter_15 : decode b_GrantServer_letter 15 = .ok (.aload_n 0, 1) := by decide +kernel
theorem d_GrantServer_letter_16 : decode b_GrantServer_letter 16 = .ok (.getfield 33, 3) := by decide +kernel
theorem d_GrantServer_letter_19 : decode b_GrantServer_letter 19 = .ok (.iload_n 2, 1) := by decide +kernel
theorem d_GrantServer_letter_20 : decode b_GrantServer_letter 20 = .ok (.invokevirtual 224, 3) := by decide +kernel
theorem d_GrantServer_letter_23 : decode b_GrantServer_letter 23 = .ok (.ireturn, 1) := by decide +kernel
theorem d_GrantServer_tick_0 : decode b_GrantServer_tick 0 = .ok (.iload_n 1, 1) := by decide +kernel
theorem d_GrantServer_tick_1 : decode b_GrantServer_tick 1 = .ok (.ifCond .lt 10, 3) := by decide +kernel
theorem d_GrantServer_tick_4 : decode b_GrantServer_tick 4 = .ok (.iload_n 1, 1) := by decide +kernel
theorem d_GrantServer_tick_5 : decode b_GrantServer_tick 5 = .ok (.sipush 10000, 3) := by decide +kernel
theorem d_GrantServer_tick_8 : decode b_GrantServer_tick 8 = .ok (.if_icmp .le 5, 3) := by decide +kernel
theorem d_GrantServer_tick_11 : decode b_GrantServer_tick 11 = .ok (.iconst 0, 1) := by decide +kernel
theorem d_GrantServer_tick_12 : decode b_GrantServer_tick 12 = .ok (.ireturn, 1) := by decide +kernel
theorem d_GrantServer_tick_13 : decode b_GrantServer_tick 13 = .ok (.aload_n 0, 1) := by decide +kernel
theorem d_GrantServer_tick_14 : decode b_GrantServer_tick 14 = .ok (.dup, 1) := by decide +kernel
theorem d_GrantServer_tick_15 : decode b_GrantServer_tick 15 = .ok (.getfield 60, 3) := by decide +kernel
theorem d_GrantServer_tick_18 : decode b_GrantServer_tick 18 = .ok (.iload_n 1, 1) := by decide +kernel
theorem d_GrantServer_tick_19 : decode b_GrantServer_tick 19 = .ok (.iadd, 1) := by decide +kernel
theorem d_GrantServer_tick_20 : decode b_GrantServer_tick 20 = .ok (.putfield 60, 3) := by decide +kernel
theorem d_GrantServer_tick_23 : decode b_GrantServer_tick 23 = .ok (.iconst 1, 1) := by decide +kernel
theorem d_GrantServer_tick_24 : decode b_GrantServer_tick 24 = .ok (.ireturn, 1) := by decide +kernel
theorem d_GrantServer_clientWith_0 : decode b_GrantServer_clientWith 0 = .ok (.iload_n 1, 1) := by decide +kernel
theorem d_GrantServer_clientWith_1 : decode b_GrantServer_clientWith 1 = .ok (.ifCond .lt 20, 3) := by decide +kernel
theorem d_GrantServer_clientWith_4 : decode b_GrantServer_clientWith 4 = .ok (.iload_n 1, 1) := by decide +kernel
theorem d_GrantServer_clientWith_5 : decode b_GrantServer_clientWith 5 = .ok (.aload_n 0, 1) := by decide +kernel
theorem d_GrantServer_clientWith_6 : decode b_GrantServer_clientWith 6 = .ok (.getfield 50, 3) := by decide +kernel
theorem d_GrantServer_clientWith_9 : decode b_GrantServer_clientWith 9 = .ok (.if_icmp .ge 12, 3) := by decide +kernel
theorem d_GrantServer_clientWith_12 : decode b_GrantServer_clientWith 12 = .ok (.aload_n 0, 1) := by decide +kernel
theorem d_GrantServer_clientWith_13 : decode b_GrantServer_clientWith 13 = .ok (.getfield 11, 3) := by decide +kernel
theorem d_GrantServer_clientWith_16 : decode b_GrantServer_clientWith 16 = .ok (.iload_n 1, 1) := by decide +kernel
theorem d_GrantServer_clientWith_17 : decode b_GrantServer_clientWith 17 = .ok (.aaload, 1) := by decide +kernel
theorem d_GrantServer_clientWith_18 : decode b_GrantServer_clientWith 18 = .ok (.goto 4, 3) := by decide +kernel
theorem d_GrantServer_clientWith_21 : decode b_GrantServer_clientWith 21 = .ok (.aconst_null, 1) := by decide +kernel
theorem d_GrantServer_clientWith_22 : decode b_GrantServer_clientWith 22 = .ok (.areturn, 1) := by decide +kernel
set_option maxRecDepth 20000 in
theorem fl_GrantServer_11 : hm_fl vwCl TB R_GrantServer 11 0 3 true (.array (.object "GrantServer$Client")) := ⟨_, _, _, _, cl_GrantServer, by decide, (TBm 178 (by decide +kernel) rfl), rfl, rfl⟩
set_option maxRecDepth 20000 in
theorem fl_GrantServer_33 : hm_fl vwCl TB R_GrantServer 33 0 7 true (.object "GrantServer$Text") := ⟨_, _, _, _, cl_GrantServer, by decide, (TBm 182 (by decide +kernel) rfl), rfl, rfl⟩
set_option maxRecDepth 20000 in
theorem fl_GrantServer_37 : hm_fl vwCl TB R_GrantServer 37 0 8 true (.object "GrantServer$Text") := ⟨_, _, _, _, cl_GrantServer, by decide, (TBm 183 (by decide +kernel) rfl), rfl, rfl⟩
set_option maxRecDepth 20000 in
theorem fl_GrantServer_94 : hm_fl vwCl TB R_GrantServer 94 1 0 true .int := ⟨_, _, _, _, cl_Client, by decide, (TBm 237 (by decide +kernel) rfl), rfl, rfl⟩
set_option maxRecDepth 20000 in
theorem me_Client_init : hm_meI y_Client_init b_Client_init 4 3 := ⟨⟨(TBm 234 rfl rfl), (TBm 48 (by decide +kernel) rfl), by decide +kernel⟩, (TBm 233 (by decide +kernel) rfl), rfl⟩
set_option maxRecDepth 20000 in
theorem me_GrantServer_clientWith : hm_meV y_GrantServer_clientWith b_GrantServer_clientWith 2 (some (.object "GrantServer$Client")) 1 := ⟨⟨(TBm 256 rfl rfl), (TBm 40 (by decide +kernel) rfl), by decide +kernel⟩, (TBm 255 (by decide +kernel) rfl), (TBm 0 (by decide +kernel) rfl)⟩
set_option maxRecDepth 20000 in
theorem me_GrantServer_isSomeScopes : hm_meS y_GrantServer_isSomeScopes b_GrantServer_isSomeScopes 1 (some .boolean) 1 := ⟨⟨(TBm 230 rfl rfl), (TBm 40 (by decide +kernel) rfl), by decide +kernel⟩, (TBm 229 (by decide +kernel) rfl)⟩
set_option maxRecDepth 20000 in
theorem me_GrantServer_isWritable : hm_meS y_GrantServer_isWritable b_GrantServer_isWritable 1 (some .boolean) 1 := ⟨⟨(TBm 617 rfl rfl), (TBm 40 (by decide +kernel) rfl), by decide +kernel⟩, (TBm 616 (by decide +kernel) rfl)⟩
set_option maxRecDepth 20000 in
theorem me_Text_add : hm_meV y_Text_add b_Text_add 2 (some .boolean) 1 := ⟨⟨(TBm 401 rfl rfl), (TBm 43 (by decide +kernel) rfl), by decide +kernel⟩, (TBm 399 (by decide +kernel) rfl), (TBm 400 (by decide +kernel) rfl)⟩
set_option maxRecDepth 20000 in
theorem me_Text_codeAt : hm_meV y_Text_codeAt b_Text_codeAt 2 (some .int) 1 := ⟨⟨(TBm 431 rfl rfl), (TBm 43 (by decide +kernel) rfl), by decide +kernel⟩, (TBm 429 (by decide +kernel) rfl), (TBm 430 (by decide +kernel) rfl)⟩
set_option maxRecDepth 20000 in
theorem me_Text_put : hm_meV y_Text_put b_Text_put 3 (some .boolean) 2 := ⟨⟨(TBm 626 rfl rfl), (TBm 43 (by decide +kernel) rfl), by decide +kernel⟩, (TBm 624 (by decide +kernel) rfl), (TBm 625 (by decide +kernel) rfl)⟩
set_option maxRecDepth 20000 in
theorem nw_GrantServer_9 : hm_nw vwCl TB R_GrantServer 9 1 3 [.int 0, .int 0, .int 0] := ⟨_, _, _, cl_Client, (TBm 64 (by decide +kernel) rfl), (TBm 231 (by decide +kernel) rfl), (TBm 48 (by decide +kernel) rfl), by decide +kernel⟩
set_option maxRecDepth 20000 in
theorem wl_GrantServer_203 : Cond.methodLink R_GrantServer 203 y_GrantServer_isWritable ∈ TB := TBm 615 (by decide +kernel) rfl
set_option maxRecDepth 20000 in
theorem wl_GrantServer_207 : Cond.methodLink R_GrantServer 207 y_Text_add ∈ TB := TBm 618 (by decide +kernel) rfl
set_option maxRecDepth 20000 in
theorem wl_GrantServer_210 : Cond.methodLink R_GrantServer 210 y_Text_put ∈ TB := TBm 623 (by decide +kernel) rfl
set_option maxRecDepth 20000 in
theorem wl_GrantServer_224 : Cond.methodLink R_GrantServer 224 y_Text_codeAt ∈ TB := TBm 643 (by decide +kernel) rfl
set_option maxRecDepth 20000 in
theorem wl_GrantServer_83 : Cond.methodLink R_GrantServer 83 y_GrantServer_isSomeScopes ∈ TB := TBm 228 (by decide +kernel) rfl
set_option maxRecDepth 20000 in
theorem wl_GrantServer_87 : Cond.methodLink R_GrantServer 87 y_Client_init ∈ TB := TBm 232 (by decide +kernel) rfl
set_option maxRecDepth 20000 in
theorem wl_GrantServer_90 : Cond.methodLink R_GrantServer 90 y_GrantServer_clientWith ∈ TB := TBm 253 (by decide +kernel) rfl
set_option maxHeartbeats 4000000 in
set_option maxRecDepth 100000 in
theorem c_tick_no (l : Launch) (D : va_G) (k : Nat → ClassId) (f : hm) (h : Nat) (u : Nat → Int32) (ad : Nat → Nat) (x : Int32) (hx9 : x < 0 ∨ 10000 < x) : hm_Mi l D vwCl (tyL k) y_GrantServer_tick (Cond.code y_GrantServer_tick b_GrantServer_tick 2 (some .boolean) :: TB) ({ frames := 0, cells := 0, slots := 0, locals := 0 }) [.ref h, .int x] f (fun (r : Int32) (f1 : hm) => 0 = r ∧ f = f1) 0 0 := by
  refine hm_enter (Qc := fun sz => va_Qi _ (hm_R D vwCl (tyL k) f sz) (hm_A f sz)) (by decide) rfl (Nat.le_of_ble_eq_true rfl) ?_
  intro p e s m below meth cd ls X0 hr hlk hin hK hM hS hA hl Q hQ
  have X : CallFix p m cd b_GrantServer_tick 2 s ([.ref h, .int x] : List Value).toArray TB R_GrantServer := ⟨X0.1, X0.2.1, X0.2.2.1, X0.2.2.2.1, fun w h => X0.2.2.2.2 w (List.mem_cons_of_mem _ h)⟩
  have hx := X.1; have hb := X.2.1; have hml := X.2.2.1; have hown := X.2.2.2.1; have hts := X.2.2.2.2
  have hl : lv_has ls 2 [(0, .ref h), (1, .int x)] := hl
  refine lv_iload_n hx hb d_GrantServer_tick_0 rfl (lv_at hl 1 rfl) ?_
  refine lv_if_lt (tgt := 11) hx hb d_GrantServer_tick_1 (by decide) (fun h1 => ?_) (fun h1 => ?_)
  · refine lv_iconst (v := 0) hx hb d_GrantServer_tick_11 (by decide) ?_
    exact hm_zret X hQ hr hlk hK hM hS rfl d_GrantServer_tick_12 ⟨rfl, rfl⟩
  · refine lv_iload_n hx hb d_GrantServer_tick_4 rfl (lv_at hl 1 rfl) ?_
    refine lv_sipush (v := 10000) hx hb d_GrantServer_tick_5 (by decide) ?_
    refine lv_icmp_le (tgt := 13) hx hb d_GrantServer_tick_8 (by decide) (fun h2 => ?_) (fun h2 => ?_)
    · exact absurd hx9 (by simp [h1, Int32.not_lt.mpr h2])
    · refine lv_iconst (v := 0) hx hb d_GrantServer_tick_11 (by decide) ?_
      exact hm_zret X hQ hr hlk hK hM hS rfl d_GrantServer_tick_12 ⟨rfl, rfl⟩
set_option maxHeartbeats 4000000 in
set_option maxRecDepth 100000 in
theorem c_tick (l : Launch) (D : va_G) (k : Nat → ClassId) (f : hm) (h : Nat) (u : Nat → Int32) (ad : Nat → Nat) (x : Int32) (hh : f h = some (.inr (0, gsV u ad))) (hx8 : ¬ x < 0) (hx9 : ¬ 10000 < x) : hm_Mi l D vwCl (tyL k) y_GrantServer_tick (Cond.code y_GrantServer_tick b_GrantServer_tick 2 (some .boolean) :: TB) ({ frames := 0, cells := 0, slots := 0, locals := 0 }) [.ref h, .int x] f (fun (r : Int32) (f1 : hm) => 1 = r ∧ f1 h = some (.inr (0, gsV (upd u 15 (u 15 + x)) ad)) ∧ ∀ (zq : Nat) (zx : va_E), zq ≠ h → f zq = some zx → f1 zq = some zx) 0 0 := by
  refine hm_enter (Qc := fun sz => va_Qi _ (hm_R D vwCl (tyL k) f sz) (hm_A f sz)) (by decide) rfl (Nat.le_of_ble_eq_true rfl) ?_
  intro p e s m below meth cd ls X0 hr hlk hin hK hM hS hA hl Q hQ
  have X : CallFix p m cd b_GrantServer_tick 2 s ([.ref h, .int x] : List Value).toArray TB R_GrantServer := ⟨X0.1, X0.2.1, X0.2.2.1, X0.2.2.2.1, fun w h => X0.2.2.2.2 w (List.mem_cons_of_mem _ h)⟩
  have hx := X.1; have hb := X.2.1; have hml := X.2.2.1; have hown := X.2.2.2.1; have hts := X.2.2.2.2
  have hl : lv_has ls 2 [(0, .ref h), (1, .int x)] := hl
  refine lv_iload_n hx hb d_GrantServer_tick_0 rfl (lv_at hl 1 rfl) ?_
  refine lv_if_lt (tgt := 11) hx hb d_GrantServer_tick_1 (by decide) (fun h1 => ?_) (fun h1 => ?_)
  · exact absurd h1 hx8
  · refine lv_iload_n hx hb d_GrantServer_tick_4 rfl (lv_at hl 1 rfl) ?_
    refine lv_sipush (v := 10000) hx hb d_GrantServer_tick_5 (by decide) ?_
    refine lv_icmp_le (tgt := 13) hx hb d_GrantServer_tick_8 (by decide) (fun h2 => ?_) (fun h2 => ?_)
    · refine lv_aload_n hx hb d_GrantServer_tick_13 rfl (lv_at hl 0 rfl) ?_
      refine lv_dup hx hb d_GrantServer_tick_14 rfl ?_
      refine hm_get X hK hM hh fl_GrantServer_60 (v := .int (u 15)) rfl d_GrantServer_tick_15 ?_
      refine lv_iload_n hx hb d_GrantServer_tick_18 rfl (lv_at hl 1 rfl) ?_
      refine lv_iadd hx hb d_GrantServer_tick_19 ?_
      refine hm_put X hK hM hS (fs' := gsV (upd u 15 ((u 15) + x)) ad) hh fl_GrantServer_60 rfl rfl (Nat.le_of_ble_eq_true rfl) rfl d_GrantServer_tick_20 (fun f3 H locs e4 hM hS => ?_)
      refine lv_iconst (v := 1) hx hb d_GrantServer_tick_23 (by decide) ?_
      have g5 : f3 h = some (.inr (0, gsV (upd u 15 ((u 15) + x)) ad)) := by rw [e4, hm_up_s]
      exact hm_zret X hQ hr hlk hK hM hS rfl d_GrantServer_tick_24 ⟨rfl, g5, (fun zq zx n0 hq => by have t0 := hq; have t1 := hm_keep e4 n0 t0; exact t1)⟩
    · exact absurd (Int32.not_lt.mp hx9) h2
set_option maxHeartbeats 4000000 in
set_option maxRecDepth 100000 in
theorem c_clientWith_no (l : Launch) (D : va_G) (k : Nat → ClassId) (f : hm) (h : Nat) (u : Nat → Int32) (ad : Nat → Nat) (n : Nat) (x : Int32) (hh : f h = some (.inr (0, gsV u ad))) (hn : u 12 = nI n) (hx9 : x < 0 ∨ nI n ≤ x) : hm_Mq l D vwCl (tyL k) y_GrantServer_clientWith (Cond.code y_GrantServer_clientWith b_GrantServer_clientWith 2 (some (.object "GrantServer$Client")) :: TB) ({ frames := 0, cells := 0, slots := 0, locals := 0 }) [.ref h, .int x] f (fun (r : Option Nat) (f1 : hm) => none = r ∧ f = f1) 0 0 := by
  refine hm_enter (Qc := fun sz => va_Qq _ (hm_R D vwCl (tyL k) f sz) (hm_A f sz)) (by decide) rfl (Nat.le_of_ble_eq_true rfl) ?_
  intro p e s m below meth cd ls X0 hr hlk hin hK hM hS hA hl Q hQ
  have X : CallFix p m cd b_GrantServer_clientWith 2 s ([.ref h, .int x] : List Value).toArray TB R_GrantServer := ⟨X0.1, X0.2.1, X0.2.2.1, X0.2.2.2.1, fun w h => X0.2.2.2.2 w (List.mem_cons_of_mem _ h)⟩
  have hx := X.1; have hb := X.2.1; have hml := X.2.2.1; have hown := X.2.2.2.1; have hts := X.2.2.2.2
  have hl : lv_has ls 2 [(0, .ref h), (1, .int x)] := hl
  refine lv_iload_n hx hb d_GrantServer_clientWith_0 rfl (lv_at hl 1 rfl) ?_
  refine lv_if_lt (tgt := 21) hx hb d_GrantServer_clientWith_1 (by decide) (fun h1 => ?_) (fun h1 => ?_)
  · refine lv_null hx hb d_GrantServer_clientWith_21 ?_
    exact hm_aret X hQ hr (Or.inl ⟨_, rfl⟩) hlk hK hM hS none d_GrantServer_clientWith_22 ⟨rfl, rfl⟩
  · refine lv_iload_n hx hb d_GrantServer_clientWith_4 rfl (lv_at hl 1 rfl) ?_
    refine lv_aload_n hx hb d_GrantServer_clientWith_5 rfl (lv_at hl 0 rfl) ?_
    refine hm_get X hK hM hh fl_GrantServer_50 (v := .int (u 12)) rfl d_GrantServer_clientWith_6 ?_
    refine lv_icmp_ge (tgt := 21) hx hb d_GrantServer_clientWith_9 (by decide) (fun h2 => ?_) (fun h2 => ?_)
    · refine lv_null hx hb d_GrantServer_clientWith_21 ?_
      exact hm_aret X hQ hr (Or.inl ⟨_, rfl⟩) hlk hK hM hS none d_GrantServer_clientWith_22 ⟨rfl, rfl⟩
    · exact absurd (hx9.resolve_left h1) (hn ▸ h2)
set_option maxHeartbeats 4000000 in
set_option maxRecDepth 100000 in
theorem c_clientWith (l : Launch) (D : va_G) (k : Nat → ClassId) (f : hm) (h : Nat) (u : Nat → Int32) (ad : Nat → Nat) (cn : Nat → Option Nat) (n : Nat) (j : Nat) (hh : f h = some (.inr (0, gsV u ad))) (h3 : f (ad 3) = some (.inl (k 4, 4, .inr (.inr (.inr (.inr cn)))))) (hn : u 12 = nI n) (hn4 : n ≤ 4) (hj : j < n) : hm_Mq l D vwCl (tyL k) y_GrantServer_clientWith (Cond.code y_GrantServer_clientWith b_GrantServer_clientWith 2 (some (.object "GrantServer$Client")) :: TB) ({ frames := 0, cells := 0, slots := 0, locals := 0 }) [.ref h, .int (nI j)] f (fun (r : Option Nat) (f1 : hm) => cn j = r ∧ f = f1) 0 0 := by
  refine hm_enter (Qc := fun sz => va_Qq _ (hm_R D vwCl (tyL k) f sz) (hm_A f sz)) (by decide) rfl (Nat.le_of_ble_eq_true rfl) ?_
  intro p e s m below meth cd ls X0 hr hlk hin hK hM hS hA hl Q hQ
  have X : CallFix p m cd b_GrantServer_clientWith 2 s ([.ref h, .int (nI j)] : List Value).toArray TB R_GrantServer := ⟨X0.1, X0.2.1, X0.2.2.1, X0.2.2.2.1, fun w h => X0.2.2.2.2 w (List.mem_cons_of_mem _ h)⟩
  have hx := X.1; have hb := X.2.1; have hml := X.2.2.1; have hown := X.2.2.2.1; have hts := X.2.2.2.2
  have hl : lv_has ls 2 [(0, .ref h), (1, .int (nI j))] := hl
  refine lv_iload_n hx hb d_GrantServer_clientWith_0 rfl (lv_at hl 1 rfl) ?_
  refine lv_if_lt (tgt := 21) hx hb d_GrantServer_clientWith_1 (by decide) (fun h1 => ?_) (fun h1 => ?_)
  · exact absurd h1 (nI_pos (by omega))
  · refine lv_iload_n hx hb d_GrantServer_clientWith_4 rfl (lv_at hl 1 rfl) ?_
    refine lv_aload_n hx hb d_GrantServer_clientWith_5 rfl (lv_at hl 0 rfl) ?_
    refine hm_get X hK hM hh fl_GrantServer_50 (v := .int (u 12)) rfl d_GrantServer_clientWith_6 ?_
    refine lv_icmp_ge (tgt := 21) hx hb d_GrantServer_clientWith_9 (by decide) (fun h2 => ?_) (fun h2 => ?_)
    · exact absurd (hn ▸ h2) (nI_ge hj (by omega))
    · refine lv_aload_n hx hb d_GrantServer_clientWith_12 rfl (lv_at hl 0 rfl) ?_
      refine hm_get X hK hM hh fl_GrantServer_11 (v := .ref (ad 3)) rfl d_GrantServer_clientWith_13 ?_
      refine lv_iload_n hx hb d_GrantServer_clientWith_16 rfl (lv_at hl 1 rfl) ?_
      refine hm_aald X hK hM h3 4 rfl j rfl (by omega) (by decide) d_GrantServer_clientWith_17 ?_
      refine lv_goto (tgt := 22) hx hb d_GrantServer_clientWith_18 (by decide) ?_
      exact hm_aret X hQ hr (Or.inl ⟨_, rfl⟩) hlk hK hM hS (cn j) d_GrantServer_clientWith_22 ⟨rfl, rfl⟩
set_option maxHeartbeats 4000000 in
set_option maxRecDepth 100000 in
theorem c_login_no (l : Launch) (D : va_G) (k : Nat → ClassId) (f : hm) (h : Nat) (u : Nat → Int32) (ad : Nat → Nat) (n : Nat) (x : Int32) (y : Int32) (hh : f h = some (.inr (0, gsV u ad))) (hn : u 12 = nI n) (hx9 : x < 0 ∨ nI n ≤ x) : hm_Mi l D vwCl (tyL k) y_GrantServer_login (Cond.code y_GrantServer_login b_GrantServer_login 5 (some .boolean) :: TB) ({ frames := 1, cells := 0, slots := 0, locals := 21 }) [.ref h, .int x, .int y] f (fun (r : Int32) (f1 : hm) => 0 = r ∧ f1 h = some (.inr (0, gsV (upd u 13 (-1)) ad)) ∧ ∀ (zq : Nat) (zx : va_E), zq ≠ h → f zq = some zx → f1 zq = some zx) 0 0 := by
  refine hm_enter (Qc := fun sz => va_Qi _ (hm_R D vwCl (tyL k) f sz) (hm_A f sz)) (by decide) rfl (Nat.le_of_ble_eq_true rfl) ?_
  intro p e s m below meth cd ls X0 hr hlk hin hK hM hS hA hl Q hQ
  have X : CallFix p m cd b_GrantServer_login 5 s ([.ref h, .int x, .int y] : List Value).toArray TB R_GrantServer := ⟨X0.1, X0.2.1, X0.2.2.1, X0.2.2.2.1, fun w h => X0.2.2.2.2 w (List.mem_cons_of_mem _ h)⟩
  have hx := X.1; have hb := X.2.1; have hml := X.2.2.1; have hown := X.2.2.2.1; have hts := X.2.2.2.2
  have hl : lv_has ls 5 [(0, .ref h), (1, .int x), (2, .int y)] := hl
  refine lv_aload_n hx hb d_GrantServer_login_0 rfl (lv_at hl 0 rfl) ?_
  refine lv_iload_n hx hb d_GrantServer_login_1 rfl (lv_at hl 1 rfl) ?_
  refine hm_callq hS hM hA (va_runV (As := [.int x]) (rest := []) X (c_clientWith_no l D k f h u ad n x hh hn hx9 s.heap.size) (hm_cwV hts me_GrantServer_clientWith wl_GrantServer_90 rfl rfl ⟨Nat.le_of_ble_eq_true rfl, Nat.le_of_ble_eq_true rfl⟩) (hm_preV hM hK hh rfl) rfl rfl hl.1 rfl (lv_room (Nat.le_of_ble_eq_true rfl)) d_GrantServer_login_2 ⟨Nat.le_of_ble_eq_true rfl, Nat.le_of_ble_eq_true rfl⟩) (fun r3 f1 H locs p2 hM hS => ?_)
  obtain ⟨rfl, rfl⟩ := p2
  refine lv_astore_nN (lv' := [(3, .null), (0, .ref h), (1, .int x), (2, .int y)]) hx hb d_GrantServer_login_5 rfl hl (by decide) rfl (fun ls hl => ?_)
  refine lv_aload_nN hx hb d_GrantServer_login_6 rfl (lv_at hl 0 rfl) ?_
  refine lv_ifnullN (tgt := 22) hx hb d_GrantServer_login_7 (by decide) ?_
  refine lv_iconst (v := 0) hx hb d_GrantServer_login_22 (by decide) ?_
  refine lv_istore (lv' := [(4, .int 0), (3, .null), (0, .ref h), (1, .int x), (2, .int y)]) hx hb d_GrantServer_login_23 hl (by decide) rfl (fun ls hl => ?_)
  refine lv_aload_n hx hb d_GrantServer_login_25 rfl (lv_at hl 2 rfl) ?_
  refine lv_iload hx hb d_GrantServer_login_26 (lv_at hl 0 rfl) ?_
  refine lv_if_eq (tgt := 35) hx hb d_GrantServer_login_28 (by decide) (fun h4 => ?_) (fun h4 => ?_)
  · refine lv_iconst (v := (-1)) hx hb d_GrantServer_login_35 (by decide) ?_
    refine hm_put X hK hM hS (fs' := gsV (upd u 13 (-1)) ad) hh fl_GrantServer_54 rfl rfl (Nat.le_of_ble_eq_true rfl) rfl d_GrantServer_login_36 (fun f5 H locs e6 hM hS => ?_)
    refine lv_iload hx hb d_GrantServer_login_39 (lv_at hl 0 rfl) ?_
    have g7 : f5 h = some (.inr (0, gsV (upd u 13 (-1)) ad)) := by rw [e6, hm_up_s]
    exact hm_zret X hQ hr hlk hK hM hS rfl d_GrantServer_login_41 ⟨rfl, g7, (fun zq zx n0 hq => by have t0 := hq; have t1 := hm_keep e6 n0 t0; exact t1)⟩
  · exact absurd h4 (by decide)
set_option maxHeartbeats 4000000 in
set_option maxRecDepth 100000 in
theorem c_login (l : Launch) (D : va_G) (k : Nat → ClassId) (f : hm) (h : Nat) (u : Nat → Int32) (ad : Nat → Nat) (cn : Nat → Option Nat) (n : Nat) (j : Nat) (a : Nat) (s1 : Int32) (s2 : Int32) (s3 : Int32) (y : Int32) (hh : f h = some (.inr (0, gsV u ad))) (h3 : f (ad 3) = some (.inl (k 4, 4, .inr (.inr (.inr (.inr cn)))))) (hca : f a = some (.inr (1, [.int s1, .int s2, .int s3]))) (hn : u 12 = nI n) (hn4 : n ≤ 4) (hj : j < n) (hcj : cn j = some a) (hs : s1 = y) : hm_Mi l D vwCl (tyL k) y_GrantServer_login (Cond.code y_GrantServer_login b_GrantServer_login 5 (some .boolean) :: TB) ({ frames := 1, cells := 0, slots := 0, locals := 21 }) [.ref h, .int (nI j), .int y] f (fun (r : Int32) (f1 : hm) => 1 = r ∧ f1 h = some (.inr (0, gsV (upd u 13 (nI j)) ad)) ∧ ∀ (zq : Nat) (zx : va_E), zq ≠ h → f zq = some zx → f1 zq = some zx) 0 0 := by
  refine hm_enter (Qc := fun sz => va_Qi _ (hm_R D vwCl (tyL k) f sz) (hm_A f sz)) (by decide) rfl (Nat.le_of_ble_eq_true rfl) ?_
  intro p e s m below meth cd ls X0 hr hlk hin hK hM hS hA hl Q hQ
  have X : CallFix p m cd b_GrantServer_login 5 s ([.ref h, .int (nI j), .int y] : List Value).toArray TB R_GrantServer := ⟨X0.1, X0.2.1, X0.2.2.1, X0.2.2.2.1, fun w h => X0.2.2.2.2 w (List.mem_cons_of_mem _ h)⟩
  have hx := X.1; have hb := X.2.1; have hml := X.2.2.1; have hown := X.2.2.2.1; have hts := X.2.2.2.2
  have hl : lv_has ls 5 [(0, .ref h), (1, .int (nI j)), (2, .int y)] := hl
  refine lv_aload_n hx hb d_GrantServer_login_0 rfl (lv_at hl 0 rfl) ?_
  refine lv_iload_n hx hb d_GrantServer_login_1 rfl (lv_at hl 1 rfl) ?_
  refine hm_callq hS hM hA (va_runV (As := [.int (nI j)]) (rest := []) X (c_clientWith l D k f h u ad cn n j hh h3 hn hn4 hj s.heap.size) (hm_cwV hts me_GrantServer_clientWith wl_GrantServer_90 rfl rfl ⟨Nat.le_of_ble_eq_true rfl, Nat.le_of_ble_eq_true rfl⟩) (hm_preV hM hK hh rfl) rfl rfl hl.1 rfl (lv_room (Nat.le_of_ble_eq_true rfl)) d_GrantServer_login_2 ⟨Nat.le_of_ble_eq_true rfl, Nat.le_of_ble_eq_true rfl⟩) (fun r3 f1 H locs p2 hM hS => ?_)
  obtain ⟨rfl, rfl⟩ := p2
  refine hm_ref hcj ?_
  refine lv_astore_n (lv' := [(3, .ref a), (0, .ref h), (1, .int (nI j)), (2, .int y)]) hx hb d_GrantServer_login_5 rfl hl (by decide) rfl (fun ls hl => ?_)
  refine lv_aload_n hx hb d_GrantServer_login_6 rfl (lv_at hl 0 rfl) ?_
  refine lv_ifnull hx hb d_GrantServer_login_7 ?_
  refine lv_aload_n hx hb d_GrantServer_login_10 rfl (lv_at hl 0 rfl) ?_
  refine hm_get X hK hM hca fl_GrantServer_94 (v := .int s1) rfl d_GrantServer_login_11 ?_
  refine lv_iload_n hx hb d_GrantServer_login_14 rfl (lv_at hl 3 rfl) ?_
  refine lv_icmp_ne (tgt := 22) hx hb d_GrantServer_login_15 (by decide) (fun h4 => ?_) (fun h4 => ?_)
  · exact absurd hs h4
  · refine lv_iconst (v := 1) hx hb d_GrantServer_login_18 (by decide) ?_
    refine lv_goto (tgt := 23) hx hb d_GrantServer_login_19 (by decide) ?_
    refine lv_istore (lv' := [(4, .int 1), (3, .ref a), (0, .ref h), (1, .int (nI j)), (2, .int y)]) hx hb d_GrantServer_login_23 hl (by decide) rfl (fun ls hl => ?_)
    refine lv_aload_n hx hb d_GrantServer_login_25 rfl (lv_at hl 2 rfl) ?_
    refine lv_iload hx hb d_GrantServer_login_26 (lv_at hl 0 rfl) ?_
    refine lv_if_eq (tgt := 35) hx hb d_GrantServer_login_28 (by decide) (fun h5 => ?_) (fun h5 => ?_)
    · exact absurd h5 (by decide)
    · refine lv_iload_n hx hb d_GrantServer_login_31 rfl (lv_at hl 3 rfl) ?_
      refine lv_goto (tgt := 36) hx hb d_GrantServer_login_32 (by decide) ?_
      refine hm_put X hK hM hS (fs' := gsV (upd u 13 (nI j)) ad) hh fl_GrantServer_54 rfl rfl (Nat.le_of_ble_eq_true rfl) rfl d_GrantServer_login_36 (fun f6 H locs e7 hM hS => ?_)
      refine lv_iload hx hb d_GrantServer_login_39 (lv_at hl 0 rfl) ?_
      have g8 : f6 h = some (.inr (0, gsV (upd u 13 (nI j)) ad)) := by rw [e7, hm_up_s]
      exact hm_zret X hQ hr hlk hK hM hS rfl d_GrantServer_login_41 ⟨rfl, g8, (fun zq zx n0 hq => by have t0 := hq; have t1 := hm_keep e7 n0 t0; exact t1)⟩
set_option maxHeartbeats 4000000 in
set_option maxRecDepth 100000 in
theorem c_login_bad (l : Launch) (D : va_G) (k : Nat → ClassId) (f : hm) (h : Nat) (u : Nat → Int32) (ad : Nat → Nat) (cn : Nat → Option Nat) (n : Nat) (j : Nat) (a : Nat) (s1 : Int32) (s2 : Int32) (s3 : Int32) (y : Int32) (hh : f h = some (.inr (0, gsV u ad))) (h3 : f (ad 3) = some (.inl (k 4, 4, .inr (.inr (.inr (.inr cn)))))) (hca : f a = some (.inr (1, [.int s1, .int s2, .int s3]))) (hn : u 12 = nI n) (hn4 : n ≤ 4) (hj : j < n) (hcj : cn j = some a) (hs : ¬ s1 = y) : hm_Mi l D vwCl (tyL k) y_GrantServer_login (Cond.code y_GrantServer_login b_GrantServer_login 5 (some .boolean) :: TB) ({ frames := 1, cells := 0, slots := 0, locals := 21 }) [.ref h, .int (nI j), .int y] f (fun (r : Int32) (f1 : hm) => 0 = r ∧ f1 h = some (.inr (0, gsV (upd u 13 (-1)) ad)) ∧ ∀ (zq : Nat) (zx : va_E), zq ≠ h → f zq = some zx → f1 zq = some zx) 0 0 := by
  refine hm_enter (Qc := fun sz => va_Qi _ (hm_R D vwCl (tyL k) f sz) (hm_A f sz)) (by decide) rfl (Nat.le_of_ble_eq_true rfl) ?_
  intro p e s m below meth cd ls X0 hr hlk hin hK hM hS hA hl Q hQ
  have X : CallFix p m cd b_GrantServer_login 5 s ([.ref h, .int (nI j), .int y] : List Value).toArray TB R_GrantServer := ⟨X0.1, X0.2.1, X0.2.2.1, X0.2.2.2.1, fun w h => X0.2.2.2.2 w (List.mem_cons_of_mem _ h)⟩
  have hx := X.1; have hb := X.2.1; have hml := X.2.2.1; have hown := X.2.2.2.1; have hts := X.2.2.2.2
  have hl : lv_has ls 5 [(0, .ref h), (1, .int (nI j)), (2, .int y)] := hl
  refine lv_aload_n hx hb d_GrantServer_login_0 rfl (lv_at hl 0 rfl) ?_
  refine lv_iload_n hx hb d_GrantServer_login_1 rfl (lv_at hl 1 rfl) ?_
  refine hm_callq hS hM hA (va_runV (As := [.int (nI j)]) (rest := []) X (c_clientWith l D k f h u ad cn n j hh h3 hn hn4 hj s.heap.size) (hm_cwV hts me_GrantServer_clientWith wl_GrantServer_90 rfl rfl ⟨Nat.le_of_ble_eq_true rfl, Nat.le_of_ble_eq_true rfl⟩) (hm_preV hM hK hh rfl) rfl rfl hl.1 rfl (lv_room (Nat.le_of_ble_eq_true rfl)) d_GrantServer_login_2 ⟨Nat.le_of_ble_eq_true rfl, Nat.le_of_ble_eq_true rfl⟩) (fun r3 f1 H locs p2 hM hS => ?_)
  obtain ⟨rfl, rfl⟩ := p2
  refine hm_ref hcj ?_
  refine lv_astore_n (lv' := [(3, .ref a), (0, .ref h), (1, .int (nI j)), (2, .int y)]) hx hb d_GrantServer_login_5 rfl hl (by decide) rfl (fun ls hl => ?_)
  refine lv_aload_n hx hb d_GrantServer_login_6 rfl (lv_at hl 0 rfl) ?_
  refine lv_ifnull hx hb d_GrantServer_login_7 ?_
  refine lv_aload_n hx hb d_GrantServer_login_10 rfl (lv_at hl 0 rfl) ?_
  refine hm_get X hK hM hca fl_GrantServer_94 (v := .int s1) rfl d_GrantServer_login_11 ?_
  refine lv_iload_n hx hb d_GrantServer_login_14 rfl (lv_at hl 3 rfl) ?_
  refine lv_icmp_ne (tgt := 22) hx hb d_GrantServer_login_15 (by decide) (fun h4 => ?_) (fun h4 => ?_)
  · refine lv_iconst (v := 0) hx hb d_GrantServer_login_22 (by decide) ?_
    refine lv_istore (lv' := [(4, .int 0), (3, .ref a), (0, .ref h), (1, .int (nI j)), (2, .int y)]) hx hb d_GrantServer_login_23 hl (by decide) rfl (fun ls hl => ?_)
    refine lv_aload_n hx hb d_GrantServer_login_25 rfl (lv_at hl 2 rfl) ?_
    refine lv_iload hx hb d_GrantServer_login_26 (lv_at hl 0 rfl) ?_
    refine lv_if_eq (tgt := 35) hx hb d_GrantServer_login_28 (by decide) (fun h5 => ?_) (fun h5 => ?_)
    · refine lv_iconst (v := (-1)) hx hb d_GrantServer_login_35 (by decide) ?_
      refine hm_put X hK hM hS (fs' := gsV (upd u 13 (-1)) ad) hh fl_GrantServer_54 rfl rfl (Nat.le_of_ble_eq_true rfl) rfl d_GrantServer_login_36 (fun f6 H locs e7 hM hS => ?_)
      refine lv_iload hx hb d_GrantServer_login_39 (lv_at hl 0 rfl) ?_
      have g8 : f6 h = some (.inr (0, gsV (upd u 13 (-1)) ad)) := by rw [e7, hm_up_s]
      exact hm_zret X hQ hr hlk hK hM hS rfl d_GrantServer_login_41 ⟨rfl, g8, (fun zq zx n0 hq => by have t0 := hq; have t1 := hm_keep e7 n0 t0; exact t1)⟩
    · exact absurd h5 (by decide)
  · exact absurd h4 hs
set_option maxHeartbeats 4000000 in
set_option maxRecDepth 100000 in
theorem c_client_no (l : Launch) (D : va_G) (k : Nat → ClassId) (f : hm) (h : Nat) (u : Nat → Int32) (ad : Nat → Nat) (a : Int32) (b : Int32) (d : Int32) (n : Nat) (hh : f h = some (.inr (0, gsV u ad))) (hn : u 12 = nI n) (hn9 : n < 2 ^ 31) (hx9 : 4 ≤ n ∨ z_some d = 0) : hm_Mi l D vwCl (tyL k) y_GrantServer_client (Cond.code y_GrantServer_client b_GrantServer_client 4 (some .int) :: TB) ({ frames := 1, cells := 0, slots := 0, locals := 20 }) [.ref h, .int a, .int b, .int d] f (fun (r : Int32) (f1 : hm) => (-1) = r ∧ f = f1) 0 0 := by
  refine hm_enter (Qc := fun sz => va_Qi _ (hm_R D vwCl (tyL k) f sz) (hm_A f sz)) (by decide) rfl (Nat.le_of_ble_eq_true rfl) ?_
  intro p e s m below meth cd ls X0 hr hlk hin hK hM hS hA hl Q hQ
  have X : CallFix p m cd b_GrantServer_client 4 s ([.ref h, .int a, .int b, .int d] : List Value).toArray TB R_GrantServer := ⟨X0.1, X0.2.1, X0.2.2.1, X0.2.2.2.1, fun w h => X0.2.2.2.2 w (List.mem_cons_of_mem _ h)⟩
  have hx := X.1; have hb := X.2.1; have hml := X.2.2.1; have hown := X.2.2.2.1; have hts := X.2.2.2.2
  have hl : lv_has ls 4 [(0, .ref h), (1, .int a), (2, .int b), (3, .int d)] := hl
  refine lv_aload_n hx hb d_GrantServer_client_0 rfl (lv_at hl 0 rfl) ?_
  refine hm_get X hK hM hh fl_GrantServer_50 (v := .int (u 12)) rfl d_GrantServer_client_1 ?_
  refine lv_iconst (v := 4) hx hb d_GrantServer_client_4 (by decide) ?_
  refine lv_icmp_ge (tgt := 15) hx hb d_GrantServer_client_5 (by decide) (fun h1 => ?_) (fun h1 => ?_)
  · refine lv_iconst (v := (-1)) hx hb d_GrantServer_client_15 (by decide) ?_
    exact hm_iret X hQ hr hlk hK hM hS d_GrantServer_client_16 ⟨rfl, rfl⟩
  · refine lv_iload_n hx hb d_GrantServer_client_8 rfl (lv_at hl 3 rfl) ?_
    refine hm_calli hS hM hA (va_runS (As := [.int d]) (rest := []) X (c_isSomeScopes l D k f d   s.heap.size) (hm_cwS hts me_GrantServer_isSomeScopes wl_GrantServer_83 rfl rfl ⟨Nat.le_of_ble_eq_true rfl, Nat.le_of_ble_eq_true rfl⟩) (hm_preS hM hK) rfl rfl hl.1 rfl (lv_room (Nat.le_of_ble_eq_true rfl)) d_GrantServer_client_9 ⟨Nat.le_of_ble_eq_true rfl, Nat.le_of_ble_eq_true rfl⟩) (fun r4 f2 H locs p3 hM hS => ?_)
    obtain ⟨rfl, rfl⟩ := p3
    refine lv_if_ne (tgt := 17) hx hb d_GrantServer_client_12 (by decide) (fun h5 => ?_) (fun h5 => ?_)
    · exact hx9.elim (fun z => absurd (hn ▸ nI_le (a := 4) z hn9) h1) (fun z => absurd z h5)
    · refine lv_iconst (v := (-1)) hx hb d_GrantServer_client_15 (by decide) ?_
      exact hm_iret X hQ hr hlk hK hM hS d_GrantServer_client_16 ⟨rfl, rfl⟩
set_option maxHeartbeats 4000000 in
set_option maxRecDepth 100000 in
theorem c_client (l : Launch) (D : va_G) (k : Nat → ClassId) (f : hm) (h : Nat) (u : Nat → Int32) (ad : Nat → Nat) (cn : Nat → Option Nat) (n : Nat) (a : Int32) (b : Int32) (d : Int32) (hh : f h = some (.inr (0, gsV u ad))) (h3 : f (ad 3) = some (.inl (k 4, 4, .inr (.inr (.inr (.inr cn)))))) (hn : u 12 = nI n) (hn4 : n < 4) (hz : ¬ z_some d = 0) : hm_Mi l D vwCl (tyL k) y_GrantServer_client (Cond.code y_GrantServer_client b_GrantServer_client 4 (some .int) :: TB) ({ frames := 2, cells := 1, slots := 3, locals := 43 }) [.ref h, .int a, .int b, .int d] f (fun (r : Int32) (f1 : hm) => ∃ (q : Nat), f q = none ∧ nI n = r ∧ f1 h = some (.inr (0, gsV (upd u 12 (nI (n + 1))) ad)) ∧ f1 (ad 3) = some (.inl (k 4, 4, .inr (.inr (.inr (.inr (va_up cn n (some q))))))) ∧ f1 q = some (.inr (1, [.int a, .int b, .int d])) ∧ ∀ (zq : Nat) (zx : va_E), zq ≠ h → zq ≠ (ad 3) → f zq = some zx → f1 zq = some zx) 1 3 := by
  refine hm_enter (Qc := fun sz => va_Qi _ (hm_R D vwCl (tyL k) f sz) (hm_A f sz)) (by decide) rfl (Nat.le_of_ble_eq_true rfl) ?_
  intro p e s m below meth cd ls X0 hr hlk hin hK hM hS hA hl Q hQ
  have X : CallFix p m cd b_GrantServer_client 4 s ([.ref h, .int a, .int b, .int d] : List Value).toArray TB R_GrantServer := ⟨X0.1, X0.2.1, X0.2.2.1, X0.2.2.2.1, fun w h => X0.2.2.2.2 w (List.mem_cons_of_mem _ h)⟩
  have hx := X.1; have hb := X.2.1; have hml := X.2.2.1; have hown := X.2.2.2.1; have hts := X.2.2.2.2
  have hl : lv_has ls 4 [(0, .ref h), (1, .int a), (2, .int b), (3, .int d)] := hl
  refine lv_aload_n hx hb d_GrantServer_client_0 rfl (lv_at hl 0 rfl) ?_
  refine hm_get X hK hM hh fl_GrantServer_50 (v := .int (u 12)) rfl d_GrantServer_client_1 ?_
  refine lv_iconst (v := 4) hx hb d_GrantServer_client_4 (by decide) ?_
  refine lv_icmp_ge (tgt := 15) hx hb d_GrantServer_client_5 (by decide) (fun h1 => ?_) (fun h1 => ?_)
  · exact absurd (hn ▸ h1) (nI_ge (b := 4) hn4 (by omega))
  · refine lv_iload_n hx hb d_GrantServer_client_8 rfl (lv_at hl 3 rfl) ?_
    refine hm_calli hS hM hA (va_runS (As := [.int d]) (rest := []) X (c_isSomeScopes l D k f d   s.heap.size) (hm_cwS hts me_GrantServer_isSomeScopes wl_GrantServer_83 rfl rfl ⟨Nat.le_of_ble_eq_true rfl, Nat.le_of_ble_eq_true rfl⟩) (hm_preS hM hK) rfl rfl hl.1 rfl (lv_room (Nat.le_of_ble_eq_true rfl)) d_GrantServer_client_9 ⟨Nat.le_of_ble_eq_true rfl, Nat.le_of_ble_eq_true rfl⟩) (fun r4 f2 H locs p3 hM hS => ?_)
    obtain ⟨rfl, rfl⟩ := p3
    refine lv_if_ne (tgt := 17) hx hb d_GrantServer_client_12 (by decide) (fun h5 => ?_) (fun h5 => ?_)
    · refine lv_aload_n hx hb d_GrantServer_client_17 rfl (lv_at hl 0 rfl) ?_
      refine hm_get X hK hM hh fl_GrantServer_11 (v := .ref (ad 3)) rfl d_GrantServer_client_18 ?_
      refine lv_aload_n hx hb d_GrantServer_client_21 rfl (lv_at hl 0 rfl) ?_
      refine hm_get X hK hM hh fl_GrantServer_50 (v := .int (u 12)) rfl d_GrantServer_client_22 ?_
      refine hm_new X hK hM hS hA nw_GrantServer_9 (by decide) (by decide) d_GrantServer_client_25 (fun q6 f7 H e8 z9 hM hS => ?_)
      have g10 : f7 q6 = some (.inr (1, [.int 0, .int 0, .int 0])) := hm_new1 e8
      refine lv_dup hx hb d_GrantServer_client_28 rfl ?_
      refine lv_iload_n hx hb d_GrantServer_client_29 rfl (lv_at hl 1 rfl) ?_
      refine lv_iload_n hx hb d_GrantServer_client_30 rfl (lv_at hl 2 rfl) ?_
      refine lv_iload_n hx hb d_GrantServer_client_31 rfl (lv_at hl 3 rfl) ?_
      have g11 : f7 h = some (.inr (0, gsV u ad)) := by rw [e8, hm_up_n (hm_ne0 hh z9)]; exact hh
      have g12 : f7 (ad 3) = some (.inl (k 4, 4, .inr (.inr (.inr (.inr cn))))) := by rw [e8, hm_up_n (hm_ne0 h3 z9)]; exact h3
      refine hm_callv hS hM hA (va_runI (As := [.int a, .int b, .int d]) (rest := [.ref q6, .int (u 12), .ref (ad 3)]) X (c_Client_init l D k f7 q6 a b d g10  H.size) (hm_cwI hts me_Client_init wl_GrantServer_87 rfl rfl ⟨Nat.le_of_ble_eq_true rfl, Nat.le_of_ble_eq_true rfl⟩) (hm_preS hM hK) rfl rfl hl.1 rfl (lv_room (Nat.le_of_ble_eq_true rfl)) d_GrantServer_client_32 ⟨Nat.le_of_ble_eq_true rfl, Nat.le_of_ble_eq_true rfl⟩) (fun f13 H locs p14 hM hS => ?_)
      obtain ⟨g15, hfr16⟩ := p14
      have g17 : f13 (ad 3) = some (.inl (k 4, 4, .inr (.inr (.inr (.inr cn))))) := hfr16 _ _ (hm_ne0 h3 z9) g12
      refine hm_aast X hK hM hS g17 g15 rfl 4 rfl n hn hn4 (by decide) d_GrantServer_client_35 (fun f18 H locs e19 hM hS => ?_)
      refine lv_aload_n hx hb d_GrantServer_client_36 rfl (lv_at hl 0 rfl) ?_
      refine lv_dup hx hb d_GrantServer_client_37 rfl ?_
      have g20 : f13 h = some (.inr (0, gsV u ad)) := hfr16 _ _ (hm_ne0 hh z9) g11
      have g21 : f18 h = some (.inr (0, gsV u ad)) := by rw [e19, hm_up_n (hm_neA g20 g17)]; exact g20
      refine hm_get X hK hM g21 fl_GrantServer_50 (v := .int (u 12)) rfl d_GrantServer_client_38 ?_
      refine lv_iconst (v := 1) hx hb d_GrantServer_client_41 (by decide) ?_
      refine lv_iadd hx hb d_GrantServer_client_42 ?_
      refine hm_top (z := nI (n + 1)) (by rw [hn]; exact nI_1 n) ?_
      refine hm_put X hK hM hS (fs' := gsV (upd u 12 (nI (n + 1))) ad) g21 fl_GrantServer_50 rfl rfl (Nat.le_of_ble_eq_true rfl) rfl d_GrantServer_client_43 (fun f22 H locs e23 hM hS => ?_)
      refine lv_aload_n hx hb d_GrantServer_client_46 rfl (lv_at hl 0 rfl) ?_
      have g24 : f22 h = some (.inr (0, gsV (upd u 12 (nI (n + 1))) ad)) := by rw [e23, hm_up_s]
      refine hm_get X hK hM g24 fl_GrantServer_50 (v := .int (nI (n + 1))) rfl d_GrantServer_client_47 ?_
      refine lv_iconst (v := 1) hx hb d_GrantServer_client_50 (by decide) ?_
      refine lv_isub hx hb d_GrantServer_client_51 ?_
      refine hm_top (z := nI n) (nI_pred n) ?_
      have g25 : f18 (ad 3) = some (.inl (k 4, 4, .inr (.inr (.inr (.inr (va_up cn n (some q6))))))) := by rw [e19, hm_up_s]
      have g26 : f22 (ad 3) = some (.inl (k 4, 4, .inr (.inr (.inr (.inr (va_up cn n (some q6))))))) := by rw [e23, hm_up_n ((hm_neA g21 g25).symm)]; exact g25
      have g27 : f18 q6 = some (.inr (1, [.int a, .int b, .int d])) := by rw [e19, hm_up_n ((hm_ne0 h3 z9).symm)]; exact g15
      have g28 : f22 q6 = some (.inr (1, [.int a, .int b, .int d])) := by rw [e23, hm_up_n ((hm_ne0 hh z9).symm)]; exact g27
      exact hm_iret X hQ hr hlk hK hM hS d_GrantServer_client_52 ⟨q6, z9, rfl, g24, g26, g28, (fun zq zx n0 n1 hq => by have t0 := hq; have u1 := hm_ne0 t0 z9; have t1 := hm_keep e8 u1 t0; have t2 := hfr16 _ _ u1 t1; have t3 := hm_keep e19 n1 t2; have t4 := hm_keep e23 n0 t3; exact t4)⟩
    · exact absurd h5 hz
set_option maxHeartbeats 4000000 in
set_option maxRecDepth 100000 in
theorem c_key_no (l : Launch) (D : va_G) (k : Nat → ClassId) (f : hm) (h : Nat) (u : Nat → Int32) (ad : Nat → Nat) (y : Int32) (hz : z_text y = 0) : hm_Mi l D vwCl (tyL k) y_GrantServer_key (Cond.code y_GrantServer_key b_GrantServer_key 2 (some .boolean) :: TB) ({ frames := 1, cells := 0, slots := 0, locals := 20 }) [.ref h, .int y] f (fun (r : Int32) (f1 : hm) => 0 = r ∧ f = f1) 0 0 := by
  refine hm_enter (Qc := fun sz => va_Qi _ (hm_R D vwCl (tyL k) f sz) (hm_A f sz)) (by decide) rfl (Nat.le_of_ble_eq_true rfl) ?_
  intro p e s m below meth cd ls X0 hr hlk hin hK hM hS hA hl Q hQ
  have X : CallFix p m cd b_GrantServer_key 2 s ([.ref h, .int y] : List Value).toArray TB R_GrantServer := ⟨X0.1, X0.2.1, X0.2.2.1, X0.2.2.2.1, fun w h => X0.2.2.2.2 w (List.mem_cons_of_mem _ h)⟩
  have hx := X.1; have hb := X.2.1; have hml := X.2.2.1; have hown := X.2.2.2.1; have hts := X.2.2.2.2
  have hl : lv_has ls 2 [(0, .ref h), (1, .int y)] := hl
  refine lv_iload_n hx hb d_GrantServer_key_0 rfl (lv_at hl 1 rfl) ?_
  refine hm_calli hS hM hA (va_runS (As := [.int y]) (rest := []) X (c_isWritable l D k f y   s.heap.size) (hm_cwS hts me_GrantServer_isWritable wl_GrantServer_203 rfl rfl ⟨Nat.le_of_ble_eq_true rfl, Nat.le_of_ble_eq_true rfl⟩) (hm_preS hM hK) rfl rfl hl.1 rfl (lv_room (Nat.le_of_ble_eq_true rfl)) d_GrantServer_key_1 ⟨Nat.le_of_ble_eq_true rfl, Nat.le_of_ble_eq_true rfl⟩) (fun r3 f1 H locs p2 hM hS => ?_)
  obtain ⟨rfl, rfl⟩ := p2
  refine lv_if_eq (tgt := 22) hx hb d_GrantServer_key_4 (by decide) (fun h4 => ?_) (fun h4 => ?_)
  · refine lv_iconst (v := 0) hx hb d_GrantServer_key_22 (by decide) ?_
    exact hm_zret X hQ hr hlk hK hM hS rfl d_GrantServer_key_23 ⟨rfl, rfl⟩
  · exact absurd hz h4
set_option maxHeartbeats 4000000 in
set_option maxRecDepth 100000 in
theorem c_key_full (l : Launch) (D : va_G) (k : Nat → ClassId) (f : hm) (h : Nat) (u : Nat → Int32) (ad : Nat → Nat) (n : Nat) (x : Nat → Int32) (y : Int32) (hh : f h = some (.inr (0, gsV u ad))) (ht0 : f (ad 7) = some (.inr (5, [.ref (ad 17), .int (nI n)]))) (ha0 : f (ad 17) = some (.inl (k 2, 120, .inl x))) (hn : ¬ n < 120) (hn9 : n < 2 ^ 31) : hm_Mi l D vwCl (tyL k) y_GrantServer_key (Cond.code y_GrantServer_key b_GrantServer_key 2 (some .boolean) :: TB) ({ frames := 1, cells := 0, slots := 0, locals := 21 }) [.ref h, .int y] f (fun (r : Int32) (f1 : hm) => 0 = r ∧ f = f1) 0 0 := by
  refine hm_enter (Qc := fun sz => va_Qi _ (hm_R D vwCl (tyL k) f sz) (hm_A f sz)) (by decide) rfl (Nat.le_of_ble_eq_true rfl) ?_
  intro p e s m below meth cd ls X0 hr hlk hin hK hM hS hA hl Q hQ
  have X : CallFix p m cd b_GrantServer_key 2 s ([.ref h, .int y] : List Value).toArray TB R_GrantServer := ⟨X0.1, X0.2.1, X0.2.2.1, X0.2.2.2.1, fun w h => X0.2.2.2.2 w (List.mem_cons_of_mem _ h)⟩
  have hx := X.1; have hb := X.2.1; have hml := X.2.2.1; have hown := X.2.2.2.1; have hts := X.2.2.2.2
  have hl : lv_has ls 2 [(0, .ref h), (1, .int y)] := hl
  refine lv_iload_n hx hb d_GrantServer_key_0 rfl (lv_at hl 1 rfl) ?_
  refine hm_calli hS hM hA (va_runS (As := [.int y]) (rest := []) X (c_isWritable l D k f y   s.heap.size) (hm_cwS hts me_GrantServer_isWritable wl_GrantServer_203 rfl rfl ⟨Nat.le_of_ble_eq_true rfl, Nat.le_of_ble_eq_true rfl⟩) (hm_preS hM hK) rfl rfl hl.1 rfl (lv_room (Nat.le_of_ble_eq_true rfl)) d_GrantServer_key_1 ⟨Nat.le_of_ble_eq_true rfl, Nat.le_of_ble_eq_true rfl⟩) (fun r3 f1 H locs p2 hM hS => ?_)
  obtain ⟨rfl, rfl⟩ := p2
  refine lv_if_eq (tgt := 22) hx hb d_GrantServer_key_4 (by decide) (fun h4 => ?_) (fun h4 => ?_)
  · refine lv_iconst (v := 0) hx hb d_GrantServer_key_22 (by decide) ?_
    exact hm_zret X hQ hr hlk hK hM hS rfl d_GrantServer_key_23 ⟨rfl, rfl⟩
  · refine lv_aload_n hx hb d_GrantServer_key_7 rfl (lv_at hl 0 rfl) ?_
    refine hm_get X hK hM hh fl_GrantServer_33 (v := .ref (ad 7)) rfl d_GrantServer_key_8 ?_
    refine lv_iload_n hx hb d_GrantServer_key_11 rfl (lv_at hl 1 rfl) ?_
    refine hm_calli hS hM hA (va_runV (As := [.int y]) (rest := []) X (c_Text_addF l D k f (ad 7) (ad 17) n x y ht0 hn hn9 H.size) (hm_cwV hts me_Text_add wl_GrantServer_207 rfl rfl ⟨Nat.le_of_ble_eq_true rfl, Nat.le_of_ble_eq_true rfl⟩) (hm_preV hM hK ht0 rfl) rfl rfl hl.1 rfl (lv_room (Nat.le_of_ble_eq_true rfl)) d_GrantServer_key_12 ⟨Nat.le_of_ble_eq_true rfl, Nat.le_of_ble_eq_true rfl⟩) (fun r7 f5 H locs p6 hM hS => ?_)
    obtain ⟨rfl, rfl⟩ := p6
    refine lv_if_eq (tgt := 22) hx hb d_GrantServer_key_15 (by decide) (fun h8 => ?_) (fun h8 => ?_)
    · refine lv_iconst (v := 0) hx hb d_GrantServer_key_22 (by decide) ?_
      exact hm_zret X hQ hr hlk hK hM hS rfl d_GrantServer_key_23 ⟨rfl, rfl⟩
    · exact absurd h8 (by decide)
set_option maxHeartbeats 4000000 in
set_option maxRecDepth 100000 in
theorem c_key (l : Launch) (D : va_G) (k : Nat → ClassId) (f : hm) (h : Nat) (u : Nat → Int32) (ad : Nat → Nat) (n : Nat) (x : Nat → Int32) (y : Int32) (hh : f h = some (.inr (0, gsV u ad))) (ht0 : f (ad 7) = some (.inr (5, [.ref (ad 17), .int (nI n)]))) (ha0 : f (ad 17) = some (.inl (k 2, 120, .inl x))) (hz : ¬ z_text y = 0) (hn : n < 120) (hy : vp_nar .char y = y) : hm_Mi l D vwCl (tyL k) y_GrantServer_key (Cond.code y_GrantServer_key b_GrantServer_key 2 (some .boolean) :: TB) ({ frames := 1, cells := 0, slots := 0, locals := 21 }) [.ref h, .int y] f (fun (r : Int32) (f1 : hm) => 1 = r ∧ f1 (ad 7) = some (.inr (5, [.ref (ad 17), .int (nI (n + 1))])) ∧ f1 (ad 17) = some (.inl (k 2, 120, .inl (upd x n y))) ∧ ∀ (zq : Nat) (zx : va_E), zq ≠ (ad 7) → zq ≠ (ad 17) → f zq = some zx → f1 zq = some zx) 0 0 := by
  refine hm_enter (Qc := fun sz => va_Qi _ (hm_R D vwCl (tyL k) f sz) (hm_A f sz)) (by decide) rfl (Nat.le_of_ble_eq_true rfl) ?_
  intro p e s m below meth cd ls X0 hr hlk hin hK hM hS hA hl Q hQ
  have X : CallFix p m cd b_GrantServer_key 2 s ([.ref h, .int y] : List Value).toArray TB R_GrantServer := ⟨X0.1, X0.2.1, X0.2.2.1, X0.2.2.2.1, fun w h => X0.2.2.2.2 w (List.mem_cons_of_mem _ h)⟩
  have hx := X.1; have hb := X.2.1; have hml := X.2.2.1; have hown := X.2.2.2.1; have hts := X.2.2.2.2
  have hl : lv_has ls 2 [(0, .ref h), (1, .int y)] := hl
  refine lv_iload_n hx hb d_GrantServer_key_0 rfl (lv_at hl 1 rfl) ?_
  refine hm_calli hS hM hA (va_runS (As := [.int y]) (rest := []) X (c_isWritable l D k f y   s.heap.size) (hm_cwS hts me_GrantServer_isWritable wl_GrantServer_203 rfl rfl ⟨Nat.le_of_ble_eq_true rfl, Nat.le_of_ble_eq_true rfl⟩) (hm_preS hM hK) rfl rfl hl.1 rfl (lv_room (Nat.le_of_ble_eq_true rfl)) d_GrantServer_key_1 ⟨Nat.le_of_ble_eq_true rfl, Nat.le_of_ble_eq_true rfl⟩) (fun r3 f1 H locs p2 hM hS => ?_)
  obtain ⟨rfl, rfl⟩ := p2
  refine lv_if_eq (tgt := 22) hx hb d_GrantServer_key_4 (by decide) (fun h4 => ?_) (fun h4 => ?_)
  · exact absurd h4 hz
  · refine lv_aload_n hx hb d_GrantServer_key_7 rfl (lv_at hl 0 rfl) ?_
    refine hm_get X hK hM hh fl_GrantServer_33 (v := .ref (ad 7)) rfl d_GrantServer_key_8 ?_
    refine lv_iload_n hx hb d_GrantServer_key_11 rfl (lv_at hl 1 rfl) ?_
    refine hm_calli hS hM hA (va_runV (As := [.int y]) (rest := []) X (c_Text_add l D k f (ad 7) (ad 17) n x y ht0 ha0 hn hy H.size) (hm_cwV hts me_Text_add wl_GrantServer_207 rfl rfl ⟨Nat.le_of_ble_eq_true rfl, Nat.le_of_ble_eq_true rfl⟩) (hm_preV hM hK ht0 rfl) rfl rfl hl.1 rfl (lv_room (Nat.le_of_ble_eq_true rfl)) d_GrantServer_key_12 ⟨Nat.le_of_ble_eq_true rfl, Nat.le_of_ble_eq_true rfl⟩) (fun r7 f5 H locs p6 hM hS => ?_)
    obtain ⟨rfl, g8, g9, hfr10⟩ := p6
    refine lv_if_eq (tgt := 22) hx hb d_GrantServer_key_15 (by decide) (fun h11 => ?_) (fun h11 => ?_)
    · exact absurd h11 (by decide)
    · refine lv_iconst (v := 1) hx hb d_GrantServer_key_18 (by decide) ?_
      refine lv_goto (tgt := 23) hx hb d_GrantServer_key_19 (by decide) ?_
      exact hm_zret X hQ hr hlk hK hM hS rfl d_GrantServer_key_23 ⟨rfl, g8, g9, (fun zq zx n0 n1 hq => by have t0 := hq; have t1 := hfr10 _ _ n0 n1 t0; exact t1)⟩
set_option maxHeartbeats 4000000 in
set_option maxRecDepth 100000 in
theorem c_alter_no (l : Launch) (D : va_G) (k : Nat → ClassId) (f : hm) (h : Nat) (u : Nat → Int32) (ad : Nat → Nat) (i : Int32) (y : Int32) (hz : z_text y = 0) : hm_Mi l D vwCl (tyL k) y_GrantServer_alter (Cond.code y_GrantServer_alter b_GrantServer_alter 3 (some .boolean) :: TB) ({ frames := 1, cells := 0, slots := 0, locals := 20 }) [.ref h, .int i, .int y] f (fun (r : Int32) (f1 : hm) => 0 = r ∧ f = f1) 0 0 := by
  refine hm_enter (Qc := fun sz => va_Qi _ (hm_R D vwCl (tyL k) f sz) (hm_A f sz)) (by decide) rfl (Nat.le_of_ble_eq_true rfl) ?_
  intro p e s m below meth cd ls X0 hr hlk hin hK hM hS hA hl Q hQ
  have X : CallFix p m cd b_GrantServer_alter 3 s ([.ref h, .int i, .int y] : List Value).toArray TB R_GrantServer := ⟨X0.1, X0.2.1, X0.2.2.1, X0.2.2.2.1, fun w h => X0.2.2.2.2 w (List.mem_cons_of_mem _ h)⟩
  have hx := X.1; have hb := X.2.1; have hml := X.2.2.1; have hown := X.2.2.2.1; have hts := X.2.2.2.2
  have hl : lv_has ls 3 [(0, .ref h), (1, .int i), (2, .int y)] := hl
  refine lv_iload_n hx hb d_GrantServer_alter_0 rfl (lv_at hl 2 rfl) ?_
  refine hm_calli hS hM hA (va_runS (As := [.int y]) (rest := []) X (c_isWritable l D k f y   s.heap.size) (hm_cwS hts me_GrantServer_isWritable wl_GrantServer_203 rfl rfl ⟨Nat.le_of_ble_eq_true rfl, Nat.le_of_ble_eq_true rfl⟩) (hm_preS hM hK) rfl rfl hl.1 rfl (lv_room (Nat.le_of_ble_eq_true rfl)) d_GrantServer_alter_1 ⟨Nat.le_of_ble_eq_true rfl, Nat.le_of_ble_eq_true rfl⟩) (fun r3 f1 H locs p2 hM hS => ?_)
  obtain ⟨rfl, rfl⟩ := p2
  refine lv_if_eq (tgt := 23) hx hb d_GrantServer_alter_4 (by decide) (fun h4 => ?_) (fun h4 => ?_)
  · refine lv_iconst (v := 0) hx hb d_GrantServer_alter_23 (by decide) ?_
    exact hm_zret X hQ hr hlk hK hM hS rfl d_GrantServer_alter_24 ⟨rfl, rfl⟩
  · exact absurd hz h4
set_option maxHeartbeats 4000000 in
set_option maxRecDepth 100000 in
theorem c_alter_out (l : Launch) (D : va_G) (k : Nat → ClassId) (f : hm) (h : Nat) (u : Nat → Int32) (ad : Nat → Nat) (n : Nat) (x : Nat → Int32) (i : Int32) (y : Int32) (hh : f h = some (.inr (0, gsV u ad))) (ht0 : f (ad 7) = some (.inr (5, [.ref (ad 17), .int (nI n)]))) (ha0 : f (ad 17) = some (.inl (k 2, 120, .inl x))) (hi : i < 0 ∨ nI n ≤ i) : hm_Mi l D vwCl (tyL k) y_GrantServer_alter (Cond.code y_GrantServer_alter b_GrantServer_alter 3 (some .boolean) :: TB) ({ frames := 1, cells := 0, slots := 0, locals := 22 }) [.ref h, .int i, .int y] f (fun (r : Int32) (f1 : hm) => 0 = r ∧ f = f1) 0 0 := by
  refine hm_enter (Qc := fun sz => va_Qi _ (hm_R D vwCl (tyL k) f sz) (hm_A f sz)) (by decide) rfl (Nat.le_of_ble_eq_true rfl) ?_
  intro p e s m below meth cd ls X0 hr hlk hin hK hM hS hA hl Q hQ
  have X : CallFix p m cd b_GrantServer_alter 3 s ([.ref h, .int i, .int y] : List Value).toArray TB R_GrantServer := ⟨X0.1, X0.2.1, X0.2.2.1, X0.2.2.2.1, fun w h => X0.2.2.2.2 w (List.mem_cons_of_mem _ h)⟩
  have hx := X.1; have hb := X.2.1; have hml := X.2.2.1; have hown := X.2.2.2.1; have hts := X.2.2.2.2
  have hl : lv_has ls 3 [(0, .ref h), (1, .int i), (2, .int y)] := hl
  refine lv_iload_n hx hb d_GrantServer_alter_0 rfl (lv_at hl 2 rfl) ?_
  refine hm_calli hS hM hA (va_runS (As := [.int y]) (rest := []) X (c_isWritable l D k f y   s.heap.size) (hm_cwS hts me_GrantServer_isWritable wl_GrantServer_203 rfl rfl ⟨Nat.le_of_ble_eq_true rfl, Nat.le_of_ble_eq_true rfl⟩) (hm_preS hM hK) rfl rfl hl.1 rfl (lv_room (Nat.le_of_ble_eq_true rfl)) d_GrantServer_alter_1 ⟨Nat.le_of_ble_eq_true rfl, Nat.le_of_ble_eq_true rfl⟩) (fun r3 f1 H locs p2 hM hS => ?_)
  obtain ⟨rfl, rfl⟩ := p2
  refine lv_if_eq (tgt := 23) hx hb d_GrantServer_alter_4 (by decide) (fun h4 => ?_) (fun h4 => ?_)
  · refine lv_iconst (v := 0) hx hb d_GrantServer_alter_23 (by decide) ?_
    exact hm_zret X hQ hr hlk hK hM hS rfl d_GrantServer_alter_24 ⟨rfl, rfl⟩
  · refine lv_aload_n hx hb d_GrantServer_alter_7 rfl (lv_at hl 0 rfl) ?_
    refine hm_get X hK hM hh fl_GrantServer_33 (v := .ref (ad 7)) rfl d_GrantServer_alter_8 ?_
    refine lv_iload_n hx hb d_GrantServer_alter_11 rfl (lv_at hl 1 rfl) ?_
    refine lv_iload_n hx hb d_GrantServer_alter_12 rfl (lv_at hl 2 rfl) ?_
    refine hm_calli hS hM hA (va_runV (As := [.int i, .int y]) (rest := []) X (c_Text_putF l D k f (ad 7) (ad 17) n i y ht0 hi H.size) (hm_cwV hts me_Text_put wl_GrantServer_210 rfl rfl ⟨Nat.le_of_ble_eq_true rfl, Nat.le_of_ble_eq_true rfl⟩) (hm_preV hM hK ht0 rfl) rfl rfl hl.1 rfl (lv_room (Nat.le_of_ble_eq_true rfl)) d_GrantServer_alter_13 ⟨Nat.le_of_ble_eq_true rfl, Nat.le_of_ble_eq_true rfl⟩) (fun r7 f5 H locs p6 hM hS => ?_)
    obtain ⟨rfl, rfl⟩ := p6
    refine lv_if_eq (tgt := 23) hx hb d_GrantServer_alter_16 (by decide) (fun h8 => ?_) (fun h8 => ?_)
    · refine lv_iconst (v := 0) hx hb d_GrantServer_alter_23 (by decide) ?_
      exact hm_zret X hQ hr hlk hK hM hS rfl d_GrantServer_alter_24 ⟨rfl, rfl⟩
    · exact absurd h8 (by decide)
set_option maxHeartbeats 4000000 in
set_option maxRecDepth 100000 in
theorem c_alter (l : Launch) (D : va_G) (k : Nat → ClassId) (f : hm) (h : Nat) (u : Nat → Int32) (ad : Nat → Nat) (n : Nat) (x : Nat → Int32) (j : Nat) (y : Int32) (hh : f h = some (.inr (0, gsV u ad))) (ht0 : f (ad 7) = some (.inr (5, [.ref (ad 17), .int (nI n)]))) (ha0 : f (ad 17) = some (.inl (k 2, 120, .inl x))) (hz : ¬ z_text y = 0) (hn : n ≤ 120) (hj : j < n) (hy : vp_nar .char y = y) : hm_Mi l D vwCl (tyL k) y_GrantServer_alter (Cond.code y_GrantServer_alter b_GrantServer_alter 3 (some .boolean) :: TB) ({ frames := 1, cells := 0, slots := 0, locals := 22 }) [.ref h, .int (nI j), .int y] f (fun (r : Int32) (f1 : hm) => 1 = r ∧ f1 (ad 7) = some (.inr (5, [.ref (ad 17), .int (nI n)])) ∧ f1 (ad 17) = some (.inl (k 2, 120, .inl (upd x j y))) ∧ ∀ (zq : Nat) (zx : va_E), zq ≠ (ad 7) → zq ≠ (ad 17) → f zq = some zx → f1 zq = some zx) 0 0 := by
  refine hm_enter (Qc := fun sz => va_Qi _ (hm_R D vwCl (tyL k) f sz) (hm_A f sz)) (by decide) rfl (Nat.le_of_ble_eq_true rfl) ?_
  intro p e s m below meth cd ls X0 hr hlk hin hK hM hS hA hl Q hQ
  have X : CallFix p m cd b_GrantServer_alter 3 s ([.ref h, .int (nI j), .int y] : List Value).toArray TB R_GrantServer := ⟨X0.1, X0.2.1, X0.2.2.1, X0.2.2.2.1, fun w h => X0.2.2.2.2 w (List.mem_cons_of_mem _ h)⟩
  have hx := X.1; have hb := X.2.1; have hml := X.2.2.1; have hown := X.2.2.2.1; have hts := X.2.2.2.2
  have hl : lv_has ls 3 [(0, .ref h), (1, .int (nI j)), (2, .int y)] := hl
  refine lv_iload_n hx hb d_GrantServer_alter_0 rfl (lv_at hl 2 rfl) ?_
  refine hm_calli hS hM hA (va_runS (As := [.int y]) (rest := []) X (c_isWritable l D k f y   s.heap.size) (hm_cwS hts me_GrantServer_isWritable wl_GrantServer_203 rfl rfl ⟨Nat.le_of_ble_eq_true rfl, Nat.le_of_ble_eq_true rfl⟩) (hm_preS hM hK) rfl rfl hl.1 rfl (lv_room (Nat.le_of_ble_eq_true rfl)) d_GrantServer_alter_1 ⟨Nat.le_of_ble_eq_true rfl, Nat.le_of_ble_eq_true rfl⟩) (fun r3 f1 H locs p2 hM hS => ?_)
  obtain ⟨rfl, rfl⟩ := p2
  refine lv_if_eq (tgt := 23) hx hb d_GrantServer_alter_4 (by decide) (fun h4 => ?_) (fun h4 => ?_)
  · exact absurd h4 hz
  · refine lv_aload_n hx hb d_GrantServer_alter_7 rfl (lv_at hl 0 rfl) ?_
    refine hm_get X hK hM hh fl_GrantServer_33 (v := .ref (ad 7)) rfl d_GrantServer_alter_8 ?_
    refine lv_iload_n hx hb d_GrantServer_alter_11 rfl (lv_at hl 1 rfl) ?_
    refine lv_iload_n hx hb d_GrantServer_alter_12 rfl (lv_at hl 2 rfl) ?_
    refine hm_calli hS hM hA (va_runV (As := [.int (nI j), .int y]) (rest := []) X (c_Text_put l D k f (ad 7) (ad 17) n x j y ht0 ha0 hn hj hy H.size) (hm_cwV hts me_Text_put wl_GrantServer_210 rfl rfl ⟨Nat.le_of_ble_eq_true rfl, Nat.le_of_ble_eq_true rfl⟩) (hm_preV hM hK ht0 rfl) rfl rfl hl.1 rfl (lv_room (Nat.le_of_ble_eq_true rfl)) d_GrantServer_alter_13 ⟨Nat.le_of_ble_eq_true rfl, Nat.le_of_ble_eq_true rfl⟩) (fun r7 f5 H locs p6 hM hS => ?_)
    obtain ⟨rfl, g8, g9, hfr10⟩ := p6
    refine lv_if_eq (tgt := 23) hx hb d_GrantServer_alter_16 (by decide) (fun h11 => ?_) (fun h11 => ?_)
    · exact absurd h11 (by decide)
    · refine lv_iconst (v := 1) hx hb d_GrantServer_alter_19 (by decide) ?_
      refine lv_goto (tgt := 24) hx hb d_GrantServer_alter_20 (by decide) ?_
      exact hm_zret X hQ hr hlk hK hM hS rfl d_GrantServer_alter_24 ⟨rfl, g8, g9, (fun zq zx n0 n1 hq => by have t0 := hq; have t1 := hfr10 _ _ n0 n1 t0; exact t1)⟩
set_option maxHeartbeats 4000000 in
set_option maxRecDepth 100000 in
theorem c_letter_in (l : Launch) (D : va_G) (k : Nat → ClassId) (f : hm) (h : Nat) (u : Nat → Int32) (ad : Nat → Nat) (n : Nat) (w : Nat → Int32) (x : Int32) (i : Int32) (hh : f h = some (.inr (0, gsV u ad))) (ht0 : f (ad 7) = some (.inr (5, [.ref (ad 17), .int (nI n)]))) (ha0 : f (ad 17) = some (.inl (k 2, 120, .inl w))) (hx9 : x = 0) (hn : n ≤ 120) : hm_Mi l D vwCl (tyL k) y_GrantServer_letter (Cond.code y_GrantServer_letter b_GrantServer_letter 3 (some .int) :: TB) ({ frames := 1, cells := 0, slots := 0, locals := 21 }) [.ref h, .int x, .int i] f (fun (r : Int32) (f1 : hm) => z_at n w i = r ∧ f = f1) 0 0 := by
  refine hm_enter (Qc := fun sz => va_Qi _ (hm_R D vwCl (tyL k) f sz) (hm_A f sz)) (by decide) rfl (Nat.le_of_ble_eq_true rfl) ?_
  intro p e s m below meth cd ls X0 hr hlk hin hK hM hS hA hl Q hQ
  have X : CallFix p m cd b_GrantServer_letter 3 s ([.ref h, .int x, .int i] : List Value).toArray TB R_GrantServer := ⟨X0.1, X0.2.1, X0.2.2.1, X0.2.2.2.1, fun w h => X0.2.2.2.2 w (List.mem_cons_of_mem _ h)⟩
  have hx := X.1; have hb := X.2.1; have hml := X.2.2.1; have hown := X.2.2.2.1; have hts := X.2.2.2.2
  have hl : lv_has ls 3 [(0, .ref h), (1, .int x), (2, .int i)] := hl
  refine lv_iload_n hx hb d_GrantServer_letter_0 rfl (lv_at hl 1 rfl) ?_
  refine lv_if_eq (tgt := 15) hx hb d_GrantServer_letter_1 (by decide) (fun h1 => ?_) (fun h1 => ?_)
  · refine lv_aload_n hx hb d_GrantServer_letter_15 rfl (lv_at hl 0 rfl) ?_
    refine hm_get X hK hM hh fl_GrantServer_33 (v := .ref (ad 7)) rfl d_GrantServer_letter_16 ?_
    refine lv_iload_n hx hb d_GrantServer_letter_19 rfl (lv_at hl 2 rfl) ?_
    refine hm_calli hS hM hA (va_runV (As := [.int i]) (rest := []) X (c_Text_codeAt l D k f (ad 7) (ad 17) n w i ht0 ha0 hn s.heap.size) (hm_cwV hts me_Text_codeAt wl_GrantServer_224 rfl rfl ⟨Nat.le_of_ble_eq_true rfl, Nat.le_of_ble_eq_true rfl⟩) (hm_preV hM hK ht0 rfl) rfl rfl hl.1 rfl (lv_room (Nat.le_of_ble_eq_true rfl)) d_GrantServer_letter_20 ⟨Nat.le_of_ble_eq_true rfl, Nat.le_of_ble_eq_true rfl⟩) (fun r4 f2 H locs p3 hM hS => ?_)
    obtain ⟨rfl, rfl⟩ := p3
    exact hm_iret X hQ hr hlk hK hM hS d_GrantServer_letter_23 ⟨rfl, rfl⟩
  · exact absurd hx9 h1
set_option maxHeartbeats 4000000 in
set_option maxRecDepth 100000 in
theorem c_letter_out (l : Launch) (D : va_G) (k : Nat → ClassId) (f : hm) (h : Nat) (u : Nat → Int32) (ad : Nat → Nat) (n : Nat) (w : Nat → Int32) (x : Int32) (i : Int32) (hh : f h = some (.inr (0, gsV u ad))) (ht1 : f (ad 8) = some (.inr (5, [.ref (ad 18), .int (nI n)]))) (ha1 : f (ad 18) = some (.inl (k 2, 120, .inl w))) (hx9 : ¬ x = 0) (hn : n ≤ 120) : hm_Mi l D vwCl (tyL k) y_GrantServer_letter (Cond.code y_GrantServer_letter b_GrantServer_letter 3 (some .int) :: TB) ({ frames := 1, cells := 0, slots := 0, locals := 21 }) [.ref h, .int x, .int i] f (fun (r : Int32) (f1 : hm) => z_at n w i = r ∧ f = f1) 0 0 := by
  refine hm_enter (Qc := fun sz => va_Qi _ (hm_R D vwCl (tyL k) f sz) (hm_A f sz)) (by decide) rfl (Nat.le_of_ble_eq_true rfl) ?_
  intro p e s m below meth cd ls X0 hr hlk hin hK hM hS hA hl Q hQ
  have X : CallFix p m cd b_GrantServer_letter 3 s ([.ref h, .int x, .int i] : List Value).toArray TB R_GrantServer := ⟨X0.1, X0.2.1, X0.2.2.1, X0.2.2.2.1, fun w h => X0.2.2.2.2 w (List.mem_cons_of_mem _ h)⟩
  have hx := X.1; have hb := X.2.1; have hml := X.2.2.1; have hown := X.2.2.2.1; have hts := X.2.2.2.2
  have hl : lv_has ls 3 [(0, .ref h), (1, .int x), (2, .int i)] := hl
  refine lv_iload_n hx hb d_GrantServer_letter_0 rfl (lv_at hl 1 rfl) ?_
  refine lv_if_eq (tgt := 15) hx hb d_GrantServer_letter_1 (by decide) (fun h1 => ?_) (fun h1 => ?_)
  · exact absurd h1 hx9
  · refine lv_aload_n hx hb d_GrantServer_letter_4 rfl (lv_at hl 0 rfl) ?_
    refine hm_get X hK hM hh fl_GrantServer_37 (v := .ref (ad 8)) rfl d_GrantServer_letter_5 ?_
    refine lv_iload_n hx hb d_GrantServer_letter_8 rfl (lv_at hl 2 rfl) ?_
    refine hm_calli hS hM hA (va_runV (As := [.int i]) (rest := []) X (c_Text_codeAt l D k f (ad 8) (ad 18) n w i ht1 ha1 hn s.heap.size) (hm_cwV hts me_Text_codeAt wl_GrantServer_224 rfl rfl ⟨Nat.le_of_ble_eq_true rfl, Nat.le_of_ble_eq_true rfl⟩) (hm_preV hM hK ht1 rfl) rfl rfl hl.1 rfl (lv_room (Nat.le_of_ble_eq_true rfl)) d_GrantServer_letter_9 ⟨Nat.le_of_ble_eq_true rfl, Nat.le_of_ble_eq_true rfl⟩) (fun r4 f2 H locs p3 hM hS => ?_)
    obtain ⟨rfl, rfl⟩ := p3
    refine lv_goto (tgt := 23) hx hb d_GrantServer_letter_12 (by decide) ?_
    exact hm_iret X hQ hr hlk hK hM hS d_GrantServer_letter_23 ⟨rfl, rfl⟩
