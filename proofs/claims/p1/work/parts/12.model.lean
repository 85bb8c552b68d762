theorem d_GrantServerModel_within_0 : decode b_GrantServerModel_within 0 = .ok (.iload_n 0, 1) := by decide +kernel
theorem d_GrantServerModel_within_1 : decode b_GrantServerModel_within 1 = .ok (.iconst 1, 1) := by decide +kernel
theorem d_GrantServerModel_within_2 : decode b_GrantServerModel_within 2 = .ok (.if_icmp .ge 7, 3) := by decide +kernel
theorem d_GrantServerModel_within_5 : decode b_GrantServerModel_within 5 = .ok (.iconst 1, 1) := by decide +kernel
theorem d_GrantServerModel_within_6 : decode b_GrantServerModel_within 6 = .ok (.goto 17, 3) := by decide +kernel
theorem d_GrantServerModel_within_9 : decode b_GrantServerModel_within 9 = .ok (.iload_n 0, 1) := by decide +kernel
theorem d_GrantServerModel_within_10 : decode b_GrantServerModel_within 10 = .ok (.sipush 1000, 3) := by decide +kernel
theorem d_GrantServerModel_within_13 : decode b_GrantServerModel_within 13 = .ok (.if_icmp .le 9, 3) := by decide +kernel
theorem d_GrantServerModel_within_16 : decode b_GrantServerModel_within 16 = .ok (.sipush 1000, 3) := by decide +kernel
theorem d_GrantServerModel_within_19 : decode b_GrantServerModel_within 19 = .ok (.goto 4, 3) := by decide +kernel
theorem d_GrantServerModel_within_22 : decode b_GrantServerModel_within 22 = .ok (.iload_n 0, 1) := by decide +kernel
theorem d_GrantServerModel_within_23 : decode b_GrantServerModel_within 23 = .ok (.ireturn, 1) := by decide +kernel
theorem d_GrantServerModel_isClient_0 : decode b_GrantServerModel_isClient 0 = .ok (.iload_n 1, 1) := by decide +kernel
theorem d_GrantServerModel_isClient_1 : decode b_GrantServerModel_isClient 1 = .ok (.ifCond .lt 15, 3) := by decide +kernel
theorem d_GrantServerModel_isClient_4 : decode b_GrantServerModel_isClient 4 = .ok (.iload_n 1, 1) := by decide +kernel
theorem d_GrantServerModel_isClient_5 : decode b_GrantServerModel_isClient 5 = .ok (.aload_n 0, 1) := by decide +kernel
theorem d_GrantServerModel_isClient_6 : decode b_GrantServerModel_isClient 6 = .ok (.getfield 86, 3) := by decide +kernel
theorem d_GrantServerModel_isClient_9 : decode b_GrantServerModel_isClient 9 = .ok (.if_icmp .ge 7, 3) := by decide +kernel
theorem d_GrantServerModel_isClient_12 : decode b_GrantServerModel_isClient 12 = .ok (.iconst 1, 1) := by decide +kernel
theorem d_GrantServerModel_isClient_13 : decode b_GrantServerModel_isClient 13 = .ok (.goto 4, 3) := by decide +kernel
theorem d_GrantServerModel_isClient_16 : decode b_GrantServerModel_isClient 16 = .ok (.iconst 0, 1) := by decide +kernel
theorem d_GrantServerModel_isClient_17 : decode b_GrantServerModel_isClient 17 = .ok (.ireturn, 1) := by decide +kernel
theorem d_GrantServerModel_from_0 : decode b_GrantServerModel_from 0 = .ok (.iload_n 0, 1) := by decide +kernel
theorem d_GrantServerModel_from_1 : decode b_GrantServerModel_from 1 = .ok (.ifCond .ne 7, 3) := by decide +kernel
theorem d_GrantServerModel_from_4 : decode b_GrantServerModel_from 4 = .ok (.iconst 0, 1) := by decide +kernel
theorem d_GrantServerModel_from_5 : decode b_GrantServerModel_from 5 = .ok (.goto 15, 3) := by decide +kernel
theorem d_GrantServerModel_from_8 : decode b_GrantServerModel_from 8 = .ok (.iload_n 0, 1) := by decide +kernel
theorem d_GrantServerModel_from_9 : decode b_GrantServerModel_from 9 = .ok (.iconst 1, 1) := by decide +kernel
theorem d_GrantServerModel_from_10 : decode b_GrantServerModel_from 10 = .ok (.if_icmp .ne 8, 3) := by decide +kernel
theorem d_GrantServerModel_from_13 : decode b_GrantServerModel_from 13 = .ok (.bipush 16, 2) := by decide +kernel
theorem d_GrantServerModel_from_15 : decode b_GrantServerModel_from 15 = .ok (.goto 5, 3) := by decide +kernel
theorem d_GrantServerModel_from_18 : decode b_GrantServerModel_from 18 = .ok (.bipush 40, 2) := by decide +kernel
theorem d_GrantServerModel_from_20 : decode b_GrantServerModel_from 20 = .ok (.ireturn, 1) := by decide +kernel
theorem d_GrantServerModel_to_0 : decode b_GrantServerModel_to 0 = .ok (.iload_n 0, 1) := by decide +kernel
theorem d_GrantServerModel_to_1 : decode b_GrantServerModel_to 1 = .ok (.ifCond .ne 8, 3) := by decide +kernel
theorem d_GrantServerModel_to_4 : decode b_GrantServerModel_to 4 = .ok (.bipush 16, 2) := by decide +kernel
theorem d_GrantServerModel_to_6 : decode b_GrantServerModel_to 6 = .ok (.goto 15, 3) := by decide +kernel
theorem d_GrantServerModel_to_9 : decode b_GrantServerModel_to 9 = .ok (.iload_n 0, 1) := by decide +kernel
theorem d_GrantServerModel_to_10 : decode b_GrantServerModel_to 10 = .ok (.iconst 1, 1) := by decide +kernel
theorem d_GrantServerModel_to_11 : decode b_GrantServerModel_to 11 = .ok (.if_icmp .ne 8, 3) := by decide +kernel
theorem d_GrantServerModel_to_14 : decode b_GrantServerModel_to 14 = .ok (.bipush 40, 2) := by decide +kernel
theorem d_GrantServerModel_to_16 : decode b_GrantServerModel_to 16 = .ok (.goto 5, 3) := by decide +kernel
theorem d_GrantServerModel_to_19 : decode b_GrantServerModel_to 19 = .ok (.bipush 64, 2) := by decide +kernel
theorem d_GrantServerModel_to_21 : decode b_GrantServerModel_to 21 = .ok (.ireturn, 1) := by decide +kernel
theorem d_GrantServerModel_find_0 : decode b_GrantServerModel_find 0 = .ok (.iload_n 1, 1) := by decide +kernel
theorem d_GrantServerModel_find_1 : decode b_GrantServerModel_find 1 = .ok (.invokestatic 93, 3) := by decide +kernel
theorem d_GrantServerModel_find_4 : decode b_GrantServerModel_find 4 = .ok (.istore_n 3, 1) := by decide +kernel
theorem d_GrantServerModel_find_5 : decode b_GrantServerModel_find 5 = .ok (.iload_n 3, 1) := by decide +kernel
theorem d_GrantServerModel_find_6 : decode b_GrantServerModel_find 6 = .ok (.iload_n 1, 1) := by decide +kernel
theorem d_GrantServerModel_find_7 : decode b_GrantServerModel_find 7 = .ok (.invokestatic 96, 3) := by decide +kernel
theorem d_GrantServerModel_find_10 : decode b_GrantServerModel_find 10 = .ok (.if_icmp .ge 25, 3) := by decide +kernel
theorem d_GrantServerModel_find_13 : decode b_GrantServerModel_find 13 = .ok (.iload_n 2, 1) := by decide +kernel
theorem d_GrantServerModel_find_14 : decode b_GrantServerModel_find 14 = .ok (.ifCond .eq 15, 3) := by decide +kernel
theorem d_GrantServerModel_find_17 : decode b_GrantServerModel_find 17 = .ok (.aload_n 0, 1) := by decide +kernel
theorem d_GrantServerModel_find_18 : decode b_GrantServerModel_find 18 = .ok (.getfield 23, 3) := by decide +kernel
theorem d_GrantServerModel_find_21 : decode b_GrantServerModel_find 21 = .ok (.iload_n 3, 1) := by decide +kernel
theorem d_GrantServerModel_find_22 : decode b_GrantServerModel_find 22 = .ok (.iaload, 1) := by decide +kernel
theorem d_GrantServerModel_find_23 : decode b_GrantServerModel_find 23 = .ok (.iload_n 2, 1) := by decide +kernel
theorem d_GrantServerModel_find_24 : decode b_GrantServerModel_find 24 = .ok (.if_icmp .ne 5, 3) := by decide +kernel
theorem d_GrantServerModel_find_27 : decode b_GrantServerModel_find 27 = .ok (.iload_n 3, 1) := by decide +kernel
theorem d_GrantServerModel_find_28 : decode b_GrantServerModel_find 28 = .ok (.ireturn, 1) := by decide +kernel
theorem d_GrantServerModel_find_29 : decode b_GrantServerModel_find 29 = .ok (.iinc 3 1, 3) := by decide +kernel
theorem d_GrantServerModel_find_32 : decode b_GrantServerModel_find 32 = .ok (.goto (-27), 3) := by decide +kernel
theorem d_GrantServerModel_find_35 : decode b_GrantServerModel_find 35 = .ok (.iconst (-1), 1) := by decide +kernel
theorem d_GrantServerModel_find_36 : decode b_GrantServerModel_find 36 = .ok (.ireturn, 1) := by decide +kernel
theorem d_GrantServerModel_room_0 : decode b_GrantServerModel_room 0 = .ok (.iload_n 1, 1) := by decide +kernel
theorem d_GrantServerModel_room_1 : decode b_GrantServerModel_room 1 = .ok (.invokestatic 93, 3) := by decide +kernel
theorem d_GrantServerModel_room_4 : decode b_GrantServerModel_room 4 = .ok (.istore_n 2, 1) := by decide +kernel
theorem d_GrantServerModel_room_5 : decode b_GrantServerModel_room 5 = .ok (.iload_n 2, 1) := by decide +kernel
theorem d_GrantServerModel_room_6 : decode b_GrantServerModel_room 6 = .ok (.iload_n 1, 1) := by decide +kernel
theorem d_GrantServerModel_room_7 : decode b_GrantServerModel_room 7 = .ok (.invokestatic 96, 3) := by decide +kernel
theorem d_GrantServerModel_room_10 : decode b_GrantServerModel_room 10 = .ok (.if_icmp .ge 20, 3) := by decide +kernel
theorem d_GrantServerModel_room_13 : decode b_GrantServerModel_room 13 = .ok (.aload_n 0, 1) := by decide +kernel
theorem d_GrantServerModel_room_14 : decode b_GrantServerModel_room 14 = .ok (.getfield 23, 3) := by decide +kernel
theorem d_GrantServerModel_room_17 : decode b_GrantServerModel_room 17 = .ok (.iload_n 2, 1) := by decide +kernel
theorem d_GrantServerModel_room_18 : decode b_GrantServerModel_room 18 = .ok (.iaload, 1) := by decide +kernel
theorem d_GrantServerModel_room_19 : decode b_GrantServerModel_room 19 = .ok (.ifCond .ne 5, 3) := by decide +kernel
theorem d_GrantServerModel_room_22 : decode b_GrantServerModel_room 22 = .ok (.iload_n 2, 1) := by decide +kernel
theorem d_GrantServerModel_room_23 : decode b_GrantServerModel_room 23 = .ok (.ireturn, 1) := by decide +kernel
theorem d_GrantServerModel_room_24 : decode b_GrantServerModel_room 24 = .ok (.iinc 2 1, 3) := by decide +kernel
theorem d_GrantServerModel_room_27 : decode b_GrantServerModel_room 27 = .ok (.goto (-22), 3) := by decide +kernel
theorem d_GrantServerModel_room_30 : decode b_GrantServerModel_room 30 = .ok (.iconst (-1), 1) := by decide +kernel
theorem d_GrantServerModel_room_31 : decode b_GrantServerModel_room 31 = .ok (.ireturn, 1) := by decide +kernel
theorem d_GrantServerModel_isActive_0 : decode b_GrantServerModel_isActive 0 = .ok (.aload_n 0, 1) := by decide +kernel
theorem d_GrantServerModel_isActive_1 : decode b_GrantServerModel_isActive 1 = .ok (.getfield 23, 3) := by decide +kernel
theorem d_GrantServerModel_isActive_4 : decode b_GrantServerModel_isActive 4 = .ok (.iload_n 1, 1) := by decide +kernel
theorem d_GrantServerModel_isActive_5 : decode b_GrantServerModel_isActive 5 = .ok (.iaload, 1) := by decide +kernel
theorem d_GrantServerModel_isActive_6 : decode b_GrantServerModel_isActive 6 = .ok (.ifCond .eq 52, 3) := by decide +kernel
theorem d_GrantServerModel_isActive_9 : decode b_GrantServerModel_isActive 9 = .ok (.aload_n 0, 1) := by decide +kernel
theorem d_GrantServerModel_isActive_10 : decode b_GrantServerModel_isActive 10 = .ok (.getfield 35, 3) := by decide +kernel
theorem d_GrantServerModel_isActive_13 : decode b_GrantServerModel_isActive 13 = .ok (.iload_n 1, 1) := by decide +kernel
theorem d_GrantServerModel_isActive_14 : decode b_GrantServerModel_isActive 14 = .ok (.baload, 1) := by decide +kernel
theorem d_GrantServerModel_isActive_15 : decode b_GrantServerModel_isActive 15 = .ok (.ifCond .ne 43, 3) := by decide +kernel
theorem d_GrantServerModel_isActive_18 : decode b_GrantServerModel_isActive 18 = .ok (.aload_n 0, 1) := by decide +kernel
theorem d_GrantServerModel_isActive_19 : decode b_GrantServerModel_isActive 19 = .ok (.getfield 32, 3) := by decide +kernel
theorem d_GrantServerModel_isActive_22 : decode b_GrantServerModel_isActive 22 = .ok (.iload_n 1, 1) := by decide +kernel
theorem d_GrantServerModel_isActive_23 : decode b_GrantServerModel_isActive 23 = .ok (.iaload, 1) := by decide +kernel
theorem d_GrantServerModel_isActive_24 : decode b_GrantServerModel_isActive 24 = .ok (.aload_n 0, 1) := by decide +kernel
theorem d_GrantServerModel_isActive_25 : decode b_GrantServerModel_isActive 25 = .ok (.getfield 104, 3) := by decide +kernel
theorem d_GrantServerModel_isActive_28 : decode b_GrantServerModel_isActive 28 = .ok (.if_icmp .le 30, 3) := by decide +kernel
theorem d_GrantServerModel_isActive_31 : decode b_GrantServerModel_isActive 31 = .ok (.aload_n 0, 1) := by decide +kernel
theorem d_GrantServerModel_isActive_32 : decode b_GrantServerModel_isActive 32 = .ok (.getfield 39, 3) := by decide +kernel
theorem d_GrantServerModel_isActive_35 : decode b_GrantServerModel_isActive 35 = .ok (.iload_n 1, 1) := by decide +kernel
theorem d_GrantServerModel_isActive_36 : decode b_GrantServerModel_isActive 36 = .ok (.iaload, 1) := by decide +kernel
theorem d_GrantServerModel_isActive_37 : decode b_GrantServerModel_isActive 37 = .ok (.ifCond .lt 17, 3) := by decide +kernel
theorem d_GrantServerModel_isActive_40 : decode b_GrantServerModel_isActive 40 = .ok (.aload_n 0, 1) := by decide +kernel
theorem d_GrantServerModel_isActive_41 : decode b_GrantServerModel_isActive 41 = .ok (.getfield 54, 3) := by decide +kernel
theorem d_GrantServerModel_isActive_44 : decode b_GrantServerModel_isActive 44 = .ok (.aload_n 0, 1) := by decide +kernel
theorem d_GrantServerModel_isActive_45 : decode b_GrantServerModel_isActive 45 = .ok (.getfield 39, 3) := by decide +kernel
theorem d_GrantServerModel_isActive_48 : decode b_GrantServerModel_isActive 48 = .ok (.iload_n 1, 1) := by decide +kernel
theorem d_GrantServerModel_isActive_49 : decode b_GrantServerModel_isActive 49 = .ok (.iaload, 1) := by decide +kernel
theorem d_GrantServerModel_isActive_50 : decode b_GrantServerModel_isActive 50 = .ok (.baload, 1) := by decide +kernel
theorem d_GrantServerModel_isActive_51 : decode b_GrantServerModel_isActive 51 = .ok (.ifCond .ne 7, 3) := by decide +kernel
theorem d_GrantServerModel_isActive_54 : decode b_GrantServerModel_isActive 54 = .ok (.iconst 1, 1) := by decide +kernel
theorem d_GrantServerModel_isActive_55 : decode b_GrantServerModel_isActive 55 = .ok (.goto 4, 3) := by decide +kernel
theorem d_GrantServerModel_isActive_58 : decode b_GrantServerModel_isActive 58 = .ok (.iconst 0, 1) := by decide +kernel
theorem d_GrantServerModel_isActive_59 : decode b_GrantServerModel_isActive 59 = .ok (.ireturn, 1) := by decide +kernel
theorem d_GrantServerModel_tick_0 : decode b_GrantServerModel_tick 0 = .ok (.iload_n 1, 1) := by decide +kernel
theorem d_GrantServerModel_tick_1 : decode b_GrantServerModel_tick 1 = .ok (.ifCond .lt 10, 3) := by decide +kernel
theorem d_GrantServerModel_tick_4 : decode b_GrantServerModel_tick 4 = .ok (.iload_n 1, 1) := by decide +kernel
theorem d_GrantServerModel_tick_5 : decode b_GrantServerModel_tick 5 = .ok (.sipush 10000, 3) := by decide +kernel
theorem d_GrantServerModel_tick_8 : decode b_GrantServerModel_tick 8 = .ok (.if_icmp .le 5, 3) := by decide +kernel
theorem d_GrantServerModel_tick_11 : decode b_GrantServerModel_tick 11 = .ok (.iconst 0, 1) := by decide +kernel
theorem d_GrantServerModel_tick_12 : decode b_GrantServerModel_tick 12 = .ok (.ireturn, 1) := by decide +kernel
theorem d_GrantServerModel_tick_13 : decode b_GrantServerModel_tick 13 = .ok (.aload_n 0, 1) := by decide +kernel
theorem d_GrantServerModel_tick_14 : decode b_GrantServerModel_tick 14 = .ok (.aload_n 0, 1) := by decide +kernel
theorem d_GrantServerModel_tick_15 : decode b_GrantServerModel_tick 15 = .ok (.getfield 104, 3) := by decide +kernel
theorem d_GrantServerModel_tick_18 : decode b_GrantServerModel_tick 18 = .ok (.iload_n 1, 1) := by decide +kernel
theorem d_GrantServerModel_tick_19 : decode b_GrantServerModel_tick 19 = .ok (.iadd, 1) := by decide +kernel
theorem d_GrantServerModel_tick_20 : decode b_GrantServerModel_tick 20 = .ok (.putfield 104, 3) := by decide +kernel
theorem d_GrantServerModel_tick_23 : decode b_GrantServerModel_tick 23 = .ok (.iconst 1, 1) := by decide +kernel
theorem d_GrantServerModel_tick_24 : decode b_GrantServerModel_tick 24 = .ok (.ireturn, 1) := by decide +kernel
theorem d_GrantServerModel_isText_0 : decode b_GrantServerModel_isText 0 = .ok (.iload_n 0, 1) := by decide +kernel
theorem d_GrantServerModel_isText_1 : decode b_GrantServerModel_isText 1 = .ok (.bipush 32, 2) := by decide +kernel
theorem d_GrantServerModel_isText_3 : decode b_GrantServerModel_isText 3 = .ok (.if_icmp .lt 13, 3) := by decide +kernel
theorem d_GrantServerModel_isText_6 : decode b_GrantServerModel_isText 6 = .ok (.iload_n 0, 1) := by decide +kernel
theorem d_GrantServerModel_isText_7 : decode b_GrantServerModel_isText 7 = .ok (.bipush 126, 2) := by decide +kernel
theorem d_GrantServerModel_isText_9 : decode b_GrantServerModel_isText 9 = .ok (.if_icmp .gt 7, 3) := by decide +kernel
theorem d_GrantServerModel_isText_12 : decode b_GrantServerModel_isText 12 = .ok (.iconst 1, 1) := by decide +kernel
theorem d_GrantServerModel_isText_13 : decode b_GrantServerModel_isText 13 = .ok (.goto 4, 3) := by decide +kernel
theorem d_GrantServerModel_isText_16 : decode b_GrantServerModel_isText 16 = .ok (.iconst 0, 1) := by decide +kernel
theorem d_GrantServerModel_isText_17 : decode b_GrantServerModel_isText 17 = .ok (.ireturn, 1) := by decide +kernel
set_option maxRecDepth 20000 in
theorem fl_GrantServerModel_104 : hm_fl vwCl TB R_GrantServerModel 104 8 4 false .int := ⟨_, _, _, _, cl_GrantServerModel, by decide, (TBm 696 (by decide +kernel) rfl), rfl, rfl⟩
set_option maxRecDepth 20000 in
theorem fl_GrantServerModel_23 : hm_fl vwCl TB R_GrantServerModel 23 8 10 true (.array .int) := ⟨_, _, _, _, cl_GrantServerModel, by decide, (TBm 702 (by decide +kernel) rfl), rfl, rfl⟩
set_option maxRecDepth 20000 in
theorem fl_GrantServerModel_32 : hm_fl vwCl TB R_GrantServerModel 32 8 13 true (.array .int) := ⟨_, _, _, _, cl_GrantServerModel, by decide, (TBm 705 (by decide +kernel) rfl), rfl, rfl⟩
set_option maxRecDepth 20000 in
theorem fl_GrantServerModel_35 : hm_fl vwCl TB R_GrantServerModel 35 8 14 true (.array .boolean) := ⟨_, _, _, _, cl_GrantServerModel, by decide, (TBm 706 (by decide +kernel) rfl), rfl, rfl⟩
set_option maxRecDepth 20000 in
theorem fl_GrantServerModel_39 : hm_fl vwCl TB R_GrantServerModel 39 8 15 true (.array .int) := ⟨_, _, _, _, cl_GrantServerModel, by decide, (TBm 707 (by decide +kernel) rfl), rfl, rfl⟩
set_option maxRecDepth 20000 in
theorem fl_GrantServerModel_54 : hm_fl vwCl TB R_GrantServerModel 54 8 21 true (.array .boolean) := ⟨_, _, _, _, cl_GrantServerModel, by decide, (TBm 713 (by decide +kernel) rfl), rfl, rfl⟩
set_option maxRecDepth 20000 in
theorem fl_GrantServerModel_86 : hm_fl vwCl TB R_GrantServerModel 86 8 8 false .int := ⟨_, _, _, _, cl_GrantServerModel, by decide, (TBm 700 (by decide +kernel) rfl), rfl, rfl⟩
set_option maxRecDepth 20000 in
theorem me_GrantServerModel_from : hm_meS y_GrantServerModel_from b_GrantServerModel_from 1 (some .int) 1 := ⟨⟨(TBm 814 rfl rfl), (TBm 47 (by decide +kernel) rfl), by decide +kernel⟩, (TBm 813 (by decide +kernel) rfl)⟩
set_option maxRecDepth 20000 in
theorem me_GrantServerModel_to : hm_meS y_GrantServerModel_to b_GrantServerModel_to 1 (some .int) 1 := ⟨⟨(TBm 817 rfl rfl), (TBm 47 (by decide +kernel) rfl), by decide +kernel⟩, (TBm 816 (by decide +kernel) rfl)⟩
set_option maxRecDepth 20000 in
theorem wl_GrantServerModel_93 : Cond.methodLink R_GrantServerModel 93 y_GrantServerModel_from ∈ TB := TBm 812 (by decide +kernel) rfl
set_option maxRecDepth 20000 in
theorem wl_GrantServerModel_96 : Cond.methodLink R_GrantServerModel 96 y_GrantServerModel_to ∈ TB := TBm 815 (by decide +kernel) rfl
set_option maxHeartbeats 4000000 in
set_option maxRecDepth 100000 in
theorem m_c_within (l : Launch) (D : va_G) (k : Nat → ClassId) (f : hm) (x : Int32) : hm_Mi l D vwCl (tyL k) y_GrantServerModel_within (Cond.code y_GrantServerModel_within b_GrantServerModel_within 1 (some .int) :: TB) ({ frames := 0, cells := 0, slots := 0, locals := 0 }) [.int x] f (fun (r : Int32) (f1 : hm) => m_kept x = r ∧ f = f1) 0 0 := by
  refine hm_enter (Qc := fun sz => va_Qi _ (hm_R D vwCl (tyL k) f sz) (hm_A f sz)) (by decide) rfl (Nat.le_of_ble_eq_true rfl) ?_
  intro p e s m below meth cd ls X0 hr hlk hin hK hM hS hA hl Q hQ
  have X : CallFix p m cd b_GrantServerModel_within 1 s ([.int x] : List Value).toArray TB R_GrantServerModel := ⟨X0.1, X0.2.1, X0.2.2.1, X0.2.2.2.1, fun w h => X0.2.2.2.2 w (List.mem_cons_of_mem _ h)⟩
  have hx := X.1; have hb := X.2.1; have hml := X.2.2.1; have hown := X.2.2.2.1; have hts := X.2.2.2.2
  have hl : lv_has ls 1 [(0, .int x)] := hl
  refine lv_iload_n hx hb d_GrantServerModel_within_0 rfl (lv_at hl 0 rfl) ?_
  refine lv_iconst (v := 1) hx hb d_GrantServerModel_within_1 (by decide) ?_
  refine lv_icmp_ge (tgt := 9) hx hb d_GrantServerModel_within_2 (by decide) (fun h1 => ?_) (fun h1 => ?_)
  · refine lv_iload_n hx hb d_GrantServerModel_within_9 rfl (lv_at hl 0 rfl) ?_
    refine lv_sipush (v := 1000) hx hb d_GrantServerModel_within_10 (by decide) ?_
    refine lv_icmp_le (tgt := 22) hx hb d_GrantServerModel_within_13 (by decide) (fun h2 => ?_) (fun h2 => ?_)
    · refine lv_iload_n hx hb d_GrantServerModel_within_22 rfl (lv_at hl 0 rfl) ?_
      exact hm_iret X hQ hr hlk hK hM hS d_GrantServerModel_within_23 ⟨(by simp [m_kept, h1, Int32.not_lt.mpr h1, h2, Int32.not_lt.mpr h2]), rfl⟩
    · refine lv_sipush (v := 1000) hx hb d_GrantServerModel_within_16 (by decide) ?_
      refine lv_goto (tgt := 23) hx hb d_GrantServerModel_within_19 (by decide) ?_
      exact hm_iret X hQ hr hlk hK hM hS d_GrantServerModel_within_23 ⟨(by simp [m_kept, h1, Int32.not_lt.mpr h1, h2, Int32.not_le.mp h2]), rfl⟩
  · refine lv_iconst (v := 1) hx hb d_GrantServerModel_within_5 (by decide) ?_
    refine lv_goto (tgt := 23) hx hb d_GrantServerModel_within_6 (by decide) ?_
    exact hm_iret X hQ hr hlk hK hM hS d_GrantServerModel_within_23 ⟨(by simp [m_kept, h1, Int32.not_le.mp h1]), rfl⟩
set_option maxHeartbeats 4000000 in
set_option maxRecDepth 100000 in
theorem m_c_from (l : Launch) (D : va_G) (k : Nat → ClassId) (f : hm) (x : Int32) : hm_Mi l D vwCl (tyL k) y_GrantServerModel_from (Cond.code y_GrantServerModel_from b_GrantServerModel_from 1 (some .int) :: TB) ({ frames := 0, cells := 0, slots := 0, locals := 0 }) [.int x] f (fun (r : Int32) (f1 : hm) => m_from x = r ∧ f = f1) 0 0 := by
  refine hm_enter (Qc := fun sz => va_Qi _ (hm_R D vwCl (tyL k) f sz) (hm_A f sz)) (by decide) rfl (Nat.le_of_ble_eq_true rfl) ?_
  intro p e s m below meth cd ls X0 hr hlk hin hK hM hS hA hl Q hQ
  have X : CallFix p m cd b_GrantServerModel_from 1 s ([.int x] : List Value).toArray TB R_GrantServerModel := ⟨X0.1, X0.2.1, X0.2.2.1, X0.2.2.2.1, fun w h => X0.2.2.2.2 w (List.mem_cons_of_mem _ h)⟩
  have hx := X.1; have hb := X.2.1; have hml := X.2.2.1; have hown := X.2.2.2.1; have hts := X.2.2.2.2
  have hl : lv_has ls 1 [(0, .int x)] := hl
  refine lv_iload_n hx hb d_GrantServerModel_from_0 rfl (lv_at hl 0 rfl) ?_
  refine lv_if_ne (tgt := 8) hx hb d_GrantServerModel_from_1 (by decide) (fun h1 => ?_) (fun h1 => ?_)
  · refine lv_iload_n hx hb d_GrantServerModel_from_8 rfl (lv_at hl 0 rfl) ?_
    refine lv_iconst (v := 1) hx hb d_GrantServerModel_from_9 (by decide) ?_
    refine lv_icmp_ne (tgt := 18) hx hb d_GrantServerModel_from_10 (by decide) (fun h2 => ?_) (fun h2 => ?_)
    · refine lv_bipush (v := 40) hx hb d_GrantServerModel_from_18 (by decide) ?_
      exact hm_iret X hQ hr hlk hK hM hS d_GrantServerModel_from_20 ⟨(by simp [m_from, h1, h2]), rfl⟩
    · refine lv_bipush (v := 16) hx hb d_GrantServerModel_from_13 (by decide) ?_
      refine lv_goto (tgt := 20) hx hb d_GrantServerModel_from_15 (by decide) ?_
      exact hm_iret X hQ hr hlk hK hM hS d_GrantServerModel_from_20 ⟨(by simp [m_from, h1, h2]), rfl⟩
  · refine lv_iconst (v := 0) hx hb d_GrantServerModel_from_4 (by decide) ?_
    refine lv_goto (tgt := 20) hx hb d_GrantServerModel_from_5 (by decide) ?_
    exact hm_iret X hQ hr hlk hK hM hS d_GrantServerModel_from_20 ⟨(by simp [m_from, h1]), rfl⟩
set_option maxHeartbeats 4000000 in
set_option maxRecDepth 100000 in
theorem m_c_to (l : Launch) (D : va_G) (k : Nat → ClassId) (f : hm) (x : Int32) : hm_Mi l D vwCl (tyL k) y_GrantServerModel_to (Cond.code y_GrantServerModel_to b_GrantServerModel_to 1 (some .int) :: TB) ({ frames := 0, cells := 0, slots := 0, locals := 0 }) [.int x] f (fun (r : Int32) (f1 : hm) => m_to x = r ∧ f = f1) 0 0 := by
  refine hm_enter (Qc := fun sz => va_Qi _ (hm_R D vwCl (tyL k) f sz) (hm_A f sz)) (by decide) rfl (Nat.le_of_ble_eq_true rfl) ?_
  intro p e s m below meth cd ls X0 hr hlk hin hK hM hS hA hl Q hQ
  have X : CallFix p m cd b_GrantServerModel_to 1 s ([.int x] : List Value).toArray TB R_GrantServerModel := ⟨X0.1, X0.2.1, X0.2.2.1, X0.2.2.2.1, fun w h => X0.2.2.2.2 w (List.mem_cons_of_mem _ h)⟩
  have hx := X.1; have hb := X.2.1; have hml := X.2.2.1; have hown := X.2.2.2.1; have hts := X.2.2.2.2
  have hl : lv_has ls 1 [(0, .int x)] := hl
  refine lv_iload_n hx hb d_GrantServerModel_to_0 rfl (lv_at hl 0 rfl) ?_
  refine lv_if_ne (tgt := 9) hx hb d_GrantServerModel_to_1 (by decide) (fun h1 => ?_) (fun h1 => ?_)
  · refine lv_iload_n hx hb d_GrantServerModel_to_9 rfl (lv_at hl 0 rfl) ?_
    refine lv_iconst (v := 1) hx hb d_GrantServerModel_to_10 (by decide) ?_
    refine lv_icmp_ne (tgt := 19) hx hb d_GrantServerModel_to_11 (by decide) (fun h2 => ?_) (fun h2 => ?_)
    · refine lv_bipush (v := 64) hx hb d_GrantServerModel_to_19 (by decide) ?_
      exact hm_iret X hQ hr hlk hK hM hS d_GrantServerModel_to_21 ⟨(by simp [m_to, h1, h2]), rfl⟩
    · refine lv_bipush (v := 40) hx hb d_GrantServerModel_to_14 (by decide) ?_
      refine lv_goto (tgt := 21) hx hb d_GrantServerModel_to_16 (by decide) ?_
      exact hm_iret X hQ hr hlk hK hM hS d_GrantServerModel_to_21 ⟨(by simp [m_to, h1, h2]), rfl⟩
  · refine lv_bipush (v := 16) hx hb d_GrantServerModel_to_4 (by decide) ?_
    refine lv_goto (tgt := 21) hx hb d_GrantServerModel_to_6 (by decide) ?_
    exact hm_iret X hQ hr hlk hK hM hS d_GrantServerModel_to_21 ⟨(by simp [m_to, h1]), rfl⟩
set_option maxHeartbeats 4000000 in
set_option maxRecDepth 100000 in
theorem m_c_isText (l : Launch) (D : va_G) (k : Nat → ClassId) (f : hm) (x : Int32) : hm_Mi l D vwCl (tyL k) y_GrantServerModel_isText (Cond.code y_GrantServerModel_isText b_GrantServerModel_isText 1 (some .boolean) :: TB) ({ frames := 0, cells := 0, slots := 0, locals := 0 }) [.int x] f (fun (r : Int32) (f1 : hm) => z_text x = r ∧ f = f1) 0 0 := by
  refine hm_enter (Qc := fun sz => va_Qi _ (hm_R D vwCl (tyL k) f sz) (hm_A f sz)) (by decide) rfl (Nat.le_of_ble_eq_true rfl) ?_
  intro p e s m below meth cd ls X0 hr hlk hin hK hM hS hA hl Q hQ
  have X : CallFix p m cd b_GrantServerModel_isText 1 s ([.int x] : List Value).toArray TB R_GrantServerModel := ⟨X0.1, X0.2.1, X0.2.2.1, X0.2.2.2.1, fun w h => X0.2.2.2.2 w (List.mem_cons_of_mem _ h)⟩
  have hx := X.1; have hb := X.2.1; have hml := X.2.2.1; have hown := X.2.2.2.1; have hts := X.2.2.2.2
  have hl : lv_has ls 1 [(0, .int x)] := hl
  refine lv_iload_n hx hb d_GrantServerModel_isText_0 rfl (lv_at hl 0 rfl) ?_
  refine lv_bipush (v := 32) hx hb d_GrantServerModel_isText_1 (by decide) ?_
  refine lv_icmp_lt (tgt := 16) hx hb d_GrantServerModel_isText_3 (by decide) (fun h1 => ?_) (fun h1 => ?_)
  · refine lv_iconst (v := 0) hx hb d_GrantServerModel_isText_16 (by decide) ?_
    exact hm_zret X hQ hr hlk hK hM hS rfl d_GrantServerModel_isText_17 ⟨(by simp [z_text, h1, Int32.not_le.mpr h1]), rfl⟩
  · refine lv_iload_n hx hb d_GrantServerModel_isText_6 rfl (lv_at hl 0 rfl) ?_
    refine lv_bipush (v := 126) hx hb d_GrantServerModel_isText_7 (by decide) ?_
    refine lv_icmp_gt (tgt := 16) hx hb d_GrantServerModel_isText_9 (by decide) (fun h2 => ?_) (fun h2 => ?_)
    · refine lv_iconst (v := 0) hx hb d_GrantServerModel_isText_16 (by decide) ?_
      exact hm_zret X hQ hr hlk hK hM hS rfl d_GrantServerModel_isText_17 ⟨(by simp [z_text, h1, Int32.not_lt.mp h1, h2, Int32.not_le.mpr h2]), rfl⟩
    · refine lv_iconst (v := 1) hx hb d_GrantServerModel_isText_12 (by decide) ?_
      refine lv_goto (tgt := 17) hx hb d_GrantServerModel_isText_13 (by decide) ?_
      exact hm_zret X hQ hr hlk hK hM hS rfl d_GrantServerModel_isText_17 ⟨(by simp [z_text, h1, Int32.not_lt.mp h1, h2, Int32.not_lt.mp h2]), rfl⟩
set_option maxHeartbeats 4000000 in
set_option maxRecDepth 100000 in
theorem m_c_isClient (l : Launch) (D : va_G) (k : Nat → ClassId) (f : hm) (h : Nat) (ad : Nat → Nat) (sk : Int64) (v : Nat → Int32) (c : Nat → Nat → Int32) (x : Int32) (hmo : mo k f h ad sk v c) : hm_Mi l D vwCl (tyL k) y_GrantServerModel_isClient (Cond.code y_GrantServerModel_isClient b_GrantServerModel_isClient 2 (some .boolean) :: TB) ({ frames := 0, cells := 0, slots := 0, locals := 0 }) [.ref h, .int x] f (fun (r : Int32) (f1 : hm) => m_isC (v 8) x = r ∧ f = f1) 0 0 := by
  refine hm_enter (Qc := fun sz => va_Qi _ (hm_R D vwCl (tyL k) f sz) (hm_A f sz)) (by decide) rfl (Nat.le_of_ble_eq_true rfl) ?_
  intro p e s m below meth cd ls X0 hr hlk hin hK hM hS hA hl Q hQ
  have X : CallFix p m cd b_GrantServerModel_isClient 2 s ([.ref h, .int x] : List Value).toArray TB R_GrantServerModel := ⟨X0.1, X0.2.1, X0.2.2.1, X0.2.2.2.1, fun w h => X0.2.2.2.2 w (List.mem_cons_of_mem _ h)⟩
  have hx := X.1; have hb := X.2.1; have hml := X.2.2.1; have hown := X.2.2.2.1; have hts := X.2.2.2.2
  have hl : lv_has ls 2 [(0, .ref h), (1, .int x)] := hl
  have hfr : mo_fr h ad f f := mo_fr.rf
  refine lv_iload_n hx hb d_GrantServerModel_isClient_0 rfl (lv_at hl 1 rfl) ?_
  refine lv_if_lt (tgt := 16) hx hb d_GrantServerModel_isClient_1 (by decide) (fun h1 => ?_) (fun h1 => ?_)
  · refine lv_iconst (v := 0) hx hb d_GrantServerModel_isClient_16 (by decide) ?_
    exact hm_zret X hQ hr hlk hK hM hS rfl d_GrantServerModel_isClient_17 ⟨(by simp [m_isC, h1, Int32.not_le.mpr h1]), rfl⟩
  · refine lv_iload_n hx hb d_GrantServerModel_isClient_4 rfl (lv_at hl 1 rfl) ?_
    refine lv_aload_n hx hb d_GrantServerModel_isClient_5 rfl (lv_at hl 0 rfl) ?_
    refine hm_get X hK hM hmo.1 fl_GrantServerModel_86 (v := .int (v 8)) rfl d_GrantServerModel_isClient_6 ?_
    refine lv_icmp_ge (tgt := 16) hx hb d_GrantServerModel_isClient_9 (by decide) (fun h2 => ?_) (fun h2 => ?_)
    · refine lv_iconst (v := 0) hx hb d_GrantServerModel_isClient_16 (by decide) ?_
      exact hm_zret X hQ hr hlk hK hM hS rfl d_GrantServerModel_isClient_17 ⟨(by simp [m_isC, h1, Int32.not_lt.mp h1, h2, Int32.not_lt.mpr h2]), rfl⟩
    · refine lv_iconst (v := 1) hx hb d_GrantServerModel_isClient_12 (by decide) ?_
      refine lv_goto (tgt := 17) hx hb d_GrantServerModel_isClient_13 (by decide) ?_
      exact hm_zret X hQ hr hlk hK hM hS rfl d_GrantServerModel_isClient_17 ⟨(by simp [m_isC, h1, Int32.not_lt.mp h1, h2, Int32.not_le.mp h2]), rfl⟩
set_option maxHeartbeats 4000000 in
set_option maxRecDepth 100000 in
theorem m_c_tick (l : Launch) (D : va_G) (k : Nat → ClassId) (f : hm) (h : Nat) (ad : Nat → Nat) (sk : Int64) (v : Nat → Int32) (c : Nat → Nat → Int32) (x : Int32) (hmo : mo k f h ad sk v c) : hm_Mi l D vwCl (tyL k) y_GrantServerModel_tick (Cond.code y_GrantServerModel_tick b_GrantServerModel_tick 2 (some .boolean) :: TB) ({ frames := 0, cells := 0, slots := 0, locals := 0 }) [.ref h, .int x] f (fun (r : Int32) (f1 : hm) => m_tick x = r ∧ mo k f1 h ad sk (m_tickV v x) c ∧ mo_fr h ad f f1) 0 0 := by
  refine hm_enter (Qc := fun sz => va_Qi _ (hm_R D vwCl (tyL k) f sz) (hm_A f sz)) (by decide) rfl (Nat.le_of_ble_eq_true rfl) ?_
  intro p e s m below meth cd ls X0 hr hlk hin hK hM hS hA hl Q hQ
  have X : CallFix p m cd b_GrantServerModel_tick 2 s ([.ref h, .int x] : List Value).toArray TB R_GrantServerModel := ⟨X0.1, X0.2.1, X0.2.2.1, X0.2.2.2.1, fun w h => X0.2.2.2.2 w (List.mem_cons_of_mem _ h)⟩
  have hx := X.1; have hb := X.2.1; have hml := X.2.2.1; have hown := X.2.2.2.1; have hts := X.2.2.2.2
  have hl : lv_has ls 2 [(0, .ref h), (1, .int x)] := hl
  have hfr : mo_fr h ad f f := mo_fr.rf
  refine lv_iload_n hx hb d_GrantServerModel_tick_0 rfl (lv_at hl 1 rfl) ?_
  refine lv_if_lt (tgt := 11) hx hb d_GrantServerModel_tick_1 (by decide) (fun h1 => ?_) (fun h1 => ?_)
  · refine lv_iconst (v := 0) hx hb d_GrantServerModel_tick_11 (by decide) ?_
    exact hm_zret X hQ hr hlk hK hM hS rfl d_GrantServerModel_tick_12 ⟨(by simp [m_tick, h1, Int32.not_le.mpr h1]), (hmo.cv (by simp [m_tickV, h1, Int32.not_le.mpr h1]) (by simp [m_tickV, h1, Int32.not_le.mpr h1])), hfr⟩
  · refine lv_iload_n hx hb d_GrantServerModel_tick_4 rfl (lv_at hl 1 rfl) ?_
    refine lv_sipush (v := 10000) hx hb d_GrantServerModel_tick_5 (by decide) ?_
    refine lv_icmp_le (tgt := 13) hx hb d_GrantServerModel_tick_8 (by decide) (fun h2 => ?_) (fun h2 => ?_)
    · refine lv_aload_n hx hb d_GrantServerModel_tick_13 rfl (lv_at hl 0 rfl) ?_
      refine lv_aload_n hx hb d_GrantServerModel_tick_14 rfl (lv_at hl 0 rfl) ?_
      refine hm_get X hK hM hmo.1 fl_GrantServerModel_104 (v := .int (v 4)) rfl d_GrantServerModel_tick_15 ?_
      refine lv_iload_n hx hb d_GrantServerModel_tick_18 rfl (lv_at hl 1 rfl) ?_
      refine lv_iadd hx hb d_GrantServerModel_tick_19 ?_
      refine hm_put X hK hM hS (fs' := moV sk (upd v 4 ((v 4) + x)) ad) hmo.1 fl_GrantServerModel_104 rfl rfl (Nat.le_of_ble_eq_true rfl) rfl d_GrantServerModel_tick_20 (fun f3 H locs e4 hM hS => ?_)
      have hfr := hfr.put e4; have hmo : mo k f3 h ad sk (upd v 4 ((v 4) + x)) c := hmo.put e4
      refine lv_iconst (v := 1) hx hb d_GrantServerModel_tick_23 (by decide) ?_
      exact hm_zret X hQ hr hlk hK hM hS rfl d_GrantServerModel_tick_24 ⟨(by simp [m_tick, h1, Int32.not_lt.mp h1, h2, Int32.not_lt.mpr h2]), (hmo.cv (by simp [m_tickV, h1, Int32.not_lt.mp h1, h2, Int32.not_lt.mpr h2]) (by simp [m_tickV, h1, Int32.not_lt.mp h1, h2, Int32.not_lt.mpr h2])), hfr⟩
    · refine lv_iconst (v := 0) hx hb d_GrantServerModel_tick_11 (by decide) ?_
      exact hm_zret X hQ hr hlk hK hM hS rfl d_GrantServerModel_tick_12 ⟨(by simp [m_tick, h1, Int32.not_lt.mp h1, h2, Int32.not_le.mp h2]), (hmo.cv (by simp [m_tickV, h1, Int32.not_lt.mp h1, h2, Int32.not_le.mp h2]) (by simp [m_tickV, h1, Int32.not_lt.mp h1, h2, Int32.not_le.mp h2])), hfr⟩
set_option maxHeartbeats 4000000 in
set_option maxRecDepth 100000 in
theorem m_c_find (l : Launch) (D : va_G) (k : Nat → ClassId) (f : hm) (h : Nat) (ad : Nat → Nat) (sk : Int64) (v : Nat → Int32) (c : Nat → Nat → Int32) (x : Int32) (y : Int32) (hmo : mo k f h ad sk v c) : hm_Mi l D vwCl (tyL k) y_GrantServerModel_find (Cond.code y_GrantServerModel_find b_GrantServerModel_find 4 (some .int) :: TB) ({ frames := 1, cells := 0, slots := 0, locals := 20 }) [.ref h, .int x, .int y] f (fun (r : Int32) (f1 : hm) => m_findF (c 10) y (m_toN x - m_fromN x) (m_fromN x) = r ∧ f = f1) 0 0 := by
  refine hm_enter (Qc := fun sz => va_Qi _ (hm_R D vwCl (tyL k) f sz) (hm_A f sz)) (by decide) rfl (Nat.le_of_ble_eq_true rfl) ?_
  intro p e s m below meth cd ls X0 hr hlk hin hK hM hS hA hl Q hQ
  have X : CallFix p m cd b_GrantServerModel_find 4 s ([.ref h, .int x, .int y] : List Value).toArray TB R_GrantServerModel := ⟨X0.1, X0.2.1, X0.2.2.1, X0.2.2.2.1, fun w h => X0.2.2.2.2 w (List.mem_cons_of_mem _ h)⟩
  have hx := X.1; have hb := X.2.1; have hml := X.2.2.1; have hown := X.2.2.2.1; have hts := X.2.2.2.2
  have hl : lv_has ls 4 [(0, .ref h), (1, .int x), (2, .int y)] := hl
  have hfr : mo_fr h ad f f := mo_fr.rf
  have hft := m_ft x
  refine lv_iload_n hx hb d_GrantServerModel_find_0 rfl (lv_at hl 1 rfl) ?_
  refine hm_calli hS hM hA (va_runS (As := [.int x]) (rest := []) X (m_c_from l D k f x  s.heap.size) (hm_cwS hts me_GrantServerModel_from wl_GrantServerModel_93 rfl rfl ⟨Nat.le_of_ble_eq_true rfl, Nat.le_of_ble_eq_true rfl⟩) (hm_preS hM hK) rfl rfl hl.1 rfl (lv_room (Nat.le_of_ble_eq_true rfl)) d_GrantServerModel_find_1 ⟨Nat.le_of_ble_eq_true rfl, Nat.le_of_ble_eq_true rfl⟩) (fun r3 f1 H locs p2 hM hS => ?_)
  obtain ⟨rfl, rfl⟩ := p2
  refine hm_top (m_from_eq x) ?_
  refine lv_istore_n (lv' := [(3, .int (nI (m_fromN x))), (0, .ref h), (1, .int x), (2, .int y)]) hx hb d_GrantServerModel_find_4 rfl hl (by decide) rfl (fun ls hl => ?_)
  have loop5 : ∀ (fu : Nat) (j : Nat) (H : Heap) (locs : List Loc) (ls : Array Slot) (hmu : m_toN x - j < fu) (hj1 : m_fromN x ≤ j) (hj2 : j ≤ m_toN x) (hinv : m_findF (c 10) y (m_toN x - m_fromN x) (m_fromN x) = m_findF (c 10) y (m_toN x - j) j) (hM : hm_W D vwCl (hm_A f s.heap.size) f H) (hS : va_S (hm_A f s.heap.size) s.heap H locs) (hl : lv_has ls 4 [(0, .ref h), (1, .int x), (2, .int y), (3, .int (nI j))]), W p l e ({ frames := 1, cells := 0, slots := 0, locals := 20 }) s m ([.ref h, .int x, .int y] : List Value).toArray below meth cd H locs 0 0 Q (F0 m 5 ls []) := by
    intro fu
    induction fu with
    | zero => intro j H locs ls hmu; exact absurd hmu (Nat.not_lt_zero _)
    | succ fu ih =>
      intro j H locs ls hmu hj1 hj2 hinv  hM hS hl
      refine lv_iload_n hx hb d_GrantServerModel_find_5 rfl (lv_at hl 3 rfl) ?_
      refine lv_iload_n hx hb d_GrantServerModel_find_6 rfl (lv_at hl 1 rfl) ?_
      refine hm_calli hS hM hA (va_runS (As := [.int x]) (rest := [.int (nI j)]) X (m_c_to l D k f x  H.size) (hm_cwS hts me_GrantServerModel_to wl_GrantServerModel_96 rfl rfl ⟨Nat.le_of_ble_eq_true rfl, Nat.le_of_ble_eq_true rfl⟩) (hm_preS hM hK) rfl rfl hl.1 rfl (lv_room (Nat.le_of_ble_eq_true rfl)) d_GrantServerModel_find_7 ⟨Nat.le_of_ble_eq_true rfl, Nat.le_of_ble_eq_true rfl⟩) (fun r6 f4 H locs p5 hM hS => ?_)
      obtain ⟨rfl, rfl⟩ := p5
      refine hm_top (m_to_eq x) ?_
      refine lv_icmp_ge (tgt := 35) hx hb d_GrantServerModel_find_10 (by decide) (fun h7 => ?_) (fun h7 => ?_)
      · have hge : m_toN x ≤ j := by have z := h7; rw [nI_leI (by omega) (by omega)] at z; omega
        refine lv_iconst (v := (-1)) hx hb d_GrantServerModel_find_35 (by decide) ?_
        exact hm_iret X hQ hr hlk hK hM hS d_GrantServerModel_find_36 ⟨(by rw [hinv, show m_toN x - j = 0 by omega]; rfl), rfl⟩
      · have hlt : j < m_toN x := by have z := h7; rw [nI_leI (by omega) (by omega)] at z; omega
        refine lv_iload_n hx hb d_GrantServerModel_find_13 rfl (lv_at hl 2 rfl) ?_
        refine lv_if_eq (tgt := 29) hx hb d_GrantServerModel_find_14 (by decide) (fun h8 => ?_) (fun h8 => ?_)
        · refine lv_iinc (lv' := [(3, .int (nI (j + 1))), (0, .ref h), (1, .int x), (2, .int y)]) hx hb d_GrantServerModel_find_29 hl (k := 3) rfl (hm_inc _) (by decide) rfl (fun ls hl => ?_)
          refine lv_goto (tgt := 5) hx hb d_GrantServerModel_find_32 (by decide) ?_
          exact ih (j + 1)  H locs ls (by omega) (by omega) (by omega) (by rw [hinv, show m_toN x - j = (m_toN x - (j + 1)) + 1 by omega]; simp [m_findF, h7, Int32.not_le.mp h7, h8])  hM hS (lv_sub hl [1, 2, 3, 0] rfl)
        · refine lv_aload_n hx hb d_GrantServerModel_find_17 rfl (lv_at hl 0 rfl) ?_
          refine hm_get X hK hM hmo.1 fl_GrantServerModel_23 (v := .ref (ad 10)) rfl d_GrantServerModel_find_18 ?_
          refine lv_iload_n hx hb d_GrantServerModel_find_21 rfl (lv_at hl 3 rfl) ?_
          have g9 : f (ad 10) = some (.inl (k 0, 64, .inl (c 10))) := hmo.arr 10 (by decide) (by decide)
          refine hm_iald X hK hM g9 0 rfl j rfl (show j < 64 by omega) (by decide) d_GrantServerModel_find_22 ?_
          refine lv_iload_n hx hb d_GrantServerModel_find_23 rfl (lv_at hl 2 rfl) ?_
          refine lv_icmp_ne (tgt := 29) hx hb d_GrantServerModel_find_24 (by decide) (fun h10 => ?_) (fun h10 => ?_)
          · refine lv_iinc (lv' := [(3, .int (nI (j + 1))), (0, .ref h), (1, .int x), (2, .int y)]) hx hb d_GrantServerModel_find_29 hl (k := 3) rfl (hm_inc _) (by decide) rfl (fun ls hl => ?_)
            refine lv_goto (tgt := 5) hx hb d_GrantServerModel_find_32 (by decide) ?_
            exact ih (j + 1)  H locs ls (by omega) (by omega) (by omega) (by rw [hinv, show m_toN x - j = (m_toN x - (j + 1)) + 1 by omega]; simp [m_findF, h7, Int32.not_le.mp h7, h8, h10])  hM hS (lv_sub hl [1, 2, 3, 0] rfl)
          · refine lv_iload_n hx hb d_GrantServerModel_find_27 rfl (lv_at hl 3 rfl) ?_
            exact hm_iret X hQ hr hlk hK hM hS d_GrantServerModel_find_28 ⟨(by rw [hinv, show m_toN x - j = (m_toN x - (j + 1)) + 1 by omega]; simp [m_findF, h7, Int32.not_le.mp h7, h8, h10]), rfl⟩
  exact loop5 _ (m_fromN x)  H locs ls (Nat.lt_succ_self _) (Nat.le_refl _) hft.1 rfl  hM hS (lv_sub hl [1, 2, 3, 0] rfl)
set_option maxHeartbeats 4000000 in
set_option maxRecDepth 100000 in
theorem m_c_room (l : Launch) (D : va_G) (k : Nat → ClassId) (f : hm) (h : Nat) (ad : Nat → Nat) (sk : Int64) (v : Nat → Int32) (c : Nat → Nat → Int32) (x : Int32) (hmo : mo k f h ad sk v c) : hm_Mi l D vwCl (tyL k) y_GrantServerModel_room (Cond.code y_GrantServerModel_room b_GrantServerModel_room 3 (some .int) :: TB) ({ frames := 1, cells := 0, slots := 0, locals := 20 }) [.ref h, .int x] f (fun (r : Int32) (f1 : hm) => m_roomF (c 10) (m_toN x - m_fromN x) (m_fromN x) = r ∧ f = f1) 0 0 := by
  refine hm_enter (Qc := fun sz => va_Qi _ (hm_R D vwCl (tyL k) f sz) (hm_A f sz)) (by decide) rfl (Nat.le_of_ble_eq_true rfl) ?_
  intro p e s m below meth cd ls X0 hr hlk hin hK hM hS hA hl Q hQ
  have X : CallFix p m cd b_GrantServerModel_room 3 s ([.ref h, .int x] : List Value).toArray TB R_GrantServerModel := ⟨X0.1, X0.2.1, X0.2.2.1, X0.2.2.2.1, fun w h => X0.2.2.2.2 w (List.mem_cons_of_mem _ h)⟩
  have hx := X.1; have hb := X.2.1; have hml := X.2.2.1; have hown := X.2.2.2.1; have hts := X.2.2.2.2
  have hl : lv_has ls 3 [(0, .ref h), (1, .int x)] := hl
  have hfr : mo_fr h ad f f := mo_fr.rf
  have hft := m_ft x
  refine lv_iload_n hx hb d_GrantServerModel_room_0 rfl (lv_at hl 1 rfl) ?_
  refine hm_calli hS hM hA (va_runS (As := [.int x]) (rest := []) X (m_c_from l D k f x  s.heap.size) (hm_cwS hts me_GrantServerModel_from wl_GrantServerModel_93 rfl rfl ⟨Nat.le_of_ble_eq_true rfl, Nat.le_of_ble_eq_true rfl⟩) (hm_preS hM hK) rfl rfl hl.1 rfl (lv_room (Nat.le_of_ble_eq_true rfl)) d_GrantServerModel_room_1 ⟨Nat.le_of_ble_eq_true rfl, Nat.le_of_ble_eq_true rfl⟩) (fun r3 f1 H locs p2 hM hS => ?_)
  obtain ⟨rfl, rfl⟩ := p2
  refine hm_top (m_from_eq x) ?_
  refine lv_istore_n (lv' := [(2, .int (nI (m_fromN x))), (0, .ref h), (1, .int x)]) hx hb d_GrantServerModel_room_4 rfl hl (by decide) rfl (fun ls hl => ?_)
  have loop5 : ∀ (fu : Nat) (j : Nat) (H : Heap) (locs : List Loc) (ls : Array Slot) (hmu : m_toN x - j < fu) (hj1 : m_fromN x ≤ j) (hj2 : j ≤ m_toN x) (hinv : m_roomF (c 10) (m_toN x - m_fromN x) (m_fromN x) = m_roomF (c 10) (m_toN x - j) j) (hM : hm_W D vwCl (hm_A f s.heap.size) f H) (hS : va_S (hm_A f s.heap.size) s.heap H locs) (hl : lv_has ls 3 [(0, .ref h), (1, .int x), (2, .int (nI j))]), W p l e ({ frames := 1, cells := 0, slots := 0, locals := 20 }) s m ([.ref h, .int x] : List Value).toArray below meth cd H locs 0 0 Q (F0 m 5 ls []) := by
    intro fu
    induction fu with
    | zero => intro j H locs ls hmu; exact absurd hmu (Nat.not_lt_zero _)
    | succ fu ih =>
      intro j H locs ls hmu hj1 hj2 hinv  hM hS hl
      refine lv_iload_n hx hb d_GrantServerModel_room_5 rfl (lv_at hl 2 rfl) ?_
      refine lv_iload_n hx hb d_GrantServerModel_room_6 rfl (lv_at hl 1 rfl) ?_
      refine hm_calli hS hM hA (va_runS (As := [.int x]) (rest := [.int (nI j)]) X (m_c_to l D k f x  H.size) (hm_cwS hts me_GrantServerModel_to wl_GrantServerModel_96 rfl rfl ⟨Nat.le_of_ble_eq_true rfl, Nat.le_of_ble_eq_true rfl⟩) (hm_preS hM hK) rfl rfl hl.1 rfl (lv_room (Nat.le_of_ble_eq_true rfl)) d_GrantServerModel_room_7 ⟨Nat.le_of_ble_eq_true rfl, Nat.le_of_ble_eq_true rfl⟩) (fun r6 f4 H locs p5 hM hS => ?_)
      obtain ⟨rfl, rfl⟩ := p5
      refine hm_top (m_to_eq x) ?_
      refine lv_icmp_ge (tgt := 30) hx hb d_GrantServerModel_room_10 (by decide) (fun h7 => ?_) (fun h7 => ?_)
      · have hge : m_toN x ≤ j := by have z := h7; rw [nI_leI (by omega) (by omega)] at z; omega
        refine lv_iconst (v := (-1)) hx hb d_GrantServerModel_room_30 (by decide) ?_
        exact hm_iret X hQ hr hlk hK hM hS d_GrantServerModel_room_31 ⟨(by rw [hinv, show m_toN x - j = 0 by omega]; rfl), rfl⟩
      · have hlt : j < m_toN x := by have z := h7; rw [nI_leI (by omega) (by omega)] at z; omega
        refine lv_aload_n hx hb d_GrantServerModel_room_13 rfl (lv_at hl 0 rfl) ?_
        refine hm_get X hK hM hmo.1 fl_GrantServerModel_23 (v := .ref (ad 10)) rfl d_GrantServerModel_room_14 ?_
        refine lv_iload_n hx hb d_GrantServerModel_room_17 rfl (lv_at hl 2 rfl) ?_
        have g8 : f (ad 10) = some (.inl (k 0, 64, .inl (c 10))) := hmo.arr 10 (by decide) (by decide)
        refine hm_iald X hK hM g8 0 rfl j rfl (show j < 64 by omega) (by decide) d_GrantServerModel_room_18 ?_
        refine lv_if_ne (tgt := 24) hx hb d_GrantServerModel_room_19 (by decide) (fun h9 => ?_) (fun h9 => ?_)
        · refine lv_iinc (lv' := [(2, .int (nI (j + 1))), (0, .ref h), (1, .int x)]) hx hb d_GrantServerModel_room_24 hl (k := 2) rfl (hm_inc _) (by decide) rfl (fun ls hl => ?_)
          refine lv_goto (tgt := 5) hx hb d_GrantServerModel_room_27 (by decide) ?_
          exact ih (j + 1)  H locs ls (by omega) (by omega) (by omega) (by rw [hinv, show m_toN x - j = (m_toN x - (j + 1)) + 1 by omega]; simp [m_roomF, h7, Int32.not_le.mp h7, h9])  hM hS (lv_sub hl [1, 2, 0] rfl)
        · refine lv_iload_n hx hb d_GrantServerModel_room_22 rfl (lv_at hl 2 rfl) ?_
          exact hm_iret X hQ hr hlk hK hM hS d_GrantServerModel_room_23 ⟨(by rw [hinv, show m_toN x - j = (m_toN x - (j + 1)) + 1 by omega]; simp [m_roomF, h7, Int32.not_le.mp h7, h9]), rfl⟩
  exact loop5 _ (m_fromN x)  H locs ls (Nat.lt_succ_self _) (Nat.le_refl _) hft.1 rfl  hM hS (lv_sub hl [1, 2, 0] rfl)
set_option maxHeartbeats 4000000 in
set_option maxRecDepth 100000 in
theorem m_c_isActive (l : Launch) (D : va_G) (k : Nat → ClassId) (f : hm) (h : Nat) (ad : Nat → Nat) (sk : Int64) (v : Nat → Int32) (c : Nat → Nat → Int32) (j : Nat) (hmo : mo k f h ad sk v c) (hj : j < 64) (hfam : c 15 j < 0 ∨ ∃ t, t < 520 ∧ c 15 j = nI t) : hm_Mi l D vwCl (tyL k) y_GrantServerModel_isActive (Cond.code y_GrantServerModel_isActive b_GrantServerModel_isActive 2 (some .boolean) :: TB) ({ frames := 0, cells := 0, slots := 0, locals := 0 }) [.ref h, .int (nI j)] f (fun (r : Int32) (f1 : hm) => m_act v c j = r ∧ f = f1) 0 0 := by
  refine hm_enter (Qc := fun sz => va_Qi _ (hm_R D vwCl (tyL k) f sz) (hm_A f sz)) (by decide) rfl (Nat.le_of_ble_eq_true rfl) ?_
  intro p e s m below meth cd ls X0 hr hlk hin hK hM hS hA hl Q hQ
  have X : CallFix p m cd b_GrantServerModel_isActive 2 s ([.ref h, .int (nI j)] : List Value).toArray TB R_GrantServerModel := ⟨X0.1, X0.2.1, X0.2.2.1, X0.2.2.2.1, fun w h => X0.2.2.2.2 w (List.mem_cons_of_mem _ h)⟩
  have hx := X.1; have hb := X.2.1; have hml := X.2.2.1; have hown := X.2.2.2.1; have hts := X.2.2.2.2
  have hl : lv_has ls 2 [(0, .ref h), (1, .int (nI j))] := hl
  have hfr : mo_fr h ad f f := mo_fr.rf
  refine lv_aload_n hx hb d_GrantServerModel_isActive_0 rfl (lv_at hl 0 rfl) ?_
  refine hm_get X hK hM hmo.1 fl_GrantServerModel_23 (v := .ref (ad 10)) rfl d_GrantServerModel_isActive_1 ?_
  refine lv_iload_n hx hb d_GrantServerModel_isActive_4 rfl (lv_at hl 1 rfl) ?_
  have g1 : f (ad 10) = some (.inl (k 0, 64, .inl (c 10))) := hmo.arr 10 (by decide) (by decide)
  refine hm_iald X hK hM g1 0 rfl j rfl (show j < 64 from hj) (by decide) d_GrantServerModel_isActive_5 ?_
  refine lv_if_eq (tgt := 58) hx hb d_GrantServerModel_isActive_6 (by decide) (fun h2 => ?_) (fun h2 => ?_)
  · refine lv_iconst (v := 0) hx hb d_GrantServerModel_isActive_58 (by decide) ?_
    exact hm_zret X hQ hr hlk hK hM hS rfl d_GrantServerModel_isActive_59 ⟨(by simp [m_act, h2]), rfl⟩
  · refine lv_aload_n hx hb d_GrantServerModel_isActive_9 rfl (lv_at hl 0 rfl) ?_
    refine hm_get X hK hM hmo.1 fl_GrantServerModel_35 (v := .ref (ad 14)) rfl d_GrantServerModel_isActive_10 ?_
    refine lv_iload_n hx hb d_GrantServerModel_isActive_13 rfl (lv_at hl 1 rfl) ?_
    have g3 : f (ad 14) = some (.inl (k 1, 64, .inl (c 14))) := hmo.arr 14 (by decide) (by decide)
    refine hm_zald X hK hM g3 1 rfl j rfl (show j < 64 from hj) (by decide) d_GrantServerModel_isActive_14 ?_
    refine lv_if_ne (tgt := 58) hx hb d_GrantServerModel_isActive_15 (by decide) (fun h4 => ?_) (fun h4 => ?_)
    · refine lv_iconst (v := 0) hx hb d_GrantServerModel_isActive_58 (by decide) ?_
      exact hm_zret X hQ hr hlk hK hM hS rfl d_GrantServerModel_isActive_59 ⟨(by simp [m_act, h2, h4]), rfl⟩
    · refine lv_aload_n hx hb d_GrantServerModel_isActive_18 rfl (lv_at hl 0 rfl) ?_
      refine hm_get X hK hM hmo.1 fl_GrantServerModel_32 (v := .ref (ad 13)) rfl d_GrantServerModel_isActive_19 ?_
      refine lv_iload_n hx hb d_GrantServerModel_isActive_22 rfl (lv_at hl 1 rfl) ?_
      have g5 : f (ad 13) = some (.inl (k 0, 64, .inl (c 13))) := hmo.arr 13 (by decide) (by decide)
      refine hm_iald X hK hM g5 0 rfl j rfl (show j < 64 from hj) (by decide) d_GrantServerModel_isActive_23 ?_
      refine lv_aload_n hx hb d_GrantServerModel_isActive_24 rfl (lv_at hl 0 rfl) ?_
      refine hm_get X hK hM hmo.1 fl_GrantServerModel_104 (v := .int (v 4)) rfl d_GrantServerModel_isActive_25 ?_
      refine lv_icmp_le (tgt := 58) hx hb d_GrantServerModel_isActive_28 (by decide) (fun h6 => ?_) (fun h6 => ?_)
      · refine lv_iconst (v := 0) hx hb d_GrantServerModel_isActive_58 (by decide) ?_
        exact hm_zret X hQ hr hlk hK hM hS rfl d_GrantServerModel_isActive_59 ⟨(by simp [m_act, h2, h4, h6, Int32.not_lt.mpr h6]), rfl⟩
      · refine lv_aload_n hx hb d_GrantServerModel_isActive_31 rfl (lv_at hl 0 rfl) ?_
        refine hm_get X hK hM hmo.1 fl_GrantServerModel_39 (v := .ref (ad 15)) rfl d_GrantServerModel_isActive_32 ?_
        refine lv_iload_n hx hb d_GrantServerModel_isActive_35 rfl (lv_at hl 1 rfl) ?_
        have g7 : f (ad 15) = some (.inl (k 0, 64, .inl (c 15))) := hmo.arr 15 (by decide) (by decide)
        refine hm_iald X hK hM g7 0 rfl j rfl (show j < 64 from hj) (by decide) d_GrantServerModel_isActive_36 ?_
        refine lv_if_lt (tgt := 54) hx hb d_GrantServerModel_isActive_37 (by decide) (fun h8 => ?_) (fun h8 => ?_)
        · refine lv_iconst (v := 1) hx hb d_GrantServerModel_isActive_54 (by decide) ?_
          refine lv_goto (tgt := 59) hx hb d_GrantServerModel_isActive_55 (by decide) ?_
          exact hm_zret X hQ hr hlk hK hM hS rfl d_GrantServerModel_isActive_59 ⟨(by simp [m_act, h2, h4, h6, Int32.not_le.mp h6, h8, Int32.not_le.mpr h8]), rfl⟩
        · obtain ⟨t9, ht9⟩ := hfam.resolve_left h8
          refine lv_aload_n hx hb d_GrantServerModel_isActive_40 rfl (lv_at hl 0 rfl) ?_
          refine hm_get X hK hM hmo.1 fl_GrantServerModel_54 (v := .ref (ad 21)) rfl d_GrantServerModel_isActive_41 ?_
          refine lv_aload_n hx hb d_GrantServerModel_isActive_44 rfl (lv_at hl 0 rfl) ?_
          refine hm_get X hK hM hmo.1 fl_GrantServerModel_39 (v := .ref (ad 15)) rfl d_GrantServerModel_isActive_45 ?_
          refine lv_iload_n hx hb d_GrantServerModel_isActive_48 rfl (lv_at hl 1 rfl) ?_
          have g9 : f (ad 15) = some (.inl (k 0, 64, .inl (c 15))) := hmo.arr 15 (by decide) (by decide)
          refine hm_iald X hK hM g9 0 rfl j rfl (show j < 64 from hj) (by decide) d_GrantServerModel_isActive_49 ?_
          have g10 : f (ad 21) = some (.inl (k 1, 520, .inl (c 21))) := hmo.arr 21 (by decide) (by decide)
          refine hm_zald X hK hM g10 1 rfl t9 ht9.2 ht9.1 (by decide) d_GrantServerModel_isActive_50 ?_
          refine lv_if_ne (tgt := 58) hx hb d_GrantServerModel_isActive_51 (by decide) (fun h11 => ?_) (fun h11 => ?_)
          · refine lv_iconst (v := 0) hx hb d_GrantServerModel_isActive_58 (by decide) ?_
            exact hm_zret X hQ hr hlk hK hM hS rfl d_GrantServerModel_isActive_59 ⟨(by have hz := nI_clamp (show t9 < 2 ^ 31 by omega); simp [m_act, h2, h4, h6, Int32.not_le.mp h6, h8, Int32.not_lt.mp h8, h11, ht9.2, hz] at *; try simp [*]), rfl⟩
          · refine lv_iconst (v := 1) hx hb d_GrantServerModel_isActive_54 (by decide) ?_
            refine lv_goto (tgt := 59) hx hb d_GrantServerModel_isActive_55 (by decide) ?_
            exact hm_zret X hQ hr hlk hK hM hS rfl d_GrantServerModel_isActive_59 ⟨(by have hz := nI_clamp (show t9 < 2 ^ 31 by omega); simp [m_act, h2, h4, h6, Int32.not_le.mp h6, h8, Int32.not_lt.mp h8, h11, ht9.2, hz] at *; try simp [*]), rfl⟩
