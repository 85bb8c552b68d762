theorem d_GrantServerModel_grant_0 : decode b_GrantServerModel_grant 0 = .ok (.aload_n 0, 1) := by decide +kernel
theorem d_GrantServerModel_grant_1 : decode b_GrantServerModel_grant 1 = .ok (.iconst 1, 1) := by decide +kernel
theorem d_GrantServerModel_grant_2 : decode b_GrantServerModel_grant 2 = .ok (.invokevirtual 111, 3) := by decide +kernel
theorem d_GrantServerModel_grant_5 : decode b_GrantServerModel_grant 5 = .ok (.istore 5, 2) := by decide +kernel
theorem d_GrantServerModel_grant_7 : decode b_GrantServerModel_grant 7 = .ok (.aload_n 0, 1) := by decide +kernel
theorem d_GrantServerModel_grant_8 : decode b_GrantServerModel_grant 8 = .ok (.iconst 2, 1) := by decide +kernel
theorem d_GrantServerModel_grant_9 : decode b_GrantServerModel_grant 9 = .ok (.invokevirtual 111, 3) := by decide +kernel
theorem d_GrantServerModel_grant_12 : decode b_GrantServerModel_grant 12 = .ok (.istore 6, 2) := by decide +kernel
theorem d_GrantServerModel_grant_14 : decode b_GrantServerModel_grant 14 = .ok (.aload_n 0, 1) := by decide +kernel
theorem d_GrantServerModel_grant_15 : decode b_GrantServerModel_grant 15 = .ok (.iload 5, 2) := by decide +kernel
theorem d_GrantServerModel_grant_17 : decode b_GrantServerModel_grant 17 = .ok (.iload_n 3, 1) := by decide +kernel
theorem d_GrantServerModel_grant_18 : decode b_GrantServerModel_grant 18 = .ok (.iload_n 1, 1) := by decide +kernel
theorem d_GrantServerModel_grant_19 : decode b_GrantServerModel_grant 19 = .ok (.aload_n 0, 1) := by decide +kernel
theorem d_GrantServerModel_grant_20 : decode b_GrantServerModel_grant 20 = .ok (.getfield 48, 3) := by decide +kernel
theorem d_GrantServerModel_grant_23 : decode b_GrantServerModel_grant 23 = .ok (.iload_n 2, 1) := by decide +kernel
theorem d_GrantServerModel_grant_24 : decode b_GrantServerModel_grant 24 = .ok (.iaload, 1) := by decide +kernel
theorem d_GrantServerModel_grant_25 : decode b_GrantServerModel_grant 25 = .ok (.aload_n 0, 1) := by decide +kernel
theorem d_GrantServerModel_grant_26 : decode b_GrantServerModel_grant 26 = .ok (.getfield 104, 3) := by decide +kernel
theorem d_GrantServerModel_grant_29 : decode b_GrantServerModel_grant 29 = .ok (.aload_n 0, 1) := by decide +kernel
theorem d_GrantServerModel_grant_30 : decode b_GrantServerModel_grant 30 = .ok (.getfield 83, 3) := by decide +kernel
theorem d_GrantServerModel_grant_33 : decode b_GrantServerModel_grant 33 = .ok (.iadd, 1) := by decide +kernel
theorem d_GrantServerModel_grant_34 : decode b_GrantServerModel_grant 34 = .ok (.iload_n 2, 1) := by decide +kernel
theorem d_GrantServerModel_grant_35 : decode b_GrantServerModel_grant 35 = .ok (.invokevirtual 114, 3) := by decide +kernel
theorem d_GrantServerModel_grant_38 : decode b_GrantServerModel_grant 38 = .ok (.aload_n 0, 1) := by decide +kernel
theorem d_GrantServerModel_grant_39 : decode b_GrantServerModel_grant 39 = .ok (.dup, 1) := by decide +kernel
theorem d_GrantServerModel_grant_40 : decode b_GrantServerModel_grant 40 = .ok (.getfield 118, 3) := by decide +kernel
theorem d_GrantServerModel_grant_43 : decode b_GrantServerModel_grant 43 = .ok (.iconst 1, 1) := by decide +kernel
theorem d_GrantServerModel_grant_44 : decode b_GrantServerModel_grant 44 = .ok (.iadd, 1) := by decide +kernel
theorem d_GrantServerModel_grant_45 : decode b_GrantServerModel_grant 45 = .ok (.putfield 118, 3) := by decide +kernel
theorem d_GrantServerModel_grant_48 : decode b_GrantServerModel_grant 48 = .ok (.aload_n 0, 1) := by decide +kernel
theorem d_GrantServerModel_grant_49 : decode b_GrantServerModel_grant 49 = .ok (.iload 6, 2) := by decide +kernel
theorem d_GrantServerModel_grant_51 : decode b_GrantServerModel_grant 51 = .ok (.aload_n 0, 1) := by decide +kernel
theorem d_GrantServerModel_grant_52 : decode b_GrantServerModel_grant 52 = .ok (.getfield 118, 3) := by decide +kernel
theorem d_GrantServerModel_grant_55 : decode b_GrantServerModel_grant 55 = .ok (.iload_n 1, 1) := by decide +kernel
theorem d_GrantServerModel_grant_56 : decode b_GrantServerModel_grant 56 = .ok (.iload 4, 2) := by decide +kernel
theorem d_GrantServerModel_grant_58 : decode b_GrantServerModel_grant 58 = .ok (.aload_n 0, 1) := by decide +kernel
theorem d_GrantServerModel_grant_59 : decode b_GrantServerModel_grant 59 = .ok (.getfield 104, 3) := by decide +kernel
theorem d_GrantServerModel_grant_62 : decode b_GrantServerModel_grant 62 = .ok (.aload_n 0, 1) := by decide +kernel
theorem d_GrantServerModel_grant_63 : decode b_GrantServerModel_grant 63 = .ok (.getfield 80, 3) := by decide +kernel
theorem d_GrantServerModel_grant_66 : decode b_GrantServerModel_grant 66 = .ok (.iadd, 1) := by decide +kernel
theorem d_GrantServerModel_grant_67 : decode b_GrantServerModel_grant 67 = .ok (.iload_n 2, 1) := by decide +kernel
theorem d_GrantServerModel_grant_68 : decode b_GrantServerModel_grant 68 = .ok (.invokevirtual 114, 3) := by decide +kernel
theorem d_GrantServerModel_grant_71 : decode b_GrantServerModel_grant 71 = .ok (.aload_n 0, 1) := by decide +kernel
theorem d_GrantServerModel_grant_72 : decode b_GrantServerModel_grant 72 = .ok (.iconst 0, 1) := by decide +kernel
theorem d_GrantServerModel_grant_73 : decode b_GrantServerModel_grant 73 = .ok (.putfield 121, 3) := by decide +kernel
theorem d_GrantServerModel_grant_76 : decode b_GrantServerModel_grant 76 = .ok (.aload_n 0, 1) := by decide +kernel
theorem d_GrantServerModel_grant_77 : decode b_GrantServerModel_grant 77 = .ok (.bipush 123, 2) := by decide +kernel
theorem d_GrantServerModel_grant_79 : decode b_GrantServerModel_grant 79 = .ok (.iconst 0, 1) := by decide +kernel
theorem d_GrantServerModel_grant_80 : decode b_GrantServerModel_grant 80 = .ok (.invokevirtual 124, 3) := by decide +kernel
theorem d_GrantServerModel_grant_83 : decode b_GrantServerModel_grant 83 = .ok (.aload_n 0, 1) := by decide +kernel
theorem d_GrantServerModel_grant_84 : decode b_GrantServerModel_grant 84 = .ok (.iconst 0, 1) := by decide +kernel
theorem d_GrantServerModel_grant_85 : decode b_GrantServerModel_grant 85 = .ok (.iload_n 1, 1) := by decide +kernel
theorem d_GrantServerModel_grant_86 : decode b_GrantServerModel_grant 86 = .ok (.invokevirtual 128, 3) := by decide +kernel
theorem d_GrantServerModel_grant_89 : decode b_GrantServerModel_grant 89 = .ok (.aload_n 0, 1) := by decide +kernel
theorem d_GrantServerModel_grant_90 : decode b_GrantServerModel_grant 90 = .ok (.iconst 1, 1) := by decide +kernel
theorem d_GrantServerModel_grant_91 : decode b_GrantServerModel_grant 91 = .ok (.aload_n 0, 1) := by decide +kernel
theorem d_GrantServerModel_grant_92 : decode b_GrantServerModel_grant 92 = .ok (.getfield 51, 3) := by decide +kernel
theorem d_GrantServerModel_grant_95 : decode b_GrantServerModel_grant 95 = .ok (.iload_n 2, 1) := by decide +kernel
theorem d_GrantServerModel_grant_96 : decode b_GrantServerModel_grant 96 = .ok (.iaload, 1) := by decide +kernel
theorem d_GrantServerModel_grant_97 : decode b_GrantServerModel_grant 97 = .ok (.invokevirtual 128, 3) := by decide +kernel
theorem d_GrantServerModel_grant_100 : decode b_GrantServerModel_grant 100 = .ok (.aload_n 0, 1) := by decide +kernel
theorem d_GrantServerModel_grant_101 : decode b_GrantServerModel_grant 101 = .ok (.iconst 2, 1) := by decide +kernel
theorem d_GrantServerModel_grant_102 : decode b_GrantServerModel_grant 102 = .ok (.aload_n 0, 1) := by decide +kernel
theorem d_GrantServerModel_grant_103 : decode b_GrantServerModel_grant 103 = .ok (.getfield 32, 3) := by decide +kernel
theorem d_GrantServerModel_grant_106 : decode b_GrantServerModel_grant 106 = .ok (.iload 6, 2) := by decide +kernel
theorem d_GrantServerModel_grant_108 : decode b_GrantServerModel_grant 108 = .ok (.iaload, 1) := by decide +kernel
theorem d_GrantServerModel_grant_109 : decode b_GrantServerModel_grant 109 = .ok (.invokevirtual 128, 3) := by decide +kernel
theorem d_GrantServerModel_grant_112 : decode b_GrantServerModel_grant 112 = .ok (.aload_n 0, 1) := by decide +kernel
theorem d_GrantServerModel_grant_113 : decode b_GrantServerModel_grant 113 = .ok (.iconst 3, 1) := by decide +kernel
theorem d_GrantServerModel_grant_114 : decode b_GrantServerModel_grant 114 = .ok (.aload_n 0, 1) := by decide +kernel
theorem d_GrantServerModel_grant_115 : decode b_GrantServerModel_grant 115 = .ok (.getfield 118, 3) := by decide +kernel
theorem d_GrantServerModel_grant_118 : decode b_GrantServerModel_grant 118 = .ok (.invokevirtual 128, 3) := by decide +kernel
theorem d_GrantServerModel_grant_121 : decode b_GrantServerModel_grant 121 = .ok (.aload_n 0, 1) := by decide +kernel
theorem d_GrantServerModel_grant_122 : decode b_GrantServerModel_grant 122 = .ok (.iconst 4, 1) := by decide +kernel
theorem d_GrantServerModel_grant_123 : decode b_GrantServerModel_grant 123 = .ok (.iload 4, 2) := by decide +kernel
theorem d_GrantServerModel_grant_125 : decode b_GrantServerModel_grant 125 = .ok (.invokevirtual 128, 3) := by decide +kernel
theorem d_GrantServerModel_grant_128 : decode b_GrantServerModel_grant 128 = .ok (.aload_n 0, 1) := by decide +kernel
theorem d_GrantServerModel_grant_129 : decode b_GrantServerModel_grant 129 = .ok (.bipush 125, 2) := by decide +kernel
theorem d_GrantServerModel_grant_131 : decode b_GrantServerModel_grant 131 = .ok (.iconst 0, 1) := by decide +kernel
theorem d_GrantServerModel_grant_132 : decode b_GrantServerModel_grant 132 = .ok (.invokevirtual 124, 3) := by decide +kernel
theorem d_GrantServerModel_grant_135 : decode b_GrantServerModel_grant 135 = .ok (.aload_n 0, 1) := by decide +kernel
theorem d_GrantServerModel_grant_136 : decode b_GrantServerModel_grant 136 = .ok (.invokevirtual 131, 3) := by decide +kernel
theorem d_GrantServerModel_grant_139 : decode b_GrantServerModel_grant 139 = .ok (.aload_n 0, 1) := by decide +kernel
theorem d_GrantServerModel_grant_140 : decode b_GrantServerModel_grant 140 = .ok (.getfield 118, 3) := by decide +kernel
theorem d_GrantServerModel_grant_143 : decode b_GrantServerModel_grant 143 = .ok (.ireturn, 1) := by decide +kernel
set_option maxRecDepth 20000 in
theorem fl_GrantServerModel_118 : hm_fl vwCl TB R_GrantServerModel 118 8 18 false .int := ⟨_, _, _, _, cl_GrantServerModel, by decide, (TBm 710 (by decide +kernel) rfl), rfl, rfl⟩
set_option maxRecDepth 20000 in
theorem fl_GrantServerModel_138 : hm_fl vwCl TB R_GrantServerModel 138 8 22 false .int := ⟨_, _, _, _, cl_GrantServerModel, by decide, (TBm 714 (by decide +kernel) rfl), rfl, rfl⟩
set_option maxRecDepth 20000 in
theorem fl_GrantServerModel_42 : hm_fl vwCl TB R_GrantServerModel 42 8 16 true (.array .int) := ⟨_, _, _, _, cl_GrantServerModel, by decide, (TBm 708 (by decide +kernel) rfl), rfl, rfl⟩
set_option maxRecDepth 20000 in
theorem fl_GrantServerModel_45 : hm_fl vwCl TB R_GrantServerModel 45 8 17 true (.array .int) := ⟨_, _, _, _, cl_GrantServerModel, by decide, (TBm 709 (by decide +kernel) rfl), rfl, rfl⟩
set_option maxRecDepth 20000 in
theorem fl_GrantServerModel_48 : hm_fl vwCl TB R_GrantServerModel 48 8 19 true (.array .int) := ⟨_, _, _, _, cl_GrantServerModel, by decide, (TBm 711 (by decide +kernel) rfl), rfl, rfl⟩
set_option maxRecDepth 20000 in
theorem fl_GrantServerModel_51 : hm_fl vwCl TB R_GrantServerModel 51 8 20 true (.array .int) := ⟨_, _, _, _, cl_GrantServerModel, by decide, (TBm 712 (by decide +kernel) rfl), rfl, rfl⟩
set_option maxRecDepth 20000 in
theorem fl_GrantServerModel_77 : hm_fl vwCl TB R_GrantServerModel 77 8 1 true .int := ⟨_, _, _, _, cl_GrantServerModel, by decide, (TBm 693 (by decide +kernel) rfl), rfl, rfl⟩
set_option maxRecDepth 20000 in
theorem fl_GrantServerModel_80 : hm_fl vwCl TB R_GrantServerModel 80 8 2 true .int := ⟨_, _, _, _, cl_GrantServerModel, by decide, (TBm 694 (by decide +kernel) rfl), rfl, rfl⟩
set_option maxRecDepth 20000 in
theorem fl_GrantServerModel_83 : hm_fl vwCl TB R_GrantServerModel 83 8 3 true .int := ⟨_, _, _, _, cl_GrantServerModel, by decide, (TBm 695 (by decide +kernel) rfl), rfl, rfl⟩
set_option maxRecDepth 20000 in
theorem me_GrantServerModel_activeTokens : hm_meV y_GrantServerModel_activeTokens b_GrantServerModel_activeTokens 3 (some .int) 0 := ⟨⟨(TBm 886 rfl rfl), (TBm 47 (by decide +kernel) rfl), by decide +kernel⟩, (TBm 885 (by decide +kernel) rfl), (TBm 29 (by decide +kernel) rfl)⟩
set_option maxRecDepth 20000 in
theorem me_GrantServerModel_challenge : hm_meV y_GrantServerModel_challenge b_GrantServerModel_challenge 4 (some .int) 0 := ⟨⟨(TBm 833 rfl rfl), (TBm 47 (by decide +kernel) rfl), by decide +kernel⟩, (TBm 831 (by decide +kernel) rfl), (TBm 832 (by decide +kernel) rfl)⟩
set_option maxRecDepth 20000 in
theorem me_GrantServerModel_grant : hm_meV y_GrantServerModel_grant b_GrantServerModel_grant 7 (some .int) 4 := ⟨⟨(TBm 839 rfl rfl), (TBm 47 (by decide +kernel) rfl), by decide +kernel⟩, (TBm 838 (by decide +kernel) rfl), (TBm 22 (by decide +kernel) rfl)⟩
set_option maxRecDepth 20000 in
theorem me_GrantServerModel_isFree : hm_meV y_GrantServerModel_isFree b_GrantServerModel_isFree 2 (some .boolean) 1 := ⟨⟨(TBm 806 rfl rfl), (TBm 47 (by decide +kernel) rfl), by decide +kernel⟩, (TBm 805 (by decide +kernel) rfl), (TBm 18 (by decide +kernel) rfl)⟩
set_option maxRecDepth 20000 in
theorem me_GrantServerModel_isSealed : hm_meV y_GrantServerModel_isSealed b_GrantServerModel_isSealed 5 (some .boolean) 0 := ⟨⟨(TBm 941 rfl rfl), (TBm 47 (by decide +kernel) rfl), by decide +kernel⟩, (TBm 940 (by decide +kernel) rfl), (TBm 31 (by decide +kernel) rfl)⟩
set_option maxRecDepth 20000 in
theorem me_GrantServerModel_member : hm_meV y_GrantServerModel_member b_GrantServerModel_member 5 none 2 := ⟨⟨(TBm 847 rfl rfl), (TBm 47 (by decide +kernel) rfl), by decide +kernel⟩, (TBm 846 (by decide +kernel) rfl), (TBm 24 (by decide +kernel) rfl)⟩
set_option maxRecDepth 20000 in
theorem me_GrantServerModel_put : hm_meV y_GrantServerModel_put b_GrantServerModel_put 7 none 6 := ⟨⟨(TBm 825 rfl rfl), (TBm 47 (by decide +kernel) rfl), by decide +kernel⟩, (TBm 824 (by decide +kernel) rfl), (TBm 21 (by decide +kernel) rfl)⟩
set_option maxRecDepth 20000 in
theorem me_GrantServerModel_readClaims : hm_meV y_GrantServerModel_readClaims b_GrantServerModel_readClaims 5 (some .boolean) 0 := ⟨⟨(TBm 949 rfl rfl), (TBm 47 (by decide +kernel) rfl), by decide +kernel⟩, (TBm 948 (by decide +kernel) rfl), (TBm 33 (by decide +kernel) rfl)⟩
set_option maxRecDepth 20000 in
theorem me_GrantServerModel_room : hm_meV y_GrantServerModel_room b_GrantServerModel_room 3 (some .int) 1 := ⟨⟨(TBm 821 rfl rfl), (TBm 47 (by decide +kernel) rfl), by decide +kernel⟩, (TBm 820 (by decide +kernel) rfl), (TBm 20 (by decide +kernel) rfl)⟩
set_option maxRecDepth 20000 in
theorem me_GrantServerModel_unwrap : hm_meV y_GrantServerModel_unwrap b_GrantServerModel_unwrap 5 none 0 := ⟨⟨(TBm 945 rfl rfl), (TBm 47 (by decide +kernel) rfl), by decide +kernel⟩, (TBm 944 (by decide +kernel) rfl), (TBm 32 (by decide +kernel) rfl)⟩
set_option maxRecDepth 20000 in
theorem wc_GrantServerModel_107 : Cond.constant R_GrantServerModel 107 1073741823 ∈ TB := TBm 802 (by decide +kernel) rfl
set_option maxRecDepth 20000 in
theorem wl_GrantServerModel_108 : Cond.methodLink R_GrantServerModel 108 y_GrantServerModel_isFree ∈ TB := TBm 803 (by decide +kernel) rfl
set_option maxRecDepth 20000 in
theorem wl_GrantServerModel_111 : Cond.methodLink R_GrantServerModel 111 y_GrantServerModel_room ∈ TB := TBm 818 (by decide +kernel) rfl
set_option maxRecDepth 20000 in
theorem wl_GrantServerModel_114 : Cond.methodLink R_GrantServerModel 114 y_GrantServerModel_put ∈ TB := TBm 822 (by decide +kernel) rfl
set_option maxRecDepth 20000 in
theorem wl_GrantServerModel_128 : Cond.methodLink R_GrantServerModel 128 y_GrantServerModel_member ∈ TB := TBm 844 (by decide +kernel) rfl
set_option maxRecDepth 20000 in
theorem wl_GrantServerModel_134 : Cond.methodLink R_GrantServerModel 134 y_GrantServerModel_challenge ∈ TB := TBm 830 (by decide +kernel) rfl
set_option maxRecDepth 20000 in
theorem wl_GrantServerModel_141 : Cond.methodLink R_GrantServerModel 141 y_GrantServerModel_grant ∈ TB := TBm 836 (by decide +kernel) rfl
set_option maxRecDepth 20000 in
theorem wl_GrantServerModel_148 : Cond.methodLink R_GrantServerModel 148 y_GrantServerModel_activeTokens ∈ TB := TBm 883 (by decide +kernel) rfl
set_option maxRecDepth 20000 in
theorem wl_GrantServerModel_210 : Cond.methodLink R_GrantServerModel 210 y_GrantServerModel_isSealed ∈ TB := TBm 938 (by decide +kernel) rfl
set_option maxRecDepth 20000 in
theorem wl_GrantServerModel_213 : Cond.methodLink R_GrantServerModel 213 y_GrantServerModel_unwrap ∈ TB := TBm 942 (by decide +kernel) rfl
set_option maxRecDepth 20000 in
theorem wl_GrantServerModel_216 : Cond.methodLink R_GrantServerModel 216 y_GrantServerModel_readClaims ∈ TB := TBm 946 (by decide +kernel) rfl
set_option maxHeartbeats 4000000 in
set_option maxRecDepth 100000 in
theorem m_c_auth_no (l : Launch) (D : va_G) (k : Nat → ClassId) (f : hm) (h : Nat) (ad : Nat → Nat) (sk : Int64) (v : Nat → Int32) (c : Nat → Nat → Int32) (j : Nat) (red : Int32) (sc : Int32) (ch : Int32) (n : Int32) (hmo : mo k f h ad sk v c) (hz : ¬ m_isC (v 8) (nI j) = 0) (hj : j < 4) (hne : ¬ a_auth (c 6 j) (c 7 j) red sc ch (m_free (c 10) n) (m_fu (m_roomF (c 10) 16 0)) = 0) : hm_Mi l D vwCl (tyL k) y_GrantServerModel_authorize (Cond.code y_GrantServerModel_authorize b_GrantServerModel_authorize 7 (some .int) :: TB) ({ frames := 3, cells := 0, slots := 0, locals := 64 }) [.ref h, .int (nI j), .int red, .int sc, .int ch, .int n] f (fun (r : Int32) (f1 : hm) => a_auth (c 6 j) (c 7 j) red sc ch (m_free (c 10) n) (m_fu (m_roomF (c 10) 16 0)) = r ∧ f = f1) 0 0 := by
  refine hm_enter (Qc := fun sz => va_Qi _ (hm_R D vwCl (tyL k) f sz) (hm_A f sz)) (by decide) rfl (Nat.le_of_ble_eq_true rfl) ?_
  intro pg e s m below meth cd ls X0 hr hlk hin hK hM hS hA hl Q hQ
  have X : CallFix pg m cd b_GrantServerModel_authorize 7 s ([.ref h, .int (nI j), .int red, .int sc, .int ch, .int n] : List Value).toArray TB R_GrantServerModel := ⟨X0.1, X0.2.1, X0.2.2.1, X0.2.2.2.1, fun w h => X0.2.2.2.2 w (List.mem_cons_of_mem _ h)⟩
  have hx := X.1; have hb := X.2.1; have hml := X.2.2.1; have hown := X.2.2.2.1; have hts := X.2.2.2.2
  have hl : lv_has ls 7 [(0, .ref h), (1, .int (nI j)), (2, .int red), (3, .int sc), (4, .int ch), (5, .int n)] := hl
  have hfr : mo_fr h ad f f := mo_fr.rf
  refine lv_aload_n hx hb d_GrantServerModel_authorize_0 rfl (lv_at hl 0 rfl) ?_
  refine lv_iload_n hx hb d_GrantServerModel_authorize_1 rfl (lv_at hl 1 rfl) ?_
  refine hm_calli hS hM hA (va_runV (As := [.int (nI j)]) (rest := []) X (m_c_isClient l D k f h ad sk v c (nI j) hmo  s.heap.size) (hm_cwV hts me_GrantServerModel_isClient wl_GrantServerModel_89 rfl rfl ⟨Nat.le_of_ble_eq_true rfl, Nat.le_of_ble_eq_true rfl⟩) (hm_preV hM hK hmo.1 rfl) rfl rfl hl.1 rfl (lv_room (Nat.le_of_ble_eq_true rfl)) d_GrantServerModel_authorize_2 ⟨Nat.le_of_ble_eq_true rfl, Nat.le_of_ble_eq_true rfl⟩) (fun r3 f1 H locs p2 hM hS => ?_)
  obtain ⟨rfl, rfl⟩ := p2
  refine lv_if_eq (tgt := 20) hx hb d_GrantServerModel_authorize_5 (by decide) (fun h4 => ?_) (fun h4 => ?_)
  · exact absurd h4 hz
  · refine lv_iload hx hb d_GrantServerModel_authorize_8 (lv_at hl 4 rfl) ?_
    refine lv_if_lt (tgt := 20) hx hb d_GrantServerModel_authorize_10 (by decide) (fun h5 => ?_) (fun h5 => ?_)
    · refine lv_iconst (v := (-1)) hx hb d_GrantServerModel_authorize_20 (by decide) ?_
      exact hm_iret X hQ hr hlk hK hM hS d_GrantServerModel_authorize_21 ⟨(by simp [a_auth, h4, h5, Int32.not_le.mpr h5]), rfl⟩
    · refine lv_iload hx hb d_GrantServerModel_authorize_13 (lv_at hl 4 rfl) ?_
      refine lv_ldc (v := 1073741823) hx hb hown (hts _ wc_GrantServerModel_107) d_GrantServerModel_authorize_15 ?_
      refine lv_icmp_le (tgt := 22) hx hb d_GrantServerModel_authorize_17 (by decide) (fun h6 => ?_) (fun h6 => ?_)
      · refine lv_aload_n hx hb d_GrantServerModel_authorize_22 rfl (lv_at hl 0 rfl) ?_
        refine hm_get X hK hM hmo.1 fl_GrantServerModel_13 (v := .ref (ad 6)) rfl d_GrantServerModel_authorize_23 ?_
        refine lv_iload_n hx hb d_GrantServerModel_authorize_26 rfl (lv_at hl 1 rfl) ?_
        have g7 : f (ad 6) = some (.inl (k 0, 4, .inl (c 6))) := hmo.arr 6 (by decide) (by decide)
        refine hm_iald X hK hM g7 0 rfl j rfl (by omega) (by decide) d_GrantServerModel_authorize_27 ?_
        refine lv_iload_n hx hb d_GrantServerModel_authorize_28 rfl (lv_at hl 2 rfl) ?_
        refine lv_icmp_eq (tgt := 35) hx hb d_GrantServerModel_authorize_29 (by decide) (fun h8 => ?_) (fun h8 => ?_)
        · refine lv_iload_n hx hb d_GrantServerModel_authorize_35 rfl (lv_at hl 3 rfl) ?_
          refine lv_iconst (v := 1) hx hb d_GrantServerModel_authorize_36 (by decide) ?_
          refine lv_icmp_lt (tgt := 59) hx hb d_GrantServerModel_authorize_37 (by decide) (fun h9 => ?_) (fun h9 => ?_)
          · refine lv_bipush (v := (-4)) hx hb d_GrantServerModel_authorize_59 (by decide) ?_
            exact hm_iret X hQ hr hlk hK hM hS d_GrantServerModel_authorize_61 ⟨(by simp [a_auth, h4, h5, Int32.not_lt.mp h5, h6, Int32.not_lt.mpr h6, h8, h9, Int32.not_le.mpr h9]), rfl⟩
          · refine lv_iload_n hx hb d_GrantServerModel_authorize_40 rfl (lv_at hl 3 rfl) ?_
            refine lv_bipush (v := 15) hx hb d_GrantServerModel_authorize_41 (by decide) ?_
            refine lv_icmp_gt (tgt := 59) hx hb d_GrantServerModel_authorize_43 (by decide) (fun h10 => ?_) (fun h10 => ?_)
            · refine lv_bipush (v := (-4)) hx hb d_GrantServerModel_authorize_59 (by decide) ?_
              exact hm_iret X hQ hr hlk hK hM hS d_GrantServerModel_authorize_61 ⟨(by simp [a_auth, h4, h5, Int32.not_lt.mp h5, h6, Int32.not_lt.mpr h6, h8, h9, Int32.not_lt.mp h9, h10, Int32.not_le.mpr h10]), rfl⟩
            · refine lv_iload_n hx hb d_GrantServerModel_authorize_46 rfl (lv_at hl 3 rfl) ?_
              refine lv_aload_n hx hb d_GrantServerModel_authorize_47 rfl (lv_at hl 0 rfl) ?_
              refine hm_get X hK hM hmo.1 fl_GrantServerModel_16 (v := .ref (ad 7)) rfl d_GrantServerModel_authorize_48 ?_
              refine lv_iload_n hx hb d_GrantServerModel_authorize_51 rfl (lv_at hl 1 rfl) ?_
              have g11 : f (ad 7) = some (.inl (k 0, 4, .inl (c 7))) := hmo.arr 7 (by decide) (by decide)
              refine hm_iald X hK hM g11 0 rfl j rfl (by omega) (by decide) d_GrantServerModel_authorize_52 ?_
              refine lv_iconst (v := (-1)) hx hb d_GrantServerModel_authorize_53 (by decide) ?_
              refine lv_ixor hx hb d_GrantServerModel_authorize_54 ?_
              refine lv_iand hx hb d_GrantServerModel_authorize_55 ?_
              refine lv_if_eq (tgt := 62) hx hb d_GrantServerModel_authorize_56 (by decide) (fun h12 => ?_) (fun h12 => ?_)
              · refine lv_aload_n hx hb d_GrantServerModel_authorize_62 rfl (lv_at hl 0 rfl) ?_
                refine lv_iload hx hb d_GrantServerModel_authorize_63 (lv_at hl 5 rfl) ?_
                refine hm_calli hS hM hA (va_runV (As := [.int n]) (rest := []) X (m_c_isFree l D k f h ad sk v c n hmo  H.size) (hm_cwV hts me_GrantServerModel_isFree wl_GrantServerModel_108 rfl rfl ⟨Nat.le_of_ble_eq_true rfl, Nat.le_of_ble_eq_true rfl⟩) (hm_preV hM hK hmo.1 rfl) rfl rfl hl.1 rfl (lv_room (Nat.le_of_ble_eq_true rfl)) d_GrantServerModel_authorize_65 ⟨Nat.le_of_ble_eq_true rfl, Nat.le_of_ble_eq_true rfl⟩) (fun r15 f13 H locs p14 hM hS => ?_)
                obtain ⟨rfl, rfl⟩ := p14
                refine lv_if_ne (tgt := 74) hx hb d_GrantServerModel_authorize_68 (by decide) (fun h16 => ?_) (fun h16 => ?_)
                · refine lv_aload_n hx hb d_GrantServerModel_authorize_74 rfl (lv_at hl 0 rfl) ?_
                  refine lv_iconst (v := 0) hx hb d_GrantServerModel_authorize_75 (by decide) ?_
                  refine hm_calli hS hM hA (va_runV (As := [.int 0]) (rest := []) X (m_c_room l D k f h ad sk v c 0 hmo  H.size) (hm_cwV hts me_GrantServerModel_room wl_GrantServerModel_111 rfl rfl ⟨Nat.le_of_ble_eq_true rfl, Nat.le_of_ble_eq_true rfl⟩) (hm_preV hM hK hmo.1 rfl) rfl rfl hl.1 rfl (lv_room (Nat.le_of_ble_eq_true rfl)) d_GrantServerModel_authorize_76 ⟨Nat.le_of_ble_eq_true rfl, Nat.le_of_ble_eq_true rfl⟩) (fun r19 f17 H locs p18 hM hS => ?_)
                  obtain ⟨rfl, rfl⟩ := p18
                  refine hm_top (z := m_roomF (c 10) 16 0) (by simp [m_toN, m_fromN]) ?_
                  refine lv_istore (lv' := [(6, .int (m_roomF (c 10) 16 0)), (0, .ref h), (1, .int (nI j)), (2, .int red), (3, .int sc), (4, .int ch), (5, .int n)]) hx hb d_GrantServerModel_authorize_79 hl (by decide) rfl (fun ls hl => ?_)
                  refine lv_iload hx hb d_GrantServerModel_authorize_81 (lv_at hl 0 rfl) ?_
                  refine lv_if_ge (tgt := 89) hx hb d_GrantServerModel_authorize_83 (by decide) (fun h20 => ?_) (fun h20 => ?_)
                  · exact absurd (by simp [a_auth, h4, h5, Int32.not_lt.mp h5, h6, Int32.not_lt.mpr h6, h8, h9, Int32.not_lt.mp h9, h10, Int32.not_lt.mp h10, h12, h16, z_wi_1 h12, m_fu_0 (Int32.not_lt.mpr h20)]) hne
                  · refine lv_bipush (v := (-6)) hx hb d_GrantServerModel_authorize_86 (by decide) ?_
                    exact hm_iret X hQ hr hlk hK hM hS d_GrantServerModel_authorize_88 ⟨(by simp [a_auth, h4, h5, Int32.not_lt.mp h5, h6, Int32.not_lt.mpr h6, h8, h9, Int32.not_lt.mp h9, h10, Int32.not_lt.mp h10, h12, h16, h20, Int32.not_le.mp h20, z_wi_1 h12, m_fu_1 (Int32.not_le.mp h20)]), rfl⟩
                · refine lv_bipush (v := (-5)) hx hb d_GrantServerModel_authorize_71 (by decide) ?_
                  exact hm_iret X hQ hr hlk hK hM hS d_GrantServerModel_authorize_73 ⟨(by simp [a_auth, h4, h5, Int32.not_lt.mp h5, h6, Int32.not_lt.mpr h6, h8, h9, Int32.not_lt.mp h9, h10, Int32.not_lt.mp h10, h12, h16, z_wi_1 h12]), rfl⟩
              · refine lv_bipush (v := (-4)) hx hb d_GrantServerModel_authorize_59 (by decide) ?_
                exact hm_iret X hQ hr hlk hK hM hS d_GrantServerModel_authorize_61 ⟨(by simp [a_auth, h4, h5, Int32.not_lt.mp h5, h6, Int32.not_lt.mpr h6, h8, h9, Int32.not_lt.mp h9, h10, Int32.not_lt.mp h10, h12, z_wi_0 h12]), rfl⟩
        · refine lv_bipush (v := (-13)) hx hb d_GrantServerModel_authorize_32 (by decide) ?_
          exact hm_iret X hQ hr hlk hK hM hS d_GrantServerModel_authorize_34 ⟨(by simp [a_auth, h4, h5, Int32.not_lt.mp h5, h6, Int32.not_lt.mpr h6, h8]), rfl⟩
      · refine lv_iconst (v := (-1)) hx hb d_GrantServerModel_authorize_20 (by decide) ?_
        exact hm_iret X hQ hr hlk hK hM hS d_GrantServerModel_authorize_21 ⟨(by simp [a_auth, h4, h5, Int32.not_lt.mp h5, h6, Int32.not_le.mp h6]), rfl⟩
set_option maxHeartbeats 4000000 in
set_option maxRecDepth 100000 in
theorem m_c_auth (l : Launch) (D : va_G) (k : Nat → ClassId) (f : hm) (h : Nat) (ad : Nat → Nat) (sk : Int64) (v : Nat → Int32) (c : Nat → Nat → Int32) (j : Nat) (red : Int32) (sc : Int32) (ch : Int32) (n : Int32) (jr : Nat) (hmo : mo k f h ad sk v c) (hz : ¬ m_isC (v 8) (nI j) = 0) (hj : j < 4) (hok0 : a_auth (c 6 j) (c 7 j) red sc ch (m_free (c 10) n) (m_fu (m_roomF (c 10) 16 0)) = 0) (hrm : m_roomF (c 10) 16 0 = nI jr) (hjr : jr < 16) : hm_Mi l D vwCl (tyL k) y_GrantServerModel_authorize (Cond.code y_GrantServerModel_authorize b_GrantServerModel_authorize 7 (some .int) :: TB) ({ frames := 3, cells := 0, slots := 0, locals := 64 }) [.ref h, .int (nI j), .int red, .int sc, .int ch, .int n] f (fun (r : Int32) (f1 : hm) => 0 = r ∧ mo k f1 h ad sk v (va_up (va_up (m_put c jr n (nI j) sc (v 4 + v 1) (-1)) 16 (upd (c 16) jr red)) 17 (upd (c 17) jr ch)) ∧ mo_fr h ad f f1) 0 0 := by
  refine hm_enter (Qc := fun sz => va_Qi _ (hm_R D vwCl (tyL k) f sz) (hm_A f sz)) (by decide) rfl (Nat.le_of_ble_eq_true rfl) ?_
  intro pg e s m below meth cd ls X0 hr hlk hin hK hM hS hA hl Q hQ
  have X : CallFix pg m cd b_GrantServerModel_authorize 7 s ([.ref h, .int (nI j), .int red, .int sc, .int ch, .int n] : List Value).toArray TB R_GrantServerModel := ⟨X0.1, X0.2.1, X0.2.2.1, X0.2.2.2.1, fun w h => X0.2.2.2.2 w (List.mem_cons_of_mem _ h)⟩
  have hx := X.1; have hb := X.2.1; have hml := X.2.2.1; have hown := X.2.2.2.1; have hts := X.2.2.2.2
  have hl : lv_has ls 7 [(0, .ref h), (1, .int (nI j)), (2, .int red), (3, .int sc), (4, .int ch), (5, .int n)] := hl
  have hfr : mo_fr h ad f f := mo_fr.rf
  refine lv_aload_n hx hb d_GrantServerModel_authorize_0 rfl (lv_at hl 0 rfl) ?_
  refine lv_iload_n hx hb d_GrantServerModel_authorize_1 rfl (lv_at hl 1 rfl) ?_
  refine hm_calli hS hM hA (va_runV (As := [.int (nI j)]) (rest := []) X (m_c_isClient l D k f h ad sk v c (nI j) hmo  s.heap.size) (hm_cwV hts me_GrantServerModel_isClient wl_GrantServerModel_89 rfl rfl ⟨Nat.le_of_ble_eq_true rfl, Nat.le_of_ble_eq_true rfl⟩) (hm_preV hM hK hmo.1 rfl) rfl rfl hl.1 rfl (lv_room (Nat.le_of_ble_eq_true rfl)) d_GrantServerModel_authorize_2 ⟨Nat.le_of_ble_eq_true rfl, Nat.le_of_ble_eq_true rfl⟩) (fun r3 f1 H locs p2 hM hS => ?_)
  obtain ⟨rfl, rfl⟩ := p2
  refine lv_if_eq (tgt := 20) hx hb d_GrantServerModel_authorize_5 (by decide) (fun h4 => ?_) (fun h4 => ?_)
  · exact absurd h4 hz
  · refine lv_iload hx hb d_GrantServerModel_authorize_8 (lv_at hl 4 rfl) ?_
    refine lv_if_lt (tgt := 20) hx hb d_GrantServerModel_authorize_10 (by decide) (fun h5 => ?_) (fun h5 => ?_)
    · exact absurd (by simp [a_auth, h4, h5, Int32.not_le.mpr h5]) ((show ¬ ¬ a_auth (c 6 j) (c 7 j) red sc ch (m_free (c 10) n) (m_fu (m_roomF (c 10) 16 0)) = 0 from fun z => z hok0))
    · refine lv_iload hx hb d_GrantServerModel_authorize_13 (lv_at hl 4 rfl) ?_
      refine lv_ldc (v := 1073741823) hx hb hown (hts _ wc_GrantServerModel_107) d_GrantServerModel_authorize_15 ?_
      refine lv_icmp_le (tgt := 22) hx hb d_GrantServerModel_authorize_17 (by decide) (fun h6 => ?_) (fun h6 => ?_)
      · refine lv_aload_n hx hb d_GrantServerModel_authorize_22 rfl (lv_at hl 0 rfl) ?_
        refine hm_get X hK hM hmo.1 fl_GrantServerModel_13 (v := .ref (ad 6)) rfl d_GrantServerModel_authorize_23 ?_
        refine lv_iload_n hx hb d_GrantServerModel_authorize_26 rfl (lv_at hl 1 rfl) ?_
        have g7 : f (ad 6) = some (.inl (k 0, 4, .inl (c 6))) := hmo.arr 6 (by decide) (by decide)
        refine hm_iald X hK hM g7 0 rfl j rfl (by omega) (by decide) d_GrantServerModel_authorize_27 ?_
        refine lv_iload_n hx hb d_GrantServerModel_authorize_28 rfl (lv_at hl 2 rfl) ?_
        refine lv_icmp_eq (tgt := 35) hx hb d_GrantServerModel_authorize_29 (by decide) (fun h8 => ?_) (fun h8 => ?_)
        · refine lv_iload_n hx hb d_GrantServerModel_authorize_35 rfl (lv_at hl 3 rfl) ?_
          refine lv_iconst (v := 1) hx hb d_GrantServerModel_authorize_36 (by decide) ?_
          refine lv_icmp_lt (tgt := 59) hx hb d_GrantServerModel_authorize_37 (by decide) (fun h9 => ?_) (fun h9 => ?_)
          · exact absurd (by simp [a_auth, h4, h5, Int32.not_lt.mp h5, h6, Int32.not_lt.mpr h6, h8, h9, Int32.not_le.mpr h9]) ((show ¬ ¬ a_auth (c 6 j) (c 7 j) red sc ch (m_free (c 10) n) (m_fu (m_roomF (c 10) 16 0)) = 0 from fun z => z hok0))
          · refine lv_iload_n hx hb d_GrantServerModel_authorize_40 rfl (lv_at hl 3 rfl) ?_
            refine lv_bipush (v := 15) hx hb d_GrantServerModel_authorize_41 (by decide) ?_
            refine lv_icmp_gt (tgt := 59) hx hb d_GrantServerModel_authorize_43 (by decide) (fun h10 => ?_) (fun h10 => ?_)
            · exact absurd (by simp [a_auth, h4, h5, Int32.not_lt.mp h5, h6, Int32.not_lt.mpr h6, h8, h9, Int32.not_lt.mp h9, h10, Int32.not_le.mpr h10]) ((show ¬ ¬ a_auth (c 6 j) (c 7 j) red sc ch (m_free (c 10) n) (m_fu (m_roomF (c 10) 16 0)) = 0 from fun z => z hok0))
            · refine lv_iload_n hx hb d_GrantServerModel_authorize_46 rfl (lv_at hl 3 rfl) ?_
              refine lv_aload_n hx hb d_GrantServerModel_authorize_47 rfl (lv_at hl 0 rfl) ?_
              refine hm_get X hK hM hmo.1 fl_GrantServerModel_16 (v := .ref (ad 7)) rfl d_GrantServerModel_authorize_48 ?_
              refine lv_iload_n hx hb d_GrantServerModel_authorize_51 rfl (lv_at hl 1 rfl) ?_
              have g11 : f (ad 7) = some (.inl (k 0, 4, .inl (c 7))) := hmo.arr 7 (by decide) (by decide)
              refine hm_iald X hK hM g11 0 rfl j rfl (by omega) (by decide) d_GrantServerModel_authorize_52 ?_
              refine lv_iconst (v := (-1)) hx hb d_GrantServerModel_authorize_53 (by decide) ?_
              refine lv_ixor hx hb d_GrantServerModel_authorize_54 ?_
              refine lv_iand hx hb d_GrantServerModel_authorize_55 ?_
              refine lv_if_eq (tgt := 62) hx hb d_GrantServerModel_authorize_56 (by decide) (fun h12 => ?_) (fun h12 => ?_)
              · refine lv_aload_n hx hb d_GrantServerModel_authorize_62 rfl (lv_at hl 0 rfl) ?_
                refine lv_iload hx hb d_GrantServerModel_authorize_63 (lv_at hl 5 rfl) ?_
                refine hm_calli hS hM hA (va_runV (As := [.int n]) (rest := []) X (m_c_isFree l D k f h ad sk v c n hmo  H.size) (hm_cwV hts me_GrantServerModel_isFree wl_GrantServerModel_108 rfl rfl ⟨Nat.le_of_ble_eq_true rfl, Nat.le_of_ble_eq_true rfl⟩) (hm_preV hM hK hmo.1 rfl) rfl rfl hl.1 rfl (lv_room (Nat.le_of_ble_eq_true rfl)) d_GrantServerModel_authorize_65 ⟨Nat.le_of_ble_eq_true rfl, Nat.le_of_ble_eq_true rfl⟩) (fun r15 f13 H locs p14 hM hS => ?_)
                obtain ⟨rfl, rfl⟩ := p14
                refine lv_if_ne (tgt := 74) hx hb d_GrantServerModel_authorize_68 (by decide) (fun h16 => ?_) (fun h16 => ?_)
                · refine lv_aload_n hx hb d_GrantServerModel_authorize_74 rfl (lv_at hl 0 rfl) ?_
                  refine lv_iconst (v := 0) hx hb d_GrantServerModel_authorize_75 (by decide) ?_
                  refine hm_calli hS hM hA (va_runV (As := [.int 0]) (rest := []) X (m_c_room l D k f h ad sk v c 0 hmo  H.size) (hm_cwV hts me_GrantServerModel_room wl_GrantServerModel_111 rfl rfl ⟨Nat.le_of_ble_eq_true rfl, Nat.le_of_ble_eq_true rfl⟩) (hm_preV hM hK hmo.1 rfl) rfl rfl hl.1 rfl (lv_room (Nat.le_of_ble_eq_true rfl)) d_GrantServerModel_authorize_76 ⟨Nat.le_of_ble_eq_true rfl, Nat.le_of_ble_eq_true rfl⟩) (fun r19 f17 H locs p18 hM hS => ?_)
                  obtain ⟨rfl, rfl⟩ := p18
                  refine hm_top (z := m_roomF (c 10) 16 0) (by simp [m_toN, m_fromN]) ?_
                  refine hm_top (z := nI jr) hrm ?_
                  refine lv_istore (lv' := [(6, .int (nI jr)), (0, .ref h), (1, .int (nI j)), (2, .int red), (3, .int sc), (4, .int ch), (5, .int n)]) hx hb d_GrantServerModel_authorize_79 hl (by decide) rfl (fun ls hl => ?_)
                  refine lv_iload hx hb d_GrantServerModel_authorize_81 (lv_at hl 0 rfl) ?_
                  refine lv_if_ge (tgt := 89) hx hb d_GrantServerModel_authorize_83 (by decide) (fun h20 => ?_) (fun h20 => ?_)
                  · refine lv_aload_n hx hb d_GrantServerModel_authorize_89 rfl (lv_at hl 1 rfl) ?_
                    refine lv_iload hx hb d_GrantServerModel_authorize_90 (lv_at hl 0 rfl) ?_
                    refine lv_iload hx hb d_GrantServerModel_authorize_92 (lv_at hl 6 rfl) ?_
                    refine lv_iload_n hx hb d_GrantServerModel_authorize_94 rfl (lv_at hl 2 rfl) ?_
                    refine lv_iload_n hx hb d_GrantServerModel_authorize_95 rfl (lv_at hl 4 rfl) ?_
                    refine lv_aload_n hx hb d_GrantServerModel_authorize_96 rfl (lv_at hl 1 rfl) ?_
                    refine hm_get X hK hM hmo.1 fl_GrantServerModel_104 (v := .int (v 4)) rfl d_GrantServerModel_authorize_97 ?_
                    refine lv_aload_n hx hb d_GrantServerModel_authorize_100 rfl (lv_at hl 1 rfl) ?_
                    refine hm_get X hK hM hmo.1 fl_GrantServerModel_77 (v := .int (v 1)) rfl d_GrantServerModel_authorize_101 ?_
                    refine lv_iadd hx hb d_GrantServerModel_authorize_104 ?_
                    refine lv_iconst (v := (-1)) hx hb d_GrantServerModel_authorize_105 (by decide) ?_
                    refine hm_callv hS hM hA (va_runV (As := [.int (nI jr), .int n, .int (nI j), .int sc, .int ((v 4) + (v 1)), .int (-1)]) (rest := []) X (m_c_put l D k f h ad sk v c jr n (nI j) sc ((v 4) + (v 1)) (-1) hmo (by omega) H.size) (hm_cwV hts me_GrantServerModel_put wl_GrantServerModel_114 rfl rfl ⟨Nat.le_of_ble_eq_true rfl, Nat.le_of_ble_eq_true rfl⟩) (hm_preV hM hK hmo.1 rfl) rfl rfl hl.1 rfl (lv_room (Nat.le_of_ble_eq_true rfl)) d_GrantServerModel_authorize_106 ⟨Nat.le_of_ble_eq_true rfl, Nat.le_of_ble_eq_true rfl⟩) (fun f21 H locs p22 hM hS => ?_)
                    obtain ⟨hmo, hfr23⟩ := p22
                    have hfr := hfr.tr hfr23
                    have hmo : mo k f21 h ad sk v (va_up (va_up (va_up (va_up (va_up (va_up c 10 (upd (c 10) jr n)) 11 (upd (c 11) jr (nI j))) 12 (upd (c 12) jr sc)) 13 (upd (c 13) jr ((v 4) + (v 1)))) 14 (upd (c 14) jr 0)) 15 (upd (c 15) jr (-1))) := hmo
                    refine lv_aload_n hx hb d_GrantServerModel_authorize_109 rfl (lv_at hl 1 rfl) ?_
                    refine hm_get X hK hM hmo.1 fl_GrantServerModel_42 (v := .ref (ad 16)) rfl d_GrantServerModel_authorize_110 ?_
                    refine lv_iload hx hb d_GrantServerModel_authorize_113 (lv_at hl 0 rfl) ?_
                    refine lv_iload_n hx hb d_GrantServerModel_authorize_115 rfl (lv_at hl 3 rfl) ?_
                    have g24 : f21 (ad 16) = some (.inl (k 0, 16, .inl (c 16))) := hmo.arr 16 (by decide) (by decide)
                    refine hm_iast X hK hM hS g24 0 rfl jr rfl (by omega) (by decide) d_GrantServerModel_authorize_116 (fun f25 H locs e26 hM hS => ?_)
                    have hfr := hfr.ast 16 (by decide) (by decide) e26; have hmo : mo k f25 h ad sk v (va_up (va_up (va_up (va_up (va_up (va_up (va_up c 10 (upd (c 10) jr n)) 11 (upd (c 11) jr (nI j))) 12 (upd (c 12) jr sc)) 13 (upd (c 13) jr ((v 4) + (v 1)))) 14 (upd (c 14) jr 0)) 15 (upd (c 15) jr (-1))) 16 (upd (c 16) jr red)) := hmo.ast 16 (by decide) (by decide) e26
                    refine lv_aload_n hx hb d_GrantServerModel_authorize_117 rfl (lv_at hl 1 rfl) ?_
                    refine hm_get X hK hM hmo.1 fl_GrantServerModel_45 (v := .ref (ad 17)) rfl d_GrantServerModel_authorize_118 ?_
                    refine lv_iload hx hb d_GrantServerModel_authorize_121 (lv_at hl 0 rfl) ?_
                    refine lv_iload hx hb d_GrantServerModel_authorize_123 (lv_at hl 5 rfl) ?_
                    have g27 : f25 (ad 17) = some (.inl (k 0, 16, .inl (c 17))) := hmo.arr 17 (by decide) (by decide)
                    refine hm_iast X hK hM hS g27 0 rfl jr rfl (by omega) (by decide) d_GrantServerModel_authorize_125 (fun f28 H locs e29 hM hS => ?_)
                    have hfr := hfr.ast 17 (by decide) (by decide) e29; have hmo : mo k f28 h ad sk v (va_up (va_up (va_up (va_up (va_up (va_up (va_up (va_up c 10 (upd (c 10) jr n)) 11 (upd (c 11) jr (nI j))) 12 (upd (c 12) jr sc)) 13 (upd (c 13) jr ((v 4) + (v 1)))) 14 (upd (c 14) jr 0)) 15 (upd (c 15) jr (-1))) 16 (upd (c 16) jr red)) 17 (upd (c 17) jr ch)) := hmo.ast 17 (by decide) (by decide) e29
                    refine lv_iconst (v := 0) hx hb d_GrantServerModel_authorize_126 (by decide) ?_
                    exact hm_iret X hQ hr hlk hK hM hS d_GrantServerModel_authorize_127 ⟨rfl, hmo, hfr⟩
                  · exact absurd (nI_pos' (by omega)) h20
                · exact absurd (by simp [a_auth, h4, h5, Int32.not_lt.mp h5, h6, Int32.not_lt.mpr h6, h8, h9, Int32.not_lt.mp h9, h10, Int32.not_lt.mp h10, h12, z_wi_1 h12, h16]) ((show ¬ ¬ a_auth (c 6 j) (c 7 j) red sc ch (m_free (c 10) n) (m_fu (m_roomF (c 10) 16 0)) = 0 from fun z => z hok0))
              · exact absurd (by simp [a_auth, h4, h5, Int32.not_lt.mp h5, h6, Int32.not_lt.mpr h6, h8, h9, Int32.not_lt.mp h9, h10, Int32.not_lt.mp h10, h12, z_wi_0 h12]) ((show ¬ ¬ a_auth (c 6 j) (c 7 j) red sc ch (m_free (c 10) n) (m_fu (m_roomF (c 10) 16 0)) = 0 from fun z => z hok0))
        · exact absurd (by simp [a_auth, h4, h5, Int32.not_lt.mp h5, h6, Int32.not_lt.mpr h6, h8]) ((show ¬ ¬ a_auth (c 6 j) (c 7 j) red sc ch (m_free (c 10) n) (m_fu (m_roomF (c 10) 16 0)) = 0 from fun z => z hok0))
      · exact absurd (by simp [a_auth, h4, h5, Int32.not_lt.mp h5, h6, Int32.not_le.mp h6]) ((show ¬ ¬ a_auth (c 6 j) (c 7 j) red sc ch (m_free (c 10) n) (m_fu (m_roomF (c 10) 16 0)) = 0 from fun z => z hok0))
set_option maxHeartbeats 4000000 in
set_option maxRecDepth 100000 in
theorem m_c_grant (l : Launch) (D : va_G) (k : Nat → ClassId) (f : hm) (h : Nat) (ad : Nat → Nat) (sk : Int64) (v : Nat → Int32) (c : Nat → Nat → Int32) (t : Nat) (n : Int32) (vl : Nat → Nat) (K : Nat → Nat) (ja : Nat) (jb : Nat) (hmo : mo k f h ad sk v c) (ht : t < 520) (hra : m_roomF (c 10) 24 16 = nI ja) (hrb : m_roomF (c 10) 24 40 = nI jb) (hja : ja < 64) (hjb : jb < 64) (hau : c 20 t = nI (vl 1)) (hen : v 4 + v 2 = nI (vl 2)) (hmd : v 18 + 1 = nI (vl 3)) (hKd : ∀ i, i < 5 → z_dg (vl i) (K i)) (hvl : ∀ i, i < 5 → vl i < 2 ^ 31) (hsz : z_tot K ≤ 81) : hm_Mi l D vwCl (tyL k) y_GrantServerModel_grant (Cond.code y_GrantServerModel_grant b_GrantServerModel_grant 7 (some .int) :: TB) ({ frames := 3, cells := 0, slots := 0, locals := 68 }) [.ref h, .int (nI (vl 0)), .int (nI t), .int n, .int (nI (vl 4))] f (fun (r : Int32) (f1 : hm) => ∃ (g : Nat → Int32) (g2 : Nat → Int32), nI (vl 3) = r ∧ (∀ i, i < (z_tot K * 8 + 5) / 6 → g2 i = nI (st_chr 6 (z_six (z_tot K) (z_ct vl K) i))) ∧ (g2 ((z_tot K * 8 + 5) / 6) = 46) ∧ (∀ i, i < 10 → g2 ((z_tot K * 8 + 5) / 6 + 1 + i) = m_sign (m_ss (z_seal sk g2 ((z_tot K * 8 + 5) / 6)) i)) ∧ mo k f1 h ad sk (upd (upd (upd v 18 (nI (vl 3))) 28 (nI (z_tot K))) 26 (nI ((z_tot K * 8 + 5) / 6 + 11))) (va_up (va_up (m_put (m_put c ja n (nI (vl 0)) (c 19 t) (v 4 + v 3) (nI t)) jb (nI (vl 3)) (nI (vl 0)) (nI (vl 4)) (v 4 + v 2) (nI t)) 27 g) 25 g2) ∧ mo_fr h ad f f1) 0 0 := by
  refine hm_enter (Qc := fun sz => va_Qi _ (hm_R D vwCl (tyL k) f sz) (hm_A f sz)) (by decide) rfl (Nat.le_of_ble_eq_true rfl) ?_
  intro pg e s m below meth cd ls X0 hr hlk hin hK hM hS hA hl Q hQ
  have X : CallFix pg m cd b_GrantServerModel_grant 7 s ([.ref h, .int (nI (vl 0)), .int (nI t), .int n, .int (nI (vl 4))] : List Value).toArray TB R_GrantServerModel := ⟨X0.1, X0.2.1, X0.2.2.1, X0.2.2.2.1, fun w h => X0.2.2.2.2 w (List.mem_cons_of_mem _ h)⟩
  have hx := X.1; have hb := X.2.1; have hml := X.2.2.1; have hown := X.2.2.2.1; have hts := X.2.2.2.2
  have hl : lv_has ls 7 [(0, .ref h), (1, .int (nI (vl 0))), (2, .int (nI t)), (3, .int n), (4, .int (nI (vl 4)))] := hl
  have hfr : mo_fr h ad f f := mo_fr.rf
  have e0 : m_nl 0 = 3 := rfl
  have e1 : m_nl 1 = 3 := rfl
  have e2 : m_nl 2 = 3 := rfl
  have e3 : m_nl 3 = 3 := rfl
  have e4 : m_nl 4 = 5 := rfl
  have hz := hsz
  unfold z_tot at hz
  refine lv_aload_n hx hb d_GrantServerModel_grant_0 rfl (lv_at hl 0 rfl) ?_
  refine lv_iconst (v := 1) hx hb d_GrantServerModel_grant_1 (by decide) ?_
  refine hm_calli hS hM hA (va_runV (As := [.int 1]) (rest := []) X (m_c_room l D k f h ad sk v c 1 hmo  s.heap.size) (hm_cwV hts me_GrantServerModel_room wl_GrantServerModel_111 rfl rfl ⟨Nat.le_of_ble_eq_true rfl, Nat.le_of_ble_eq_true rfl⟩) (hm_preV hM hK hmo.1 rfl) rfl rfl hl.1 rfl (lv_room (Nat.le_of_ble_eq_true rfl)) d_GrantServerModel_grant_2 ⟨Nat.le_of_ble_eq_true rfl, Nat.le_of_ble_eq_true rfl⟩) (fun r3 f1 H locs p2 hM hS => ?_)
  obtain ⟨rfl, rfl⟩ := p2
  refine hm_top (z := m_roomF (c 10) 24 16) (by simp [m_toN, m_fromN]) ?_
  refine hm_top (z := nI ja) hra ?_
  refine lv_istore (lv' := [(5, .int (nI ja)), (0, .ref h), (1, .int (nI (vl 0))), (2, .int (nI t)), (3, .int n), (4, .int (nI (vl 4)))]) hx hb d_GrantServerModel_grant_5 hl (by decide) rfl (fun ls hl => ?_)
  refine lv_aload_n hx hb d_GrantServerModel_grant_7 rfl (lv_at hl 1 rfl) ?_
  refine lv_iconst (v := 2) hx hb d_GrantServerModel_grant_8 (by decide) ?_
  refine hm_calli hS hM hA (va_runV (As := [.int 2]) (rest := []) X (m_c_room l D k f h ad sk v c 2 hmo  H.size) (hm_cwV hts me_GrantServerModel_room wl_GrantServerModel_111 rfl rfl ⟨Nat.le_of_ble_eq_true rfl, Nat.le_of_ble_eq_true rfl⟩) (hm_preV hM hK hmo.1 rfl) rfl rfl hl.1 rfl (lv_room (Nat.le_of_ble_eq_true rfl)) d_GrantServerModel_grant_9 ⟨Nat.le_of_ble_eq_true rfl, Nat.le_of_ble_eq_true rfl⟩) (fun r6 f4 H locs p5 hM hS => ?_)
  obtain ⟨rfl, rfl⟩ := p5
  refine hm_top (z := m_roomF (c 10) 24 40) (by simp [m_toN, m_fromN]) ?_
  refine hm_top (z := nI jb) hrb ?_
  refine lv_istore (lv' := [(6, .int (nI jb)), (5, .int (nI ja)), (0, .ref h), (1, .int (nI (vl 0))), (2, .int (nI t)), (3, .int n), (4, .int (nI (vl 4)))]) hx hb d_GrantServerModel_grant_12 hl (by decide) rfl (fun ls hl => ?_)
  refine lv_aload_n hx hb d_GrantServerModel_grant_14 rfl (lv_at hl 2 rfl) ?_
  refine lv_iload hx hb d_GrantServerModel_grant_15 (lv_at hl 1 rfl) ?_
  refine lv_iload_n hx hb d_GrantServerModel_grant_17 rfl (lv_at hl 5 rfl) ?_
  refine lv_iload_n hx hb d_GrantServerModel_grant_18 rfl (lv_at hl 3 rfl) ?_
  refine lv_aload_n hx hb d_GrantServerModel_grant_19 rfl (lv_at hl 2 rfl) ?_
  refine hm_get X hK hM hmo.1 fl_GrantServerModel_48 (v := .ref (ad 19)) rfl d_GrantServerModel_grant_20 ?_
  refine lv_iload_n hx hb d_GrantServerModel_grant_23 rfl (lv_at hl 4 rfl) ?_
  have g7 : f (ad 19) = some (.inl (k 0, 520, .inl (c 19))) := hmo.arr 19 (by decide) (by decide)
  refine hm_iald X hK hM g7 0 rfl t rfl ht (by decide) d_GrantServerModel_grant_24 ?_
  refine lv_aload_n hx hb d_GrantServerModel_grant_25 rfl (lv_at hl 2 rfl) ?_
  refine hm_get X hK hM hmo.1 fl_GrantServerModel_104 (v := .int (v 4)) rfl d_GrantServerModel_grant_26 ?_
  refine lv_aload_n hx hb d_GrantServerModel_grant_29 rfl (lv_at hl 2 rfl) ?_
  refine hm_get X hK hM hmo.1 fl_GrantServerModel_83 (v := .int (v 3)) rfl d_GrantServerModel_grant_30 ?_
  refine lv_iadd hx hb d_GrantServerModel_grant_33 ?_
  refine lv_iload_n hx hb d_GrantServerModel_grant_34 rfl (lv_at hl 4 rfl) ?_
  refine hm_callv hS hM hA (va_runV (As := [.int (nI ja), .int n, .int (nI (vl 0)), .int ((c 19) t), .int ((v 4) + (v 3)), .int (nI t)]) (rest := []) X (m_c_put l D k f h ad sk v c ja n (nI (vl 0)) ((c 19) t) ((v 4) + (v 3)) (nI t) hmo hja H.size) (hm_cwV hts me_GrantServerModel_put wl_GrantServerModel_114 rfl rfl ⟨Nat.le_of_ble_eq_true rfl, Nat.le_of_ble_eq_true rfl⟩) (hm_preV hM hK hmo.1 rfl) rfl rfl hl.1 rfl (lv_room (Nat.le_of_ble_eq_true rfl)) d_GrantServerModel_grant_35 ⟨Nat.le_of_ble_eq_true rfl, Nat.le_of_ble_eq_true rfl⟩) (fun f8 H locs p9 hM hS => ?_)
  obtain ⟨hmo, hfr10⟩ := p9
  have hfr := hfr.tr hfr10
  have hmo : mo k f8 h ad sk v (va_up (va_up (va_up (va_up (va_up (va_up c 10 (upd (c 10) ja n)) 11 (upd (c 11) ja (nI (vl 0)))) 12 (upd (c 12) ja ((c 19) t))) 13 (upd (c 13) ja ((v 4) + (v 3)))) 14 (upd (c 14) ja 0)) 15 (upd (c 15) ja (nI t))) := hmo
  refine lv_aload_n hx hb d_GrantServerModel_grant_38 rfl (lv_at hl 2 rfl) ?_
  refine lv_dup hx hb d_GrantServerModel_grant_39 rfl ?_
  refine hm_get X hK hM hmo.1 fl_GrantServerModel_118 (v := .int (v 18)) rfl d_GrantServerModel_grant_40 ?_
  refine lv_iconst (v := 1) hx hb d_GrantServerModel_grant_43 (by decide) ?_
  refine lv_iadd hx hb d_GrantServerModel_grant_44 ?_
  refine hm_top (z := nI (vl 3)) hmd ?_
  refine hm_put X hK hM hS (fs' := moV sk (upd v 18 (nI (vl 3))) ad) hmo.1 fl_GrantServerModel_118 rfl rfl (Nat.le_of_ble_eq_true rfl) rfl d_GrantServerModel_grant_45 (fun f11 H locs e12 hM hS => ?_)
  have hfr := hfr.put e12; have hmo : mo k f11 h ad sk (upd v 18 (nI (vl 3))) (va_up (va_up (va_up (va_up (va_up (va_up c 10 (upd (c 10) ja n)) 11 (upd (c 11) ja (nI (vl 0)))) 12 (upd (c 12) ja ((c 19) t))) 13 (upd (c 13) ja ((v 4) + (v 3)))) 14 (upd (c 14) ja 0)) 15 (upd (c 15) ja (nI t))) := hmo.put e12
  refine lv_aload_n hx hb d_GrantServerModel_grant_48 rfl (lv_at hl 2 rfl) ?_
  refine lv_iload hx hb d_GrantServerModel_grant_49 (lv_at hl 0 rfl) ?_
  refine lv_aload_n hx hb d_GrantServerModel_grant_51 rfl (lv_at hl 2 rfl) ?_
  refine hm_get X hK hM hmo.1 fl_GrantServerModel_118 (v := .int (nI (vl 3))) rfl d_GrantServerModel_grant_52 ?_
  refine lv_iload_n hx hb d_GrantServerModel_grant_55 rfl (lv_at hl 3 rfl) ?_
  refine lv_iload hx hb d_GrantServerModel_grant_56 (lv_at hl 6 rfl) ?_
  refine lv_aload_n hx hb d_GrantServerModel_grant_58 rfl (lv_at hl 2 rfl) ?_
  refine hm_get X hK hM hmo.1 fl_GrantServerModel_104 (v := .int (v 4)) rfl d_GrantServerModel_grant_59 ?_
  refine lv_aload_n hx hb d_GrantServerModel_grant_62 rfl (lv_at hl 2 rfl) ?_
  refine hm_get X hK hM hmo.1 fl_GrantServerModel_80 (v := .int (v 2)) rfl d_GrantServerModel_grant_63 ?_
  refine lv_iadd hx hb d_GrantServerModel_grant_66 ?_
  refine lv_iload_n hx hb d_GrantServerModel_grant_67 rfl (lv_at hl 4 rfl) ?_
  refine hm_callv hS hM hA (va_runV (As := [.int (nI jb), .int (nI (vl 3)), .int (nI (vl 0)), .int (nI (vl 4)), .int ((v 4) + (v 2)), .int (nI t)]) (rest := []) X (m_c_put l D k f11 h ad sk (upd v 18 (nI (vl 3))) (va_up (va_up (va_up (va_up (va_up (va_up c 10 (upd (c 10) ja n)) 11 (upd (c 11) ja (nI (vl 0)))) 12 (upd (c 12) ja ((c 19) t))) 13 (upd (c 13) ja ((v 4) + (v 3)))) 14 (upd (c 14) ja 0)) 15 (upd (c 15) ja (nI t))) jb (nI (vl 3)) (nI (vl 0)) (nI (vl 4)) ((v 4) + (v 2)) (nI t) hmo hjb H.size) (hm_cwV hts me_GrantServerModel_put wl_GrantServerModel_114 rfl rfl ⟨Nat.le_of_ble_eq_true rfl, Nat.le_of_ble_eq_true rfl⟩) (hm_preV hM hK hmo.1 rfl) rfl rfl hl.1 rfl (lv_room (Nat.le_of_ble_eq_true rfl)) d_GrantServerModel_grant_68 ⟨Nat.le_of_ble_eq_true rfl, Nat.le_of_ble_eq_true rfl⟩) (fun f13 H locs p14 hM hS => ?_)
  obtain ⟨hmo, hfr15⟩ := p14
  have hfr := hfr.tr hfr15
  have hmo : mo k f13 h ad sk (upd v 18 (nI (vl 3))) (va_up (va_up (va_up (va_up (va_up (va_up (va_up (va_up (va_up (va_up (va_up (va_up c 10 (upd (c 10) ja n)) 11 (upd (c 11) ja (nI (vl 0)))) 12 (upd (c 12) ja ((c 19) t))) 13 (upd (c 13) ja ((v 4) + (v 3)))) 14 (upd (c 14) ja 0)) 15 (upd (c 15) ja (nI t))) 10 (upd (upd (c 10) ja n) jb (nI (vl 3)))) 11 (upd (upd (c 11) ja (nI (vl 0))) jb (nI (vl 0)))) 12 (upd (upd (c 12) ja ((c 19) t)) jb (nI (vl 4)))) 13 (upd (upd (c 13) ja ((v 4) + (v 3))) jb ((v 4) + (v 2)))) 14 (upd (upd (c 14) ja 0) jb 0)) 15 (upd (upd (c 15) ja (nI t)) jb (nI t))) := hmo
  refine lv_aload_n hx hb d_GrantServerModel_grant_71 rfl (lv_at hl 2 rfl) ?_
  refine lv_iconst (v := 0) hx hb d_GrantServerModel_grant_72 (by decide) ?_
  refine hm_put X hK hM hS (fs' := moV sk (upd (upd v 18 (nI (vl 3))) 28 0) ad) hmo.1 fl_GrantServerModel_121 rfl rfl (Nat.le_of_ble_eq_true rfl) rfl d_GrantServerModel_grant_73 (fun f16 H locs e17 hM hS => ?_)
  have hfr := hfr.put e17; have hmo : mo k f16 h ad sk (upd (upd v 18 (nI (vl 3))) 28 0) (va_up (va_up (va_up (va_up (va_up (va_up (va_up (va_up (va_up (va_up (va_up (va_up c 10 (upd (c 10) ja n)) 11 (upd (c 11) ja (nI (vl 0)))) 12 (upd (c 12) ja ((c 19) t))) 13 (upd (c 13) ja ((v 4) + (v 3)))) 14 (upd (c 14) ja 0)) 15 (upd (c 15) ja (nI t))) 10 (upd (upd (c 10) ja n) jb (nI (vl 3)))) 11 (upd (upd (c 11) ja (nI (vl 0))) jb (nI (vl 0)))) 12 (upd (upd (c 12) ja ((c 19) t)) jb (nI (vl 4)))) 13 (upd (upd (c 13) ja ((v 4) + (v 3))) jb ((v 4) + (v 2)))) 14 (upd (upd (c 14) ja 0) jb 0)) 15 (upd (upd (c 15) ja (nI t)) jb (nI t))) := hmo.put e17
  refine lv_aload_n hx hb d_GrantServerModel_grant_76 rfl (lv_at hl 2 rfl) ?_
  refine lv_bipush (v := 123) hx hb d_GrantServerModel_grant_77 (by decide) ?_
  refine lv_iconst (v := 0) hx hb d_GrantServerModel_grant_79 (by decide) ?_
  refine hm_callv hS hM hA (va_runV (As := [.int 123, .int 0]) (rest := []) X (m_c_say l D k f16 h ad sk (upd (upd v 18 (nI (vl 3))) 28 0) (va_up (va_up (va_up (va_up (va_up (va_up (va_up (va_up (va_up (va_up (va_up (va_up c 10 (upd (c 10) ja n)) 11 (upd (c 11) ja (nI (vl 0)))) 12 (upd (c 12) ja ((c 19) t))) 13 (upd (c 13) ja ((v 4) + (v 3)))) 14 (upd (c 14) ja 0)) 15 (upd (c 15) ja (nI t))) 10 (upd (upd (c 10) ja n) jb (nI (vl 3)))) 11 (upd (upd (c 11) ja (nI (vl 0))) jb (nI (vl 0)))) 12 (upd (upd (c 12) ja ((c 19) t)) jb (nI (vl 4)))) 13 (upd (upd (c 13) ja ((v 4) + (v 3))) jb ((v 4) + (v 2)))) 14 (upd (upd (c 14) ja 0) jb 0)) 15 (upd (upd (c 15) ja (nI t)) jb (nI t))) 123 0 0 hmo rfl (by decide) H.size) (hm_cwV hts me_GrantServerModel_say wl_GrantServerModel_124 rfl rfl ⟨Nat.le_of_ble_eq_true rfl, Nat.le_of_ble_eq_true rfl⟩) (hm_preV hM hK hmo.1 rfl) rfl rfl hl.1 rfl (lv_room (Nat.le_of_ble_eq_true rfl)) d_GrantServerModel_grant_80 ⟨Nat.le_of_ble_eq_true rfl, Nat.le_of_ble_eq_true rfl⟩) (fun f18 H locs p19 hM hS => ?_)
  obtain ⟨hmo, hfr20⟩ := p19
  have hfr := hfr.tr hfr20
  have hmo : mo k f18 h ad sk (upd (upd (upd v 18 (nI (vl 3))) 28 0) 28 (nI (0 + 1))) (va_up (va_up (va_up (va_up (va_up (va_up (va_up (va_up (va_up (va_up (va_up (va_up (va_up c 10 (upd (c 10) ja n)) 11 (upd (c 11) ja (nI (vl 0)))) 12 (upd (c 12) ja ((c 19) t))) 13 (upd (c 13) ja ((v 4) + (v 3)))) 14 (upd (c 14) ja 0)) 15 (upd (c 15) ja (nI t))) 10 (upd (upd (c 10) ja n) jb (nI (vl 3)))) 11 (upd (upd (c 11) ja (nI (vl 0))) jb (nI (vl 0)))) 12 (upd (upd (c 12) ja ((c 19) t)) jb (nI (vl 4)))) 13 (upd (upd (c 13) ja ((v 4) + (v 3))) jb ((v 4) + (v 2)))) 14 (upd (upd (c 14) ja 0) jb 0)) 15 (upd (upd (c 15) ja (nI t)) jb (nI t))) 27 (upd (c 27) 0 (123 + 0))) := hmo
  refine lv_aload_n hx hb d_GrantServerModel_grant_83 rfl (lv_at hl 2 rfl) ?_
  refine lv_iconst (v := 0) hx hb d_GrantServerModel_grant_84 (by decide) ?_
  refine lv_iload_n hx hb d_GrantServerModel_grant_85 rfl (lv_at hl 3 rfl) ?_
  refine hm_callv hS hM hA (va_runV (As := [.int 0, .int (nI (vl 0))]) (rest := []) X (m_c_member0 l D k f18 h ad sk (upd (upd (upd v 18 (nI (vl 3))) 28 0) 28 (nI (0 + 1))) (va_up (va_up (va_up (va_up (va_up (va_up (va_up (va_up (va_up (va_up (va_up (va_up (va_up c 10 (upd (c 10) ja n)) 11 (upd (c 11) ja (nI (vl 0)))) 12 (upd (c 12) ja ((c 19) t))) 13 (upd (c 13) ja ((v 4) + (v 3)))) 14 (upd (c 14) ja 0)) 15 (upd (c 15) ja (nI t))) 10 (upd (upd (c 10) ja n) jb (nI (vl 3)))) 11 (upd (upd (c 11) ja (nI (vl 0))) jb (nI (vl 0)))) 12 (upd (upd (c 12) ja ((c 19) t)) jb (nI (vl 4)))) 13 (upd (upd (c 13) ja ((v 4) + (v 3))) jb ((v 4) + (v 2)))) 14 (upd (upd (c 14) ja 0) jb 0)) 15 (upd (upd (c 15) ja (nI t)) jb (nI t))) 27 (upd (c 27) 0 (123 + 0))) 1 (upd (c 27) 0 (123 + 0)) (vl 0) (K 0) hmo rfl rfl (hKd 0 (by decide)) (hvl 0 (by decide)) (by omega) H.size) (hm_cwV hts me_GrantServerModel_member wl_GrantServerModel_128 rfl rfl ⟨Nat.le_of_ble_eq_true rfl, Nat.le_of_ble_eq_true rfl⟩) (hm_preV hM hK hmo.1 rfl) rfl rfl hl.1 rfl (lv_room (Nat.le_of_ble_eq_true rfl)) d_GrantServerModel_grant_86 ⟨Nat.le_of_ble_eq_true rfl, Nat.le_of_ble_eq_true rfl⟩) (fun f21 H locs p22 hM hS => ?_)
  obtain ⟨x23, h24, h25, h26, hmo, hfr27⟩ := p22
  have hfr := hfr.tr hfr27
  have hmo : mo k f21 h ad sk (upd (upd (upd (upd v 18 (nI (vl 3))) 28 0) 28 (nI (0 + 1))) 28 (nI (1 + (m_nl 0 + 3) + ((K 0) + 1)))) (va_up (va_up (va_up (va_up (va_up (va_up (va_up (va_up (va_up (va_up (va_up (va_up (va_up (va_up c 10 (upd (c 10) ja n)) 11 (upd (c 11) ja (nI (vl 0)))) 12 (upd (c 12) ja ((c 19) t))) 13 (upd (c 13) ja ((v 4) + (v 3)))) 14 (upd (c 14) ja 0)) 15 (upd (c 15) ja (nI t))) 10 (upd (upd (c 10) ja n) jb (nI (vl 3)))) 11 (upd (upd (c 11) ja (nI (vl 0))) jb (nI (vl 0)))) 12 (upd (upd (c 12) ja ((c 19) t)) jb (nI (vl 4)))) 13 (upd (upd (c 13) ja ((v 4) + (v 3))) jb ((v 4) + (v 2)))) 14 (upd (upd (c 14) ja 0) jb 0)) 15 (upd (upd (c 15) ja (nI t)) jb (nI t))) 27 (upd (c 27) 0 (123 + 0))) 27 x23) := hmo
  refine lv_aload_n hx hb d_GrantServerModel_grant_89 rfl (lv_at hl 2 rfl) ?_
  refine lv_iconst (v := 1) hx hb d_GrantServerModel_grant_90 (by decide) ?_
  refine lv_aload_n hx hb d_GrantServerModel_grant_91 rfl (lv_at hl 2 rfl) ?_
  refine hm_get X hK hM hmo.1 fl_GrantServerModel_51 (v := .ref (ad 20)) rfl d_GrantServerModel_grant_92 ?_
  refine lv_iload_n hx hb d_GrantServerModel_grant_95 rfl (lv_at hl 4 rfl) ?_
  have g28 : f21 (ad 20) = some (.inl (k 0, 520, .inl (c 20))) := hmo.arr 20 (by decide) (by decide)
  refine hm_iald X hK hM g28 0 rfl t rfl ht (by decide) d_GrantServerModel_grant_96 ?_
  refine hm_top (z := nI (vl 1)) hau ?_
  refine hm_callv hS hM hA (va_runV (As := [.int 1, .int (nI (vl 1))]) (rest := []) X (m_c_member l D k f21 h ad sk (upd (upd (upd (upd v 18 (nI (vl 3))) 28 0) 28 (nI (0 + 1))) 28 (nI (1 + (m_nl 0 + 3) + ((K 0) + 1)))) (va_up (va_up (va_up (va_up (va_up (va_up (va_up (va_up (va_up (va_up (va_up (va_up (va_up (va_up c 10 (upd (c 10) ja n)) 11 (upd (c 11) ja (nI (vl 0)))) 12 (upd (c 12) ja ((c 19) t))) 13 (upd (c 13) ja ((v 4) + (v 3)))) 14 (upd (c 14) ja 0)) 15 (upd (c 15) ja (nI t))) 10 (upd (upd (c 10) ja n) jb (nI (vl 3)))) 11 (upd (upd (c 11) ja (nI (vl 0))) jb (nI (vl 0)))) 12 (upd (upd (c 12) ja ((c 19) t)) jb (nI (vl 4)))) 13 (upd (upd (c 13) ja ((v 4) + (v 3))) jb ((v 4) + (v 2)))) 14 (upd (upd (c 14) ja 0) jb 0)) 15 (upd (upd (c 15) ja (nI t)) jb (nI t))) 27 (upd (c 27) 0 (123 + 0))) 27 x23) (1 + (m_nl 0 + 3) + (K 0 + 1)) x23 1 (vl 1) (K 1) hmo rfl rfl (by decide) (by decide) (hKd 1 (by decide)) (hvl 1 (by decide)) (by omega) H.size) (hm_cwV hts me_GrantServerModel_member wl_GrantServerModel_128 rfl rfl ⟨Nat.le_of_ble_eq_true rfl, Nat.le_of_ble_eq_true rfl⟩) (hm_preV hM hK hmo.1 rfl) rfl rfl hl.1 rfl (lv_room (Nat.le_of_ble_eq_true rfl)) d_GrantServerModel_grant_97 ⟨Nat.le_of_ble_eq_true rfl, Nat.le_of_ble_eq_true rfl⟩) (fun f29 H locs p30 hM hS => ?_)
  obtain ⟨x31, h32, h33, h34, hmo, hfr35⟩ := p30
  have hfr := hfr.tr hfr35
  have hmo : mo k f29 h ad sk (upd (upd (upd (upd (upd v 18 (nI (vl 3))) 28 0) 28 (nI (0 + 1))) 28 (nI (1 + (m_nl 0 + 3) + ((K 0) + 1)))) 28 (nI ((1 + (m_nl 0 + 3) + (K 0 + 1)) + (m_nl 1 + 4) + ((K 1) + 1)))) (va_up (va_up (va_up (va_up (va_up (va_up (va_up (va_up (va_up (va_up (va_up (va_up (va_up (va_up (va_up c 10 (upd (c 10) ja n)) 11 (upd (c 11) ja (nI (vl 0)))) 12 (upd (c 12) ja ((c 19) t))) 13 (upd (c 13) ja ((v 4) + (v 3)))) 14 (upd (c 14) ja 0)) 15 (upd (c 15) ja (nI t))) 10 (upd (upd (c 10) ja n) jb (nI (vl 3)))) 11 (upd (upd (c 11) ja (nI (vl 0))) jb (nI (vl 0)))) 12 (upd (upd (c 12) ja ((c 19) t)) jb (nI (vl 4)))) 13 (upd (upd (c 13) ja ((v 4) + (v 3))) jb ((v 4) + (v 2)))) 14 (upd (upd (c 14) ja 0) jb 0)) 15 (upd (upd (c 15) ja (nI t)) jb (nI t))) 27 (upd (c 27) 0 (123 + 0))) 27 x23) 27 x31) := hmo
  refine lv_aload_n hx hb d_GrantServerModel_grant_100 rfl (lv_at hl 2 rfl) ?_
  refine lv_iconst (v := 2) hx hb d_GrantServerModel_grant_101 (by decide) ?_
  refine lv_aload_n hx hb d_GrantServerModel_grant_102 rfl (lv_at hl 2 rfl) ?_
  refine hm_get X hK hM hmo.1 fl_GrantServerModel_32 (v := .ref (ad 13)) rfl d_GrantServerModel_grant_103 ?_
  refine lv_iload hx hb d_GrantServerModel_grant_106 (lv_at hl 0 rfl) ?_
  have g36 : f29 (ad 13) = some (.inl (k 0, 64, .inl (upd (upd (c 13) ja ((v 4) + (v 3))) jb ((v 4) + (v 2))))) := hmo.arr 13 (by decide) (by decide)
  refine hm_iald X hK hM g36 0 rfl jb rfl hjb (by decide) d_GrantServerModel_grant_108 ?_
  refine hm_top (z := nI (vl 2)) (pk_us.trans hen) ?_
  refine hm_callv hS hM hA (va_runV (As := [.int 2, .int (nI (vl 2))]) (rest := []) X (m_c_member l D k f29 h ad sk (upd (upd (upd (upd (upd v 18 (nI (vl 3))) 28 0) 28 (nI (0 + 1))) 28 (nI (1 + (m_nl 0 + 3) + ((K 0) + 1)))) 28 (nI ((1 + (m_nl 0 + 3) + (K 0 + 1)) + (m_nl 1 + 4) + ((K 1) + 1)))) (va_up (va_up (va_up (va_up (va_up (va_up (va_up (va_up (va_up (va_up (va_up (va_up (va_up (va_up (va_up c 10 (upd (c 10) ja n)) 11 (upd (c 11) ja (nI (vl 0)))) 12 (upd (c 12) ja ((c 19) t))) 13 (upd (c 13) ja ((v 4) + (v 3)))) 14 (upd (c 14) ja 0)) 15 (upd (c 15) ja (nI t))) 10 (upd (upd (c 10) ja n) jb (nI (vl 3)))) 11 (upd (upd (c 11) ja (nI (vl 0))) jb (nI (vl 0)))) 12 (upd (upd (c 12) ja ((c 19) t)) jb (nI (vl 4)))) 13 (upd (upd (c 13) ja ((v 4) + (v 3))) jb ((v 4) + (v 2)))) 14 (upd (upd (c 14) ja 0) jb 0)) 15 (upd (upd (c 15) ja (nI t)) jb (nI t))) 27 (upd (c 27) 0 (123 + 0))) 27 x23) 27 x31) (1 + (m_nl 0 + 3) + (K 0 + 1) + (m_nl 1 + 4) + (K 1 + 1)) x31 2 (vl 2) (K 2) hmo rfl rfl (by decide) (by decide) (hKd 2 (by decide)) (hvl 2 (by decide)) (by omega) H.size) (hm_cwV hts me_GrantServerModel_member wl_GrantServerModel_128 rfl rfl ⟨Nat.le_of_ble_eq_true rfl, Nat.le_of_ble_eq_true rfl⟩) (hm_preV hM hK hmo.1 rfl) rfl rfl hl.1 rfl (lv_room (Nat.le_of_ble_eq_true rfl)) d_GrantServerModel_grant_109 ⟨Nat.le_of_ble_eq_true rfl, Nat.le_of_ble_eq_true rfl⟩) (fun f37 H locs p38 hM hS => ?_)
  obtain ⟨x39, h40, h41, h42, hmo, hfr43⟩ := p38
  have hfr := hfr.tr hfr43
  have hmo : mo k f37 h ad sk (upd (upd (upd (upd (upd (upd v 18 (nI (vl 3))) 28 0) 28 (nI (0 + 1))) 28 (nI (1 + (m_nl 0 + 3) + ((K 0) + 1)))) 28 (nI ((1 + (m_nl 0 + 3) + (K 0 + 1)) + (m_nl 1 + 4) + ((K 1) + 1)))) 28 (nI ((1 + (m_nl 0 + 3) + (K 0 + 1) + (m_nl 1 + 4) + (K 1 + 1)) + (m_nl 2 + 4) + ((K 2) + 1)))) (va_up (va_up (va_up (va_up (va_up (va_up (va_up (va_up (va_up (va_up (va_up (va_up (va_up (va_up (va_up (va_up c 10 (upd (c 10) ja n)) 11 (upd (c 11) ja (nI (vl 0)))) 12 (upd (c 12) ja ((c 19) t))) 13 (upd (c 13) ja ((v 4) + (v 3)))) 14 (upd (c 14) ja 0)) 15 (upd (c 15) ja (nI t))) 10 (upd (upd (c 10) ja n) jb (nI (vl 3)))) 11 (upd (upd (c 11) ja (nI (vl 0))) jb (nI (vl 0)))) 12 (upd (upd (c 12) ja ((c 19) t)) jb (nI (vl 4)))) 13 (upd (upd (c 13) ja ((v 4) + (v 3))) jb ((v 4) + (v 2)))) 14 (upd (upd (c 14) ja 0) jb 0)) 15 (upd (upd (c 15) ja (nI t)) jb (nI t))) 27 (upd (c 27) 0 (123 + 0))) 27 x23) 27 x31) 27 x39) := hmo
  refine lv_aload_n hx hb d_GrantServerModel_grant_112 rfl (lv_at hl 2 rfl) ?_
  refine lv_iconst (v := 3) hx hb d_GrantServerModel_grant_113 (by decide) ?_
  refine lv_aload_n hx hb d_GrantServerModel_grant_114 rfl (lv_at hl 2 rfl) ?_
  refine hm_get X hK hM hmo.1 fl_GrantServerModel_118 (v := .int (nI (vl 3))) rfl d_GrantServerModel_grant_115 ?_
  refine hm_callv hS hM hA (va_runV (As := [.int 3, .int (nI (vl 3))]) (rest := []) X (m_c_member l D k f37 h ad sk (upd (upd (upd (upd (upd (upd v 18 (nI (vl 3))) 28 0) 28 (nI (0 + 1))) 28 (nI (1 + (m_nl 0 + 3) + ((K 0) + 1)))) 28 (nI ((1 + (m_nl 0 + 3) + (K 0 + 1)) + (m_nl 1 + 4) + ((K 1) + 1)))) 28 (nI ((1 + (m_nl 0 + 3) + (K 0 + 1) + (m_nl 1 + 4) + (K 1 + 1)) + (m_nl 2 + 4) + ((K 2) + 1)))) (va_up (va_up (va_up (va_up (va_up (va_up (va_up (va_up (va_up (va_up (va_up (va_up (va_up (va_up (va_up (va_up c 10 (upd (c 10) ja n)) 11 (upd (c 11) ja (nI (vl 0)))) 12 (upd (c 12) ja ((c 19) t))) 13 (upd (c 13) ja ((v 4) + (v 3)))) 14 (upd (c 14) ja 0)) 15 (upd (c 15) ja (nI t))) 10 (upd (upd (c 10) ja n) jb (nI (vl 3)))) 11 (upd (upd (c 11) ja (nI (vl 0))) jb (nI (vl 0)))) 12 (upd (upd (c 12) ja ((c 19) t)) jb (nI (vl 4)))) 13 (upd (upd (c 13) ja ((v 4) + (v 3))) jb ((v 4) + (v 2)))) 14 (upd (upd (c 14) ja 0) jb 0)) 15 (upd (upd (c 15) ja (nI t)) jb (nI t))) 27 (upd (c 27) 0 (123 + 0))) 27 x23) 27 x31) 27 x39) (1 + (m_nl 0 + 3) + (K 0 + 1) + (m_nl 1 + 4) + (K 1 + 1) + (m_nl 2 + 4) + (K 2 + 1)) x39 3 (vl 3) (K 3) hmo rfl rfl (by decide) (by decide) (hKd 3 (by decide)) (hvl 3 (by decide)) (by omega) H.size) (hm_cwV hts me_GrantServerModel_member wl_GrantServerModel_128 rfl rfl ⟨Nat.le_of_ble_eq_true rfl, Nat.le_of_ble_eq_true rfl⟩) (hm_preV hM hK hmo.1 rfl) rfl rfl hl.1 rfl (lv_room (Nat.le_of_ble_eq_true rfl)) d_GrantServerModel_grant_118 ⟨Nat.le_of_ble_eq_true rfl, Nat.le_of_ble_eq_true rfl⟩) (fun f44 H locs p45 hM hS => ?_)
  obtain ⟨x46, h47, h48, h49, hmo, hfr50⟩ := p45
  have hfr := hfr.tr hfr50
  have hmo : mo k f44 h ad sk (upd (upd (upd (upd (upd (upd (upd v 18 (nI (vl 3))) 28 0) 28 (nI (0 + 1))) 28 (nI (1 + (m_nl 0 + 3) + ((K 0) + 1)))) 28 (nI ((1 + (m_nl 0 + 3) + (K 0 + 1)) + (m_nl 1 + 4) + ((K 1) + 1)))) 28 (nI ((1 + (m_nl 0 + 3) + (K 0 + 1) + (m_nl 1 + 4) + (K 1 + 1)) + (m_nl 2 + 4) + ((K 2) + 1)))) 28 (nI ((1 + (m_nl 0 + 3) + (K 0 + 1) + (m_nl 1 + 4) + (K 1 + 1) + (m_nl 2 + 4) + (K 2 + 1)) + (m_nl 3 + 4) + ((K 3) + 1)))) (va_up (va_up (va_up (va_up (va_up (va_up (va_up (va_up (va_up (va_up (va_up (va_up (va_up (va_up (va_up (va_up (va_up c 10 (upd (c 10) ja n)) 11 (upd (c 11) ja (nI (vl 0)))) 12 (upd (c 12) ja ((c 19) t))) 13 (upd (c 13) ja ((v 4) + (v 3)))) 14 (upd (c 14) ja 0)) 15 (upd (c 15) ja (nI t))) 10 (upd (upd (c 10) ja n) jb (nI (vl 3)))) 11 (upd (upd (c 11) ja (nI (vl 0))) jb (nI (vl 0)))) 12 (upd (upd (c 12) ja ((c 19) t)) jb (nI (vl 4)))) 13 (upd (upd (c 13) ja ((v 4) + (v 3))) jb ((v 4) + (v 2)))) 14 (upd (upd (c 14) ja 0) jb 0)) 15 (upd (upd (c 15) ja (nI t)) jb (nI t))) 27 (upd (c 27) 0 (123 + 0))) 27 x23) 27 x31) 27 x39) 27 x46) := hmo
  refine lv_aload_n hx hb d_GrantServerModel_grant_121 rfl (lv_at hl 2 rfl) ?_
  refine lv_iconst (v := 4) hx hb d_GrantServerModel_grant_122 (by decide) ?_
  refine lv_iload hx hb d_GrantServerModel_grant_123 (lv_at hl 6 rfl) ?_
  refine hm_callv hS hM hA (va_runV (As := [.int 4, .int (nI (vl 4))]) (rest := []) X (m_c_member l D k f44 h ad sk (upd (upd (upd (upd (upd (upd (upd v 18 (nI (vl 3))) 28 0) 28 (nI (0 + 1))) 28 (nI (1 + (m_nl 0 + 3) + ((K 0) + 1)))) 28 (nI ((1 + (m_nl 0 + 3) + (K 0 + 1)) + (m_nl 1 + 4) + ((K 1) + 1)))) 28 (nI ((1 + (m_nl 0 + 3) + (K 0 + 1) + (m_nl 1 + 4) + (K 1 + 1)) + (m_nl 2 + 4) + ((K 2) + 1)))) 28 (nI ((1 + (m_nl 0 + 3) + (K 0 + 1) + (m_nl 1 + 4) + (K 1 + 1) + (m_nl 2 + 4) + (K 2 + 1)) + (m_nl 3 + 4) + ((K 3) + 1)))) (va_up (va_up (va_up (va_up (va_up (va_up (va_up (va_up (va_up (va_up (va_up (va_up (va_up (va_up (va_up (va_up (va_up c 10 (upd (c 10) ja n)) 11 (upd (c 11) ja (nI (vl 0)))) 12 (upd (c 12) ja ((c 19) t))) 13 (upd (c 13) ja ((v 4) + (v 3)))) 14 (upd (c 14) ja 0)) 15 (upd (c 15) ja (nI t))) 10 (upd (upd (c 10) ja n) jb (nI (vl 3)))) 11 (upd (upd (c 11) ja (nI (vl 0))) jb (nI (vl 0)))) 12 (upd (upd (c 12) ja ((c 19) t)) jb (nI (vl 4)))) 13 (upd (upd (c 13) ja ((v 4) + (v 3))) jb ((v 4) + (v 2)))) 14 (upd (upd (c 14) ja 0) jb 0)) 15 (upd (upd (c 15) ja (nI t)) jb (nI t))) 27 (upd (c 27) 0 (123 + 0))) 27 x23) 27 x31) 27 x39) 27 x46) (1 + (m_nl 0 + 3) + (K 0 + 1) + (m_nl 1 + 4) + (K 1 + 1) + (m_nl 2 + 4) + (K 2 + 1) + (m_nl 3 + 4) + (K 3 + 1)) x46 4 (vl 4) (K 4) hmo rfl rfl (by decide) (by decide) (hKd 4 (by decide)) (hvl 4 (by decide)) (by omega) H.size) (hm_cwV hts me_GrantServerModel_member wl_GrantServerModel_128 rfl rfl ⟨Nat.le_of_ble_eq_true rfl, Nat.le_of_ble_eq_true rfl⟩) (hm_preV hM hK hmo.1 rfl) rfl rfl hl.1 rfl (lv_room (Nat.le_of_ble_eq_true rfl)) d_GrantServerModel_grant_125 ⟨Nat.le_of_ble_eq_true rfl, Nat.le_of_ble_eq_true rfl⟩) (fun f51 H locs p52 hM hS => ?_)
  obtain ⟨x53, h54, h55, h56, hmo, hfr57⟩ := p52
  have hfr := hfr.tr hfr57
  have hmo : mo k f51 h ad sk (upd (upd (upd (upd (upd (upd (upd (upd v 18 (nI (vl 3))) 28 0) 28 (nI (0 + 1))) 28 (nI (1 + (m_nl 0 + 3) + ((K 0) + 1)))) 28 (nI ((1 + (m_nl 0 + 3) + (K 0 + 1)) + (m_nl 1 + 4) + ((K 1) + 1)))) 28 (nI ((1 + (m_nl 0 + 3) + (K 0 + 1) + (m_nl 1 + 4) + (K 1 + 1)) + (m_nl 2 + 4) + ((K 2) + 1)))) 28 (nI ((1 + (m_nl 0 + 3) + (K 0 + 1) + (m_nl 1 + 4) + (K 1 + 1) + (m_nl 2 + 4) + (K 2 + 1)) + (m_nl 3 + 4) + ((K 3) + 1)))) 28 (nI ((1 + (m_nl 0 + 3) + (K 0 + 1) + (m_nl 1 + 4) + (K 1 + 1) + (m_nl 2 + 4) + (K 2 + 1) + (m_nl 3 + 4) + (K 3 + 1)) + (m_nl 4 + 4) + ((K 4) + 1)))) (va_up (va_up (va_up (va_up (va_up (va_up (va_up (va_up (va_up (va_up (va_up (va_up (va_up (va_up (va_up (va_up (va_up (va_up c 10 (upd (c 10) ja n)) 11 (upd (c 11) ja (nI (vl 0)))) 12 (upd (c 12) ja ((c 19) t))) 13 (upd (c 13) ja ((v 4) + (v 3)))) 14 (upd (c 14) ja 0)) 15 (upd (c 15) ja (nI t))) 10 (upd (upd (c 10) ja n) jb (nI (vl 3)))) 11 (upd (upd (c 11) ja (nI (vl 0))) jb (nI (vl 0)))) 12 (upd (upd (c 12) ja ((c 19) t)) jb (nI (vl 4)))) 13 (upd (upd (c 13) ja ((v 4) + (v 3))) jb ((v 4) + (v 2)))) 14 (upd (upd (c 14) ja 0) jb 0)) 15 (upd (upd (c 15) ja (nI t)) jb (nI t))) 27 (upd (c 27) 0 (123 + 0))) 27 x23) 27 x31) 27 x39) 27 x46) 27 x53) := hmo
  refine lv_aload_n hx hb d_GrantServerModel_grant_128 rfl (lv_at hl 2 rfl) ?_
  refine lv_bipush (v := 125) hx hb d_GrantServerModel_grant_129 (by decide) ?_
  refine lv_iconst (v := 0) hx hb d_GrantServerModel_grant_131 (by decide) ?_
  refine hm_callv hS hM hA (va_runV (As := [.int 125, .int 0]) (rest := []) X (m_c_say l D k f51 h ad sk (upd (upd (upd (upd (upd (upd (upd (upd v 18 (nI (vl 3))) 28 0) 28 (nI (0 + 1))) 28 (nI (1 + (m_nl 0 + 3) + ((K 0) + 1)))) 28 (nI ((1 + (m_nl 0 + 3) + (K 0 + 1)) + (m_nl 1 + 4) + ((K 1) + 1)))) 28 (nI ((1 + (m_nl 0 + 3) + (K 0 + 1) + (m_nl 1 + 4) + (K 1 + 1)) + (m_nl 2 + 4) + ((K 2) + 1)))) 28 (nI ((1 + (m_nl 0 + 3) + (K 0 + 1) + (m_nl 1 + 4) + (K 1 + 1) + (m_nl 2 + 4) + (K 2 + 1)) + (m_nl 3 + 4) + ((K 3) + 1)))) 28 (nI ((1 + (m_nl 0 + 3) + (K 0 + 1) + (m_nl 1 + 4) + (K 1 + 1) + (m_nl 2 + 4) + (K 2 + 1) + (m_nl 3 + 4) + (K 3 + 1)) + (m_nl 4 + 4) + ((K 4) + 1)))) (va_up (va_up (va_up (va_up (va_up (va_up (va_up (va_up (va_up (va_up (va_up (va_up (va_up (va_up (va_up (va_up (va_up (va_up c 10 (upd (c 10) ja n)) 11 (upd (c 11) ja (nI (vl 0)))) 12 (upd (c 12) ja ((c 19) t))) 13 (upd (c 13) ja ((v 4) + (v 3)))) 14 (upd (c 14) ja 0)) 15 (upd (c 15) ja (nI t))) 10 (upd (upd (c 10) ja n) jb (nI (vl 3)))) 11 (upd (upd (c 11) ja (nI (vl 0))) jb (nI (vl 0)))) 12 (upd (upd (c 12) ja ((c 19) t)) jb (nI (vl 4)))) 13 (upd (upd (c 13) ja ((v 4) + (v 3))) jb ((v 4) + (v 2)))) 14 (upd (upd (c 14) ja 0) jb 0)) 15 (upd (upd (c 15) ja (nI t)) jb (nI t))) 27 (upd (c 27) 0 (123 + 0))) 27 x23) 27 x31) 27 x39) 27 x46) 27 x53) 125 0 (1 + (m_nl 0 + 3) + (K 0 + 1) + (m_nl 1 + 4) + (K 1 + 1) + (m_nl 2 + 4) + (K 2 + 1) + (m_nl 3 + 4) + (K 3 + 1) + (m_nl 4 + 4) + (K 4 + 1)) hmo rfl (by omega) H.size) (hm_cwV hts me_GrantServerModel_say wl_GrantServerModel_124 rfl rfl ⟨Nat.le_of_ble_eq_true rfl, Nat.le_of_ble_eq_true rfl⟩) (hm_preV hM hK hmo.1 rfl) rfl rfl hl.1 rfl (lv_room (Nat.le_of_ble_eq_true rfl)) d_GrantServerModel_grant_132 ⟨Nat.le_of_ble_eq_true rfl, Nat.le_of_ble_eq_true rfl⟩) (fun f58 H locs p59 hM hS => ?_)
  obtain ⟨hmo, hfr60⟩ := p59
  have hfr := hfr.tr hfr60
  have hmo : mo k f58 h ad sk (upd (upd (upd (upd (upd (upd (upd (upd (upd v 18 (nI (vl 3))) 28 0) 28 (nI (0 + 1))) 28 (nI (1 + (m_nl 0 + 3) + ((K 0) + 1)))) 28 (nI ((1 + (m_nl 0 + 3) + (K 0 + 1)) + (m_nl 1 + 4) + ((K 1) + 1)))) 28 (nI ((1 + (m_nl 0 + 3) + (K 0 + 1) + (m_nl 1 + 4) + (K 1 + 1)) + (m_nl 2 + 4) + ((K 2) + 1)))) 28 (nI ((1 + (m_nl 0 + 3) + (K 0 + 1) + (m_nl 1 + 4) + (K 1 + 1) + (m_nl 2 + 4) + (K 2 + 1)) + (m_nl 3 + 4) + ((K 3) + 1)))) 28 (nI ((1 + (m_nl 0 + 3) + (K 0 + 1) + (m_nl 1 + 4) + (K 1 + 1) + (m_nl 2 + 4) + (K 2 + 1) + (m_nl 3 + 4) + (K 3 + 1)) + (m_nl 4 + 4) + ((K 4) + 1)))) 28 (nI (1 + (m_nl 0 + 3) + (K 0 + 1) + (m_nl 1 + 4) + (K 1 + 1) + (m_nl 2 + 4) + (K 2 + 1) + (m_nl 3 + 4) + (K 3 + 1) + (m_nl 4 + 4) + (K 4 + 1) + 1))) (va_up (va_up (va_up (va_up (va_up (va_up (va_up (va_up (va_up (va_up (va_up (va_up (va_up (va_up (va_up (va_up (va_up (va_up (va_up c 10 (upd (c 10) ja n)) 11 (upd (c 11) ja (nI (vl 0)))) 12 (upd (c 12) ja ((c 19) t))) 13 (upd (c 13) ja ((v 4) + (v 3)))) 14 (upd (c 14) ja 0)) 15 (upd (c 15) ja (nI t))) 10 (upd (upd (c 10) ja n) jb (nI (vl 3)))) 11 (upd (upd (c 11) ja (nI (vl 0))) jb (nI (vl 0)))) 12 (upd (upd (c 12) ja ((c 19) t)) jb (nI (vl 4)))) 13 (upd (upd (c 13) ja ((v 4) + (v 3))) jb ((v 4) + (v 2)))) 14 (upd (upd (c 14) ja 0) jb 0)) 15 (upd (upd (c 15) ja (nI t)) jb (nI t))) 27 (upd (c 27) 0 (123 + 0))) 27 x23) 27 x31) 27 x39) 27 x46) 27 x53) 27 (upd x53 (1 + (m_nl 0 + 3) + (K 0 + 1) + (m_nl 1 + 4) + (K 1 + 1) + (m_nl 2 + 4) + (K 2 + 1) + (m_nl 3 + 4) + (K 3 + 1) + (m_nl 4 + 4) + (K 4 + 1)) (125 + 0))) := hmo
  have p0 : z_pre (upd (c 27) 0 (123 + 0)) 1 (z_ct vl K) := fun e he => by have z : e = 0 := (by omega); subst z; exact (show upd (c 27) 0 (123 + 0) 0 = nI (st_chr 0 0) from by simp [upd]; decide).trans (congrArg nI (z_ct_0 vl K 0 (by decide)).symm)
  have p1 : z_pre x23 (1 + (m_nl 0 + 3) + (K 0 + 1)) (z_ct vl K) := z_pre_2 p0 h24 h25 (fun e he => by have z := z_ct_0 vl K (1 + e) (by omega); rwa [Nat.zero_add] at z) h26 (fun e he => by rw [show 1 + (m_nl 0 + 3) + e = 7 + e by omega]; exact z_ct_1 vl K e (by omega))
  have p2 : z_pre x31 (1 + (m_nl 0 + 3) + (K 0 + 1) + (m_nl 1 + 4) + (K 1 + 1)) (z_ct vl K) := z_pre_2 p1 h32 h33 (fun e he => by rw [show 1 + (m_nl 0 + 3) + (K 0 + 1) + e = 7 + (K 0 + 1) + e by omega]; exact z_ct_2 vl K e (by omega)) h34 (fun e he => by rw [show 1 + (m_nl 0 + 3) + (K 0 + 1) + (m_nl 1 + 4) + e = 7 + (K 0 + 1) + 7 + e by omega]; exact z_ct_3 vl K e (by omega))
  have p3 : z_pre x39 (1 + (m_nl 0 + 3) + (K 0 + 1) + (m_nl 1 + 4) + (K 1 + 1) + (m_nl 2 + 4) + (K 2 + 1)) (z_ct vl K) := z_pre_2 p2 h40 h41 (fun e he => by rw [show 1 + (m_nl 0 + 3) + (K 0 + 1) + (m_nl 1 + 4) + (K 1 + 1) + e = 7 + (K 0 + 1) + 7 + (K 1 + 1) + e by omega]; exact z_ct_4 vl K e (by omega)) h42 (fun e he => by rw [show 1 + (m_nl 0 + 3) + (K 0 + 1) + (m_nl 1 + 4) + (K 1 + 1) + (m_nl 2 + 4) + e = 7 + (K 0 + 1) + 7 + (K 1 + 1) + 7 + e by omega]; exact z_ct_5 vl K e (by omega))
  have p4 : z_pre x46 (1 + (m_nl 0 + 3) + (K 0 + 1) + (m_nl 1 + 4) + (K 1 + 1) + (m_nl 2 + 4) + (K 2 + 1) + (m_nl 3 + 4) + (K 3 + 1)) (z_ct vl K) := z_pre_2 p3 h47 h48 (fun e he => by rw [show 1 + (m_nl 0 + 3) + (K 0 + 1) + (m_nl 1 + 4) + (K 1 + 1) + (m_nl 2 + 4) + (K 2 + 1) + e = 7 + (K 0 + 1) + 7 + (K 1 + 1) + 7 + (K 2 + 1) + e by omega]; exact z_ct_6 vl K e (by omega)) h49 (fun e he => by rw [show 1 + (m_nl 0 + 3) + (K 0 + 1) + (m_nl 1 + 4) + (K 1 + 1) + (m_nl 2 + 4) + (K 2 + 1) + (m_nl 3 + 4) + e = 7 + (K 0 + 1) + 7 + (K 1 + 1) + 7 + (K 2 + 1) + 7 + e by omega]; exact z_ct_7 vl K e (by omega))
  have p5 : z_pre x53 (1 + (m_nl 0 + 3) + (K 0 + 1) + (m_nl 1 + 4) + (K 1 + 1) + (m_nl 2 + 4) + (K 2 + 1) + (m_nl 3 + 4) + (K 3 + 1) + (m_nl 4 + 4) + (K 4 + 1)) (z_ct vl K) := z_pre_2 p4 h54 h55 (fun e he => by rw [show 1 + (m_nl 0 + 3) + (K 0 + 1) + (m_nl 1 + 4) + (K 1 + 1) + (m_nl 2 + 4) + (K 2 + 1) + (m_nl 3 + 4) + (K 3 + 1) + e = 7 + (K 0 + 1) + 7 + (K 1 + 1) + 7 + (K 2 + 1) + 7 + (K 3 + 1) + e by omega]; exact z_ct_8 vl K e (by omega)) h56 (fun e he => by rw [show 1 + (m_nl 0 + 3) + (K 0 + 1) + (m_nl 1 + 4) + (K 1 + 1) + (m_nl 2 + 4) + (K 2 + 1) + (m_nl 3 + 4) + (K 3 + 1) + (m_nl 4 + 4) + e = 7 + (K 0 + 1) + 7 + (K 1 + 1) + 7 + (K 2 + 1) + 7 + (K 3 + 1) + 9 + e by omega]; exact z_ct_9 vl K e (by omega))
  have p6 : z_pre (upd x53 (1 + (m_nl 0 + 3) + (K 0 + 1) + (m_nl 1 + 4) + (K 1 + 1) + (m_nl 2 + 4) + (K 2 + 1) + (m_nl 3 + 4) + (K 3 + 1) + (m_nl 4 + 4) + (K 4 + 1)) (125 + 0)) (z_tot K) (z_ct vl K) := by
    have z := z_pre_s (m := 1) (y' := upd x53 (1 + (m_nl 0 + 3) + (K 0 + 1) + (m_nl 1 + 4) + (K 1 + 1) + (m_nl 2 + 4) + (K 2 + 1) + (m_nl 3 + 4) + (K 3 + 1) + (m_nl 4 + 4) + (K 4 + 1)) (125 + 0)) (S := st_chr 5) p5 (fun e he => by simp [upd, show e ≠ 1 + (m_nl 0 + 3) + (K 0 + 1) + (m_nl 1 + 4) + (K 1 + 1) + (m_nl 2 + 4) + (K 2 + 1) + (m_nl 3 + 4) + (K 3 + 1) + (m_nl 4 + 4) + (K 4 + 1) by omega]) (fun e he => by have z : e = 0 := (by omega); subst z; simp [upd]; decide) (fun e he => by rw [show 1 + (m_nl 0 + 3) + (K 0 + 1) + (m_nl 1 + 4) + (K 1 + 1) + (m_nl 2 + 4) + (K 2 + 1) + (m_nl 3 + 4) + (K 3 + 1) + (m_nl 4 + 4) + (K 4 + 1) + e = 7 + (K 0 + 1) + 7 + (K 1 + 1) + 7 + (K 2 + 1) + 7 + (K 3 + 1) + 9 + (K 4 + 1) + e by omega]; exact z_ct_10 vl K e he)
    rw [show 1 + (m_nl 0 + 3) + (K 0 + 1) + (m_nl 1 + 4) + (K 1 + 1) + (m_nl 2 + 4) + (K 2 + 1) + (m_nl 3 + 4) + (K 3 + 1) + (m_nl 4 + 4) + (K 4 + 1) + 1 = z_tot K by unfold z_tot; omega] at z
    exact z
  have hmo : mo k f58 h ad sk (upd (upd v 18 (nI (vl 3))) 28 (nI (z_tot K))) (va_up (m_put (m_put c ja n (nI (vl 0)) (c 19 t) (v 4 + v 3) (nI t)) jb (nI (vl 3)) (nI (vl 0)) (nI (vl 4)) (v 4 + v 2) (nI t)) 27 (upd x53 (1 + (m_nl 0 + 3) + (K 0 + 1) + (m_nl 1 + 4) + (K 1 + 1) + (m_nl 2 + 4) + (K 2 + 1) + (m_nl 3 + 4) + (K 3 + 1) + (m_nl 4 + 4) + (K 4 + 1)) (125 + 0))) := hmo.cv (by rw [upd_uu, upd_uu, upd_uu, upd_uu, upd_uu, upd_uu, upd_uu, show z_tot K = 1 + (m_nl 0 + 3) + (K 0 + 1) + (m_nl 1 + 4) + (K 1 + 1) + (m_nl 2 + 4) + (K 2 + 1) + (m_nl 3 + 4) + (K 3 + 1) + (m_nl 4 + 4) + (K 4 + 1) + 1 by unfold z_tot; omega]) (by rw [bx_uu, bx_uu, bx_uu, bx_uu, bx_uu, bx_uu]; rfl)
  refine lv_aload_n hx hb d_GrantServerModel_grant_135 rfl (lv_at hl 2 rfl) ?_
  refine hm_callv hS hM hA (va_runV (As := []) (rest := []) X (m_c_wrapPlain l D k f58 h ad sk (upd (upd v 18 (nI (vl 3))) 28 (nI (z_tot K))) (va_up (m_put (m_put c ja n (nI (vl 0)) (c 19 t) (v 4 + v 3) (nI t)) jb (nI (vl 3)) (nI (vl 0)) (nI (vl 4)) (v 4 + v 2) (nI t)) 27 (upd x53 (1 + (m_nl 0 + 3) + (K 0 + 1) + (m_nl 1 + 4) + (K 1 + 1) + (m_nl 2 + 4) + (K 2 + 1) + (m_nl 3 + 4) + (K 3 + 1) + (m_nl 4 + 4) + (K 4 + 1)) (125 + 0))) (z_tot K) (z_ct vl K) hmo rfl (by omega) (fun j hj => ⟨p6 j hj, by have := z_ct_lt vl K hj; omega⟩) (by omega) H.size) (hm_cwV hts me_GrantServerModel_wrapPlain wl_GrantServerModel_131 rfl rfl ⟨Nat.le_of_ble_eq_true rfl, Nat.le_of_ble_eq_true rfl⟩) (hm_preV hM hK hmo.1 rfl) rfl rfl hl.1 rfl (lv_room (Nat.le_of_ble_eq_true rfl)) d_GrantServerModel_grant_136 ⟨Nat.le_of_ble_eq_true rfl, Nat.le_of_ble_eq_true rfl⟩) (fun f61 H locs p62 hM hS => ?_)
  obtain ⟨x63, h64, h65, h66, hmo, hfr67⟩ := p62
  have hfr := hfr.tr hfr67
  have hmo : mo k f61 h ad sk (upd (upd (upd v 18 (nI (vl 3))) 28 (nI (z_tot K))) 26 (nI (((z_tot K) * 8 + 5) / 6 + 11))) (va_up (va_up (m_put (m_put c ja n (nI (vl 0)) (c 19 t) (v 4 + v 3) (nI t)) jb (nI (vl 3)) (nI (vl 0)) (nI (vl 4)) (v 4 + v 2) (nI t)) 27 (upd x53 (1 + (m_nl 0 + 3) + (K 0 + 1) + (m_nl 1 + 4) + (K 1 + 1) + (m_nl 2 + 4) + (K 2 + 1) + (m_nl 3 + 4) + (K 3 + 1) + (m_nl 4 + 4) + (K 4 + 1)) (125 + 0))) 25 x63) := hmo
  refine lv_aload_n hx hb d_GrantServerModel_grant_139 rfl (lv_at hl 2 rfl) ?_
  refine hm_get X hK hM hmo.1 fl_GrantServerModel_118 (v := .int (nI (vl 3))) rfl d_GrantServerModel_grant_140 ?_
  exact hm_iret X hQ hr hlk hK hM hS d_GrantServerModel_grant_143 ⟨(upd x53 (1 + (m_nl 0 + 3) + (K 0 + 1) + (m_nl 1 + 4) + (K 1 + 1) + (m_nl 2 + 4) + (K 2 + 1) + (m_nl 3 + 4) + (K 3 + 1) + (m_nl 4 + 4) + (K 4 + 1)) (125 + 0)), x63, rfl, h64, h65, h66, hmo, hfr⟩
set_option maxHeartbeats 4000000 in
set_option maxRecDepth 100000 in
theorem m_c_ex_aud (l : Launch) (D : va_G) (k : Nat → ClassId) (f : hm) (h : Nat) (ad : Nat → Nat) (sk : Int64) (v : Nat → Int32) (c : Nat → Nat → Int32) (co : Int32) (red : Int32) (au : Int32) (n : Int32) (hmo : mo k f h ad sk v c) (hu : ¬ v 9 < 0) (ha : au < 0 ∨ 3 < au) : hm_Mi l D vwCl (tyL k) y_GrantServerModel_exchange (Cond.code y_GrantServerModel_exchange b_GrantServerModel_exchange 7 (some .int) :: TB) ({ frames := 0, cells := 0, slots := 0, locals := 0 }) [.ref h, .int co, .int red, .int au, .int n] f (fun (r : Int32) (f1 : hm) => (-1) = r ∧ f = f1) 0 0 := by
  refine hm_enter (Qc := fun sz => va_Qi _ (hm_R D vwCl (tyL k) f sz) (hm_A f sz)) (by decide) rfl (Nat.le_of_ble_eq_true rfl) ?_
  intro pg e s m below meth cd ls X0 hr hlk hin hK hM hS hA hl Q hQ
  have X : CallFix pg m cd b_GrantServerModel_exchange 7 s ([.ref h, .int co, .int red, .int au, .int n] : List Value).toArray TB R_GrantServerModel := ⟨X0.1, X0.2.1, X0.2.2.1, X0.2.2.2.1, fun w h => X0.2.2.2.2 w (List.mem_cons_of_mem _ h)⟩
  have hx := X.1; have hb := X.2.1; have hml := X.2.2.1; have hown := X.2.2.2.1; have hts := X.2.2.2.2
  have hl : lv_has ls 7 [(0, .ref h), (1, .int co), (2, .int red), (3, .int au), (4, .int n)] := hl
  have hfr : mo_fr h ad f f := mo_fr.rf
  refine lv_aload_n hx hb d_GrantServerModel_exchange_0 rfl (lv_at hl 0 rfl) ?_
  refine hm_get X hK hM hmo.1 fl_GrantServerModel_19 (v := .int (v 9)) rfl d_GrantServerModel_exchange_1 ?_
  refine lv_if_ge (tgt := 10) hx hb d_GrantServerModel_exchange_4 (by decide) (fun h1 => ?_) (fun h1 => ?_)
  · refine lv_iload_n hx hb d_GrantServerModel_exchange_10 rfl (lv_at hl 3 rfl) ?_
    refine lv_if_lt (tgt := 19) hx hb d_GrantServerModel_exchange_11 (by decide) (fun h2 => ?_) (fun h2 => ?_)
    · refine lv_iconst (v := (-1)) hx hb d_GrantServerModel_exchange_19 (by decide) ?_
      exact hm_iret X hQ hr hlk hK hM hS d_GrantServerModel_exchange_20 ⟨rfl, rfl⟩
    · refine lv_iload_n hx hb d_GrantServerModel_exchange_14 rfl (lv_at hl 3 rfl) ?_
      refine lv_iconst (v := 3) hx hb d_GrantServerModel_exchange_15 (by decide) ?_
      refine lv_icmp_le (tgt := 21) hx hb d_GrantServerModel_exchange_16 (by decide) (fun h3 => ?_) (fun h3 => ?_)
      · exact absurd (ha.resolve_left h2) (Int32.not_lt.mpr h3)
      · refine lv_iconst (v := (-1)) hx hb d_GrantServerModel_exchange_19 (by decide) ?_
        exact hm_iret X hQ hr hlk hK hM hS d_GrantServerModel_exchange_20 ⟨rfl, rfl⟩
  · exact absurd (Int32.not_lt.mp hu) h1
set_option maxHeartbeats 4000000 in
set_option maxRecDepth 100000 in
theorem m_c_ex_nf (l : Launch) (D : va_G) (k : Nat → ClassId) (f : hm) (h : Nat) (ad : Nat → Nat) (sk : Int64) (v : Nat → Int32) (c : Nat → Nat → Int32) (co : Int32) (red : Int32) (au : Int32) (n : Int32) (hmo : mo k f h ad sk v c) (hu : ¬ v 9 < 0) (ha1 : ¬ au < 0) (ha2 : ¬ 3 < au) (hf : m_findF (c 10) co 16 0 < 0) : hm_Mi l D vwCl (tyL k) y_GrantServerModel_exchange (Cond.code y_GrantServerModel_exchange b_GrantServerModel_exchange 7 (some .int) :: TB) ({ frames := 2, cells := 0, slots := 0, locals := 43 }) [.ref h, .int co, .int red, .int au, .int n] f (fun (r : Int32) (f1 : hm) => (-3) = r ∧ f = f1) 0 0 := by
  refine hm_enter (Qc := fun sz => va_Qi _ (hm_R D vwCl (tyL k) f sz) (hm_A f sz)) (by decide) rfl (Nat.le_of_ble_eq_true rfl) ?_
  intro pg e s m below meth cd ls X0 hr hlk hin hK hM hS hA hl Q hQ
  have X : CallFix pg m cd b_GrantServerModel_exchange 7 s ([.ref h, .int co, .int red, .int au, .int n] : List Value).toArray TB R_GrantServerModel := ⟨X0.1, X0.2.1, X0.2.2.1, X0.2.2.2.1, fun w h => X0.2.2.2.2 w (List.mem_cons_of_mem _ h)⟩
  have hx := X.1; have hb := X.2.1; have hml := X.2.2.1; have hown := X.2.2.2.1; have hts := X.2.2.2.2
  have hl : lv_has ls 7 [(0, .ref h), (1, .int co), (2, .int red), (3, .int au), (4, .int n)] := hl
  have hfr : mo_fr h ad f f := mo_fr.rf
  refine lv_aload_n hx hb d_GrantServerModel_exchange_0 rfl (lv_at hl 0 rfl) ?_
  refine hm_get X hK hM hmo.1 fl_GrantServerModel_19 (v := .int (v 9)) rfl d_GrantServerModel_exchange_1 ?_
  refine lv_if_ge (tgt := 10) hx hb d_GrantServerModel_exchange_4 (by decide) (fun h1 => ?_) (fun h1 => ?_)
  · refine lv_iload_n hx hb d_GrantServerModel_exchange_10 rfl (lv_at hl 3 rfl) ?_
    refine lv_if_lt (tgt := 19) hx hb d_GrantServerModel_exchange_11 (by decide) (fun h2 => ?_) (fun h2 => ?_)
    · exact absurd h2 ha1
    · refine lv_iload_n hx hb d_GrantServerModel_exchange_14 rfl (lv_at hl 3 rfl) ?_
      refine lv_iconst (v := 3) hx hb d_GrantServerModel_exchange_15 (by decide) ?_
      refine lv_icmp_le (tgt := 21) hx hb d_GrantServerModel_exchange_16 (by decide) (fun h3 => ?_) (fun h3 => ?_)
      · refine lv_aload_n hx hb d_GrantServerModel_exchange_21 rfl (lv_at hl 0 rfl) ?_
        refine lv_iconst (v := 0) hx hb d_GrantServerModel_exchange_22 (by decide) ?_
        refine lv_iload_n hx hb d_GrantServerModel_exchange_23 rfl (lv_at hl 1 rfl) ?_
        refine hm_calli hS hM hA (va_runV (As := [.int 0, .int co]) (rest := []) X (m_c_find l D k f h ad sk v c 0 co hmo  s.heap.size) (hm_cwV hts me_GrantServerModel_find wl_GrantServerModel_100 rfl rfl ⟨Nat.le_of_ble_eq_true rfl, Nat.le_of_ble_eq_true rfl⟩) (hm_preV hM hK hmo.1 rfl) rfl rfl hl.1 rfl (lv_room (Nat.le_of_ble_eq_true rfl)) d_GrantServerModel_exchange_24 ⟨Nat.le_of_ble_eq_true rfl, Nat.le_of_ble_eq_true rfl⟩) (fun r6 f4 H locs p5 hM hS => ?_)
        obtain ⟨rfl, rfl⟩ := p5
        refine hm_top (z := m_findF (c 10) co 16 0) (by simp [m_toN, m_fromN]) ?_
        refine lv_istore (lv' := [(5, .int (m_findF (c 10) co 16 0)), (0, .ref h), (1, .int co), (2, .int red), (3, .int au), (4, .int n)]) hx hb d_GrantServerModel_exchange_27 hl (by decide) rfl (fun ls hl => ?_)
        refine lv_iload hx hb d_GrantServerModel_exchange_29 (lv_at hl 0 rfl) ?_
        refine lv_if_lt (tgt := 48) hx hb d_GrantServerModel_exchange_31 (by decide) (fun h7 => ?_) (fun h7 => ?_)
        · refine lv_bipush (v := (-3)) hx hb d_GrantServerModel_exchange_48 (by decide) ?_
          exact hm_iret X hQ hr hlk hK hM hS d_GrantServerModel_exchange_50 ⟨rfl, rfl⟩
        · exact absurd hf h7
      · exact absurd (Int32.not_lt.mp ha2) h3
  · exact absurd (Int32.not_lt.mp hu) h1
set_option maxHeartbeats 4000000 in
set_option maxRecDepth 100000 in
theorem m_c_ex_own (l : Launch) (D : va_G) (k : Nat → ClassId) (f : hm) (h : Nat) (ad : Nat → Nat) (sk : Int64) (v : Nat → Int32) (c : Nat → Nat → Int32) (co : Int32) (red : Int32) (au : Int32) (n : Int32) (j : Nat) (hmo : mo k f h ad sk v c) (hu : ¬ v 9 < 0) (ha1 : ¬ au < 0) (ha2 : ¬ 3 < au) (hf : m_findF (c 10) co 16 0 = nI j) (hj : j < 16) (ho : ¬ c 11 j = v 9) : hm_Mi l D vwCl (tyL k) y_GrantServerModel_exchange (Cond.code y_GrantServerModel_exchange b_GrantServerModel_exchange 7 (some .int) :: TB) ({ frames := 2, cells := 0, slots := 0, locals := 43 }) [.ref h, .int co, .int red, .int au, .int n] f (fun (r : Int32) (f1 : hm) => (-3) = r ∧ f = f1) 0 0 := by
  refine hm_enter (Qc := fun sz => va_Qi _ (hm_R D vwCl (tyL k) f sz) (hm_A f sz)) (by decide) rfl (Nat.le_of_ble_eq_true rfl) ?_
  intro pg e s m below meth cd ls X0 hr hlk hin hK hM hS hA hl Q hQ
  have X : CallFix pg m cd b_GrantServerModel_exchange 7 s ([.ref h, .int co, .int red, .int au, .int n] : List Value).toArray TB R_GrantServerModel := ⟨X0.1, X0.2.1, X0.2.2.1, X0.2.2.2.1, fun w h => X0.2.2.2.2 w (List.mem_cons_of_mem _ h)⟩
  have hx := X.1; have hb := X.2.1; have hml := X.2.2.1; have hown := X.2.2.2.1; have hts := X.2.2.2.2
  have hl : lv_has ls 7 [(0, .ref h), (1, .int co), (2, .int red), (3, .int au), (4, .int n)] := hl
  have hfr : mo_fr h ad f f := mo_fr.rf
  refine lv_aload_n hx hb d_GrantServerModel_exchange_0 rfl (lv_at hl 0 rfl) ?_
  refine hm_get X hK hM hmo.1 fl_GrantServerModel_19 (v := .int (v 9)) rfl d_GrantServerModel_exchange_1 ?_
  refine lv_if_ge (tgt := 10) hx hb d_GrantServerModel_exchange_4 (by decide) (fun h1 => ?_) (fun h1 => ?_)
  · refine lv_iload_n hx hb d_GrantServerModel_exchange_10 rfl (lv_at hl 3 rfl) ?_
    refine lv_if_lt (tgt := 19) hx hb d_GrantServerModel_exchange_11 (by decide) (fun h2 => ?_) (fun h2 => ?_)
    · exact absurd h2 ha1
    · refine lv_iload_n hx hb d_GrantServerModel_exchange_14 rfl (lv_at hl 3 rfl) ?_
      refine lv_iconst (v := 3) hx hb d_GrantServerModel_exchange_15 (by decide) ?_
      refine lv_icmp_le (tgt := 21) hx hb d_GrantServerModel_exchange_16 (by decide) (fun h3 => ?_) (fun h3 => ?_)
      · refine lv_aload_n hx hb d_GrantServerModel_exchange_21 rfl (lv_at hl 0 rfl) ?_
        refine lv_iconst (v := 0) hx hb d_GrantServerModel_exchange_22 (by decide) ?_
        refine lv_iload_n hx hb d_GrantServerModel_exchange_23 rfl (lv_at hl 1 rfl) ?_
        refine hm_calli hS hM hA (va_runV (As := [.int 0, .int co]) (rest := []) X (m_c_find l D k f h ad sk v c 0 co hmo  s.heap.size) (hm_cwV hts me_GrantServerModel_find wl_GrantServerModel_100 rfl rfl ⟨Nat.le_of_ble_eq_true rfl, Nat.le_of_ble_eq_true rfl⟩) (hm_preV hM hK hmo.1 rfl) rfl rfl hl.1 rfl (lv_room (Nat.le_of_ble_eq_true rfl)) d_GrantServerModel_exchange_24 ⟨Nat.le_of_ble_eq_true rfl, Nat.le_of_ble_eq_true rfl⟩) (fun r6 f4 H locs p5 hM hS => ?_)
        obtain ⟨rfl, rfl⟩ := p5
        refine hm_top (z := m_findF (c 10) co 16 0) (by simp [m_toN, m_fromN]) ?_
        refine hm_top (z := nI j) hf ?_
        refine lv_istore (lv' := [(5, .int (nI j)), (0, .ref h), (1, .int co), (2, .int red), (3, .int au), (4, .int n)]) hx hb d_GrantServerModel_exchange_27 hl (by decide) rfl (fun ls hl => ?_)
        refine lv_iload hx hb d_GrantServerModel_exchange_29 (lv_at hl 0 rfl) ?_
        refine lv_if_lt (tgt := 48) hx hb d_GrantServerModel_exchange_31 (by decide) (fun h7 => ?_) (fun h7 => ?_)
        · exact absurd h7 (nI_pos (by omega))
        · refine lv_aload_n hx hb d_GrantServerModel_exchange_34 rfl (lv_at hl 1 rfl) ?_
          refine hm_get X hK hM hmo.1 fl_GrantServerModel_26 (v := .ref (ad 11)) rfl d_GrantServerModel_exchange_35 ?_
          refine lv_iload hx hb d_GrantServerModel_exchange_38 (lv_at hl 0 rfl) ?_
          have g8 : f (ad 11) = some (.inl (k 0, 64, .inl (c 11))) := hmo.arr 11 (by decide) (by decide)
          refine hm_iald X hK hM g8 0 rfl j rfl (by omega) (by decide) d_GrantServerModel_exchange_40 ?_
          refine lv_aload_n hx hb d_GrantServerModel_exchange_41 rfl (lv_at hl 1 rfl) ?_
          refine hm_get X hK hM hmo.1 fl_GrantServerModel_19 (v := .int (v 9)) rfl d_GrantServerModel_exchange_42 ?_
          refine lv_icmp_eq (tgt := 51) hx hb d_GrantServerModel_exchange_45 (by decide) (fun h9 => ?_) (fun h9 => ?_)
          · exact absurd h9 ho
          · refine lv_bipush (v := (-3)) hx hb d_GrantServerModel_exchange_48 (by decide) ?_
            exact hm_iret X hQ hr hlk hK hM hS d_GrantServerModel_exchange_50 ⟨rfl, rfl⟩
      · exact absurd (Int32.not_lt.mp ha2) h3
  · exact absurd (Int32.not_lt.mp hu) h1
set_option maxHeartbeats 4000000 in
set_option maxRecDepth 100000 in
theorem m_c_ex_rep (l : Launch) (D : va_G) (k : Nat → ClassId) (f : hm) (h : Nat) (ad : Nat → Nat) (sk : Int64) (v : Nat → Int32) (c : Nat → Nat → Int32) (co : Int32) (red : Int32) (au : Int32) (n : Int32) (j : Nat) (t : Nat) (hmo : mo k f h ad sk v c) (hu : ¬ v 9 < 0) (ha1 : ¬ au < 0) (ha2 : ¬ 3 < au) (hf : m_findF (c 10) co 16 0 = nI j) (hj : j < 16) (ho : c 11 j = v 9) (hov : ¬ c 14 j = 0) (hft : c 15 j = nI t) (ht : t < 520) : hm_Mi l D vwCl (tyL k) y_GrantServerModel_exchange (Cond.code y_GrantServerModel_exchange b_GrantServerModel_exchange 7 (some .int) :: TB) ({ frames := 2, cells := 0, slots := 0, locals := 43 }) [.ref h, .int co, .int red, .int au, .int n] f (fun (r : Int32) (f1 : hm) => (-3) = r ∧ mo k f1 h ad sk v (va_up c 21 (upd (c 21) t 1)) ∧ mo_fr h ad f f1) 0 0 := by
  refine hm_enter (Qc := fun sz => va_Qi _ (hm_R D vwCl (tyL k) f sz) (hm_A f sz)) (by decide) rfl (Nat.le_of_ble_eq_true rfl) ?_
  intro pg e s m below meth cd ls X0 hr hlk hin hK hM hS hA hl Q hQ
  have X : CallFix pg m cd b_GrantServerModel_exchange 7 s ([.ref h, .int co, .int red, .int au, .int n] : List Value).toArray TB R_GrantServerModel := ⟨X0.1, X0.2.1, X0.2.2.1, X0.2.2.2.1, fun w h => X0.2.2.2.2 w (List.mem_cons_of_mem _ h)⟩
  have hx := X.1; have hb := X.2.1; have hml := X.2.2.1; have hown := X.2.2.2.1; have hts := X.2.2.2.2
  have hl : lv_has ls 7 [(0, .ref h), (1, .int co), (2, .int red), (3, .int au), (4, .int n)] := hl
  have hfr : mo_fr h ad f f := mo_fr.rf
  refine lv_aload_n hx hb d_GrantServerModel_exchange_0 rfl (lv_at hl 0 rfl) ?_
  refine hm_get X hK hM hmo.1 fl_GrantServerModel_19 (v := .int (v 9)) rfl d_GrantServerModel_exchange_1 ?_
  refine lv_if_ge (tgt := 10) hx hb d_GrantServerModel_exchange_4 (by decide) (fun h1 => ?_) (fun h1 => ?_)
  · refine lv_iload_n hx hb d_GrantServerModel_exchange_10 rfl (lv_at hl 3 rfl) ?_
    refine lv_if_lt (tgt := 19) hx hb d_GrantServerModel_exchange_11 (by decide) (fun h2 => ?_) (fun h2 => ?_)
    · exact absurd h2 ha1
    · refine lv_iload_n hx hb d_GrantServerModel_exchange_14 rfl (lv_at hl 3 rfl) ?_
      refine lv_iconst (v := 3) hx hb d_GrantServerModel_exchange_15 (by decide) ?_
      refine lv_icmp_le (tgt := 21) hx hb d_GrantServerModel_exchange_16 (by decide) (fun h3 => ?_) (fun h3 => ?_)
      · refine lv_aload_n hx hb d_GrantServerModel_exchange_21 rfl (lv_at hl 0 rfl) ?_
        refine lv_iconst (v := 0) hx hb d_GrantServerModel_exchange_22 (by decide) ?_
        refine lv_iload_n hx hb d_GrantServerModel_exchange_23 rfl (lv_at hl 1 rfl) ?_
        refine hm_calli hS hM hA (va_runV (As := [.int 0, .int co]) (rest := []) X (m_c_find l D k f h ad sk v c 0 co hmo  s.heap.size) (hm_cwV hts me_GrantServerModel_find wl_GrantServerModel_100 rfl rfl ⟨Nat.le_of_ble_eq_true rfl, Nat.le_of_ble_eq_true rfl⟩) (hm_preV hM hK hmo.1 rfl) rfl rfl hl.1 rfl (lv_room (Nat.le_of_ble_eq_true rfl)) d_GrantServerModel_exchange_24 ⟨Nat.le_of_ble_eq_true rfl, Nat.le_of_ble_eq_true rfl⟩) (fun r6 f4 H locs p5 hM hS => ?_)
        obtain ⟨rfl, rfl⟩ := p5
        refine hm_top (z := m_findF (c 10) co 16 0) (by simp [m_toN, m_fromN]) ?_
        refine hm_top (z := nI j) hf ?_
        refine lv_istore (lv' := [(5, .int (nI j)), (0, .ref h), (1, .int co), (2, .int red), (3, .int au), (4, .int n)]) hx hb d_GrantServerModel_exchange_27 hl (by decide) rfl (fun ls hl => ?_)
        refine lv_iload hx hb d_GrantServerModel_exchange_29 (lv_at hl 0 rfl) ?_
        refine lv_if_lt (tgt := 48) hx hb d_GrantServerModel_exchange_31 (by decide) (fun h7 => ?_) (fun h7 => ?_)
        · exact absurd h7 (nI_pos (by omega))
        · refine lv_aload_n hx hb d_GrantServerModel_exchange_34 rfl (lv_at hl 1 rfl) ?_
          refine hm_get X hK hM hmo.1 fl_GrantServerModel_26 (v := .ref (ad 11)) rfl d_GrantServerModel_exchange_35 ?_
          refine lv_iload hx hb d_GrantServerModel_exchange_38 (lv_at hl 0 rfl) ?_
          have g8 : f (ad 11) = some (.inl (k 0, 64, .inl (c 11))) := hmo.arr 11 (by decide) (by decide)
          refine hm_iald X hK hM g8 0 rfl j rfl (by omega) (by decide) d_GrantServerModel_exchange_40 ?_
          refine lv_aload_n hx hb d_GrantServerModel_exchange_41 rfl (lv_at hl 1 rfl) ?_
          refine hm_get X hK hM hmo.1 fl_GrantServerModel_19 (v := .int (v 9)) rfl d_GrantServerModel_exchange_42 ?_
          refine lv_icmp_eq (tgt := 51) hx hb d_GrantServerModel_exchange_45 (by decide) (fun h9 => ?_) (fun h9 => ?_)
          · refine lv_aload_n hx hb d_GrantServerModel_exchange_51 rfl (lv_at hl 1 rfl) ?_
            refine hm_get X hK hM hmo.1 fl_GrantServerModel_35 (v := .ref (ad 14)) rfl d_GrantServerModel_exchange_52 ?_
            refine lv_iload hx hb d_GrantServerModel_exchange_55 (lv_at hl 0 rfl) ?_
            have g10 : f (ad 14) = some (.inl (k 1, 64, .inl (c 14))) := hmo.arr 14 (by decide) (by decide)
            refine hm_zald X hK hM g10 1 rfl j rfl (by omega) (by decide) d_GrantServerModel_exchange_57 ?_
            refine lv_if_eq (tgt := 77) hx hb d_GrantServerModel_exchange_58 (by decide) (fun h11 => ?_) (fun h11 => ?_)
            · exact absurd h11 hov
            · refine lv_aload_n hx hb d_GrantServerModel_exchange_61 rfl (lv_at hl 1 rfl) ?_
              refine hm_get X hK hM hmo.1 fl_GrantServerModel_54 (v := .ref (ad 21)) rfl d_GrantServerModel_exchange_62 ?_
              refine lv_aload_n hx hb d_GrantServerModel_exchange_65 rfl (lv_at hl 1 rfl) ?_
              refine hm_get X hK hM hmo.1 fl_GrantServerModel_39 (v := .ref (ad 15)) rfl d_GrantServerModel_exchange_66 ?_
              refine lv_iload hx hb d_GrantServerModel_exchange_69 (lv_at hl 0 rfl) ?_
              have g12 : f (ad 15) = some (.inl (k 0, 64, .inl (c 15))) := hmo.arr 15 (by decide) (by decide)
              refine hm_iald X hK hM g12 0 rfl j rfl (by omega) (by decide) d_GrantServerModel_exchange_71 ?_
              refine lv_iconst (v := 1) hx hb d_GrantServerModel_exchange_72 (by decide) ?_
              have g13 : f (ad 21) = some (.inl (k 1, 520, .inl (c 21))) := hmo.arr 21 (by decide) (by decide)
              refine hm_zast X hK hM hS g13 1 rfl t hft ht (by decide) (y := 1) rfl d_GrantServerModel_exchange_73 (fun f14 H locs e15 hM hS => ?_)
              have hfr := hfr.ast 21 (by decide) (by decide) e15; have hmo : mo k f14 h ad sk v (va_up c 21 (upd (c 21) t 1)) := hmo.ast 21 (by decide) (by decide) e15
              refine lv_bipush (v := (-3)) hx hb d_GrantServerModel_exchange_74 (by decide) ?_
              exact hm_iret X hQ hr hlk hK hM hS d_GrantServerModel_exchange_76 ⟨rfl, hmo, hfr⟩
          · exact absurd ho h9
      · exact absurd (Int32.not_lt.mp ha2) h3
  · exact absurd (Int32.not_lt.mp hu) h1
set_option maxHeartbeats 4000000 in
set_option maxRecDepth 100000 in
theorem m_c_ex_no (l : Launch) (D : va_G) (k : Nat → ClassId) (f : hm) (h : Nat) (ad : Nat → Nat) (sk : Int64) (v : Nat → Int32) (c : Nat → Nat → Int32) (co : Int32) (red : Int32) (au : Int32) (n : Int32) (j : Nat) (nn : Nat) (hmo : mo k f h ad sk v c) (hu : ¬ v 9 < 0) (ha1 : ¬ au < 0) (ha2 : ¬ 3 < au) (hf : m_findF (c 10) co 16 0 = nI j) (hj : j < 16) (ho : c 11 j = v 9) (hov : c 14 j = 0) (hnn : v 24 = nI nn) (hn9 : nn ≤ 120) (hne : ¬ a_ex (c 13 j) (v 4) (c 16 j) red (c 17 j) ((m_hash (c 23) nn nn).toInt32) (m_free (c 10) n) (m_fu (m_roomF (c 10) 24 16)) (m_fu (m_roomF (c 10) 24 40)) = 0) : hm_Mi l D vwCl (tyL k) y_GrantServerModel_exchange (Cond.code y_GrantServerModel_exchange b_GrantServerModel_exchange 7 (some .int) :: TB) ({ frames := 3, cells := 0, slots := 0, locals := 64 }) [.ref h, .int co, .int red, .int au, .int n] f (fun (r : Int32) (f1 : hm) => a_ex (c 13 j) (v 4) (c 16 j) red (c 17 j) ((m_hash (c 23) nn nn).toInt32) (m_free (c 10) n) (m_fu (m_roomF (c 10) 24 16)) (m_fu (m_roomF (c 10) 24 40)) = r ∧ f = f1) 0 0 := by
  refine hm_enter (Qc := fun sz => va_Qi _ (hm_R D vwCl (tyL k) f sz) (hm_A f sz)) (by decide) rfl (Nat.le_of_ble_eq_true rfl) ?_
  intro pg e s m below meth cd ls X0 hr hlk hin hK hM hS hA hl Q hQ
  have X : CallFix pg m cd b_GrantServerModel_exchange 7 s ([.ref h, .int co, .int red, .int au, .int n] : List Value).toArray TB R_GrantServerModel := ⟨X0.1, X0.2.1, X0.2.2.1, X0.2.2.2.1, fun w h => X0.2.2.2.2 w (List.mem_cons_of_mem _ h)⟩
  have hx := X.1; have hb := X.2.1; have hml := X.2.2.1; have hown := X.2.2.2.1; have hts := X.2.2.2.2
  have hl : lv_has ls 7 [(0, .ref h), (1, .int co), (2, .int red), (3, .int au), (4, .int n)] := hl
  have hfr : mo_fr h ad f f := mo_fr.rf
  refine lv_aload_n hx hb d_GrantServerModel_exchange_0 rfl (lv_at hl 0 rfl) ?_
  refine hm_get X hK hM hmo.1 fl_GrantServerModel_19 (v := .int (v 9)) rfl d_GrantServerModel_exchange_1 ?_
  refine lv_if_ge (tgt := 10) hx hb d_GrantServerModel_exchange_4 (by decide) (fun h1 => ?_) (fun h1 => ?_)
  · refine lv_iload_n hx hb d_GrantServerModel_exchange_10 rfl (lv_at hl 3 rfl) ?_
    refine lv_if_lt (tgt := 19) hx hb d_GrantServerModel_exchange_11 (by decide) (fun h2 => ?_) (fun h2 => ?_)
    · exact absurd h2 ha1
    · refine lv_iload_n hx hb d_GrantServerModel_exchange_14 rfl (lv_at hl 3 rfl) ?_
      refine lv_iconst (v := 3) hx hb d_GrantServerModel_exchange_15 (by decide) ?_
      refine lv_icmp_le (tgt := 21) hx hb d_GrantServerModel_exchange_16 (by decide) (fun h3 => ?_) (fun h3 => ?_)
      · refine lv_aload_n hx hb d_GrantServerModel_exchange_21 rfl (lv_at hl 0 rfl) ?_
        refine lv_iconst (v := 0) hx hb d_GrantServerModel_exchange_22 (by decide) ?_
        refine lv_iload_n hx hb d_GrantServerModel_exchange_23 rfl (lv_at hl 1 rfl) ?_
        refine hm_calli hS hM hA (va_runV (As := [.int 0, .int co]) (rest := []) X (m_c_find l D k f h ad sk v c 0 co hmo  s.heap.size) (hm_cwV hts me_GrantServerModel_find wl_GrantServerModel_100 rfl rfl ⟨Nat.le_of_ble_eq_true rfl, Nat.le_of_ble_eq_true rfl⟩) (hm_preV hM hK hmo.1 rfl) rfl rfl hl.1 rfl (lv_room (Nat.le_of_ble_eq_true rfl)) d_GrantServerModel_exchange_24 ⟨Nat.le_of_ble_eq_true rfl, Nat.le_of_ble_eq_true rfl⟩) (fun r6 f4 H locs p5 hM hS => ?_)
        obtain ⟨rfl, rfl⟩ := p5
        refine hm_top (z := m_findF (c 10) co 16 0) (by simp [m_toN, m_fromN]) ?_
        refine hm_top (z := nI j) hf ?_
        refine lv_istore (lv' := [(5, .int (nI j)), (0, .ref h), (1, .int co), (2, .int red), (3, .int au), (4, .int n)]) hx hb d_GrantServerModel_exchange_27 hl (by decide) rfl (fun ls hl => ?_)
        refine lv_iload hx hb d_GrantServerModel_exchange_29 (lv_at hl 0 rfl) ?_
        refine lv_if_lt (tgt := 48) hx hb d_GrantServerModel_exchange_31 (by decide) (fun h7 => ?_) (fun h7 => ?_)
        · exact absurd h7 (nI_pos (by omega))
        · refine lv_aload_n hx hb d_GrantServerModel_exchange_34 rfl (lv_at hl 1 rfl) ?_
          refine hm_get X hK hM hmo.1 fl_GrantServerModel_26 (v := .ref (ad 11)) rfl d_GrantServerModel_exchange_35 ?_
          refine lv_iload hx hb d_GrantServerModel_exchange_38 (lv_at hl 0 rfl) ?_
          have g8 : f (ad 11) = some (.inl (k 0, 64, .inl (c 11))) := hmo.arr 11 (by decide) (by decide)
          refine hm_iald X hK hM g8 0 rfl j rfl (by omega) (by decide) d_GrantServerModel_exchange_40 ?_
          refine lv_aload_n hx hb d_GrantServerModel_exchange_41 rfl (lv_at hl 1 rfl) ?_
          refine hm_get X hK hM hmo.1 fl_GrantServerModel_19 (v := .int (v 9)) rfl d_GrantServerModel_exchange_42 ?_
          refine lv_icmp_eq (tgt := 51) hx hb d_GrantServerModel_exchange_45 (by decide) (fun h9 => ?_) (fun h9 => ?_)
          · refine lv_aload_n hx hb d_GrantServerModel_exchange_51 rfl (lv_at hl 1 rfl) ?_
            refine hm_get X hK hM hmo.1 fl_GrantServerModel_35 (v := .ref (ad 14)) rfl d_GrantServerModel_exchange_52 ?_
            refine lv_iload hx hb d_GrantServerModel_exchange_55 (lv_at hl 0 rfl) ?_
            have g10 : f (ad 14) = some (.inl (k 1, 64, .inl (c 14))) := hmo.arr 14 (by decide) (by decide)
            refine hm_zald X hK hM g10 1 rfl j rfl (by omega) (by decide) d_GrantServerModel_exchange_57 ?_
            refine lv_if_eq (tgt := 77) hx hb d_GrantServerModel_exchange_58 (by decide) (fun h11 => ?_) (fun h11 => ?_)
            · refine lv_aload_n hx hb d_GrantServerModel_exchange_77 rfl (lv_at hl 1 rfl) ?_
              refine hm_get X hK hM hmo.1 fl_GrantServerModel_32 (v := .ref (ad 13)) rfl d_GrantServerModel_exchange_78 ?_
              refine lv_iload hx hb d_GrantServerModel_exchange_81 (lv_at hl 0 rfl) ?_
              have g12 : f (ad 13) = some (.inl (k 0, 64, .inl (c 13))) := hmo.arr 13 (by decide) (by decide)
              refine hm_iald X hK hM g12 0 rfl j rfl (by omega) (by decide) d_GrantServerModel_exchange_83 ?_
              refine lv_aload_n hx hb d_GrantServerModel_exchange_84 rfl (lv_at hl 1 rfl) ?_
              refine hm_get X hK hM hmo.1 fl_GrantServerModel_104 (v := .int (v 4)) rfl d_GrantServerModel_exchange_85 ?_
              refine lv_icmp_le (tgt := 116) hx hb d_GrantServerModel_exchange_88 (by decide) (fun h13 => ?_) (fun h13 => ?_)
              · refine lv_bipush (v := (-3)) hx hb d_GrantServerModel_exchange_116 (by decide) ?_
                exact hm_iret X hQ hr hlk hK hM hS d_GrantServerModel_exchange_118 ⟨(by simp [a_ex, h1, Int32.not_lt.mpr h1, h2, Int32.not_lt.mp h2, h3, Int32.not_lt.mpr h3, h7, Int32.not_lt.mp h7, h9, h11, h13, Int32.not_lt.mpr h13]), rfl⟩
              · refine lv_aload_n hx hb d_GrantServerModel_exchange_91 rfl (lv_at hl 1 rfl) ?_
                refine hm_get X hK hM hmo.1 fl_GrantServerModel_42 (v := .ref (ad 16)) rfl d_GrantServerModel_exchange_92 ?_
                refine lv_iload hx hb d_GrantServerModel_exchange_95 (lv_at hl 0 rfl) ?_
                have g14 : f (ad 16) = some (.inl (k 0, 16, .inl (c 16))) := hmo.arr 16 (by decide) (by decide)
                refine hm_iald X hK hM g14 0 rfl j rfl (by omega) (by decide) d_GrantServerModel_exchange_97 ?_
                refine lv_iload_n hx hb d_GrantServerModel_exchange_98 rfl (lv_at hl 3 rfl) ?_
                refine lv_icmp_ne (tgt := 116) hx hb d_GrantServerModel_exchange_99 (by decide) (fun h15 => ?_) (fun h15 => ?_)
                · refine lv_bipush (v := (-3)) hx hb d_GrantServerModel_exchange_116 (by decide) ?_
                  exact hm_iret X hQ hr hlk hK hM hS d_GrantServerModel_exchange_118 ⟨(by simp [a_ex, h1, Int32.not_lt.mpr h1, h2, Int32.not_lt.mp h2, h3, Int32.not_lt.mpr h3, h7, Int32.not_lt.mp h7, h9, h11, h13, Int32.not_le.mp h13, h15]), rfl⟩
                · refine lv_aload_n hx hb d_GrantServerModel_exchange_102 rfl (lv_at hl 1 rfl) ?_
                  refine hm_get X hK hM hmo.1 fl_GrantServerModel_45 (v := .ref (ad 17)) rfl d_GrantServerModel_exchange_103 ?_
                  refine lv_iload hx hb d_GrantServerModel_exchange_106 (lv_at hl 0 rfl) ?_
                  have g16 : f (ad 17) = some (.inl (k 0, 16, .inl (c 17))) := hmo.arr 17 (by decide) (by decide)
                  refine hm_iald X hK hM g16 0 rfl j rfl (by omega) (by decide) d_GrantServerModel_exchange_108 ?_
                  refine lv_aload_n hx hb d_GrantServerModel_exchange_109 rfl (lv_at hl 1 rfl) ?_
                  refine hm_calli hS hM hA (va_runV (As := []) (rest := [.int ((c 17) j)]) X (m_c_challenge l D k f h ad sk v c nn hmo hnn hn9 H.size) (hm_cwV hts me_GrantServerModel_challenge wl_GrantServerModel_134 rfl rfl ⟨Nat.le_of_ble_eq_true rfl, Nat.le_of_ble_eq_true rfl⟩) (hm_preV hM hK hmo.1 rfl) rfl rfl hl.1 rfl (lv_room (Nat.le_of_ble_eq_true rfl)) d_GrantServerModel_exchange_110 ⟨Nat.le_of_ble_eq_true rfl, Nat.le_of_ble_eq_true rfl⟩) (fun r19 f17 H locs p18 hM hS => ?_)
                  obtain ⟨rfl, rfl⟩ := p18
                  refine lv_icmp_eq (tgt := 119) hx hb d_GrantServerModel_exchange_113 (by decide) (fun h20 => ?_) (fun h20 => ?_)
                  · refine lv_aload_n hx hb d_GrantServerModel_exchange_119 rfl (lv_at hl 1 rfl) ?_
                    refine lv_iload hx hb d_GrantServerModel_exchange_120 (lv_at hl 5 rfl) ?_
                    refine hm_calli hS hM hA (va_runV (As := [.int n]) (rest := []) X (m_c_isFree l D k f h ad sk v c n hmo  H.size) (hm_cwV hts me_GrantServerModel_isFree wl_GrantServerModel_108 rfl rfl ⟨Nat.le_of_ble_eq_true rfl, Nat.le_of_ble_eq_true rfl⟩) (hm_preV hM hK hmo.1 rfl) rfl rfl hl.1 rfl (lv_room (Nat.le_of_ble_eq_true rfl)) d_GrantServerModel_exchange_122 ⟨Nat.le_of_ble_eq_true rfl, Nat.le_of_ble_eq_true rfl⟩) (fun r23 f21 H locs p22 hM hS => ?_)
                    obtain ⟨rfl, rfl⟩ := p22
                    refine lv_if_ne (tgt := 131) hx hb d_GrantServerModel_exchange_125 (by decide) (fun h24 => ?_) (fun h24 => ?_)
                    · refine lv_aload_n hx hb d_GrantServerModel_exchange_131 rfl (lv_at hl 1 rfl) ?_
                      refine lv_iconst (v := 1) hx hb d_GrantServerModel_exchange_132 (by decide) ?_
                      refine hm_calli hS hM hA (va_runV (As := [.int 1]) (rest := []) X (m_c_room l D k f h ad sk v c 1 hmo  H.size) (hm_cwV hts me_GrantServerModel_room wl_GrantServerModel_111 rfl rfl ⟨Nat.le_of_ble_eq_true rfl, Nat.le_of_ble_eq_true rfl⟩) (hm_preV hM hK hmo.1 rfl) rfl rfl hl.1 rfl (lv_room (Nat.le_of_ble_eq_true rfl)) d_GrantServerModel_exchange_133 ⟨Nat.le_of_ble_eq_true rfl, Nat.le_of_ble_eq_true rfl⟩) (fun r27 f25 H locs p26 hM hS => ?_)
                      obtain ⟨rfl, rfl⟩ := p26
                      refine hm_top (z := m_roomF (c 10) 24 16) (by simp [m_toN, m_fromN]) ?_
                      refine lv_if_lt (tgt := 147) hx hb d_GrantServerModel_exchange_136 (by decide) (fun h28 => ?_) (fun h28 => ?_)
                      · refine lv_bipush (v := (-6)) hx hb d_GrantServerModel_exchange_147 (by decide) ?_
                        exact hm_iret X hQ hr hlk hK hM hS d_GrantServerModel_exchange_149 ⟨(by simp [a_ex, h1, Int32.not_lt.mpr h1, h2, Int32.not_lt.mp h2, h3, Int32.not_lt.mpr h3, h7, Int32.not_lt.mp h7, h9, h11, h13, Int32.not_le.mp h13, h15, h20, h24, h28, Int32.not_le.mpr h28, m_fu_1 h28]), rfl⟩
                      · refine lv_aload_n hx hb d_GrantServerModel_exchange_139 rfl (lv_at hl 1 rfl) ?_
                        refine lv_iconst (v := 2) hx hb d_GrantServerModel_exchange_140 (by decide) ?_
                        refine hm_calli hS hM hA (va_runV (As := [.int 2]) (rest := []) X (m_c_room l D k f h ad sk v c 2 hmo  H.size) (hm_cwV hts me_GrantServerModel_room wl_GrantServerModel_111 rfl rfl ⟨Nat.le_of_ble_eq_true rfl, Nat.le_of_ble_eq_true rfl⟩) (hm_preV hM hK hmo.1 rfl) rfl rfl hl.1 rfl (lv_room (Nat.le_of_ble_eq_true rfl)) d_GrantServerModel_exchange_141 ⟨Nat.le_of_ble_eq_true rfl, Nat.le_of_ble_eq_true rfl⟩) (fun r31 f29 H locs p30 hM hS => ?_)
                        obtain ⟨rfl, rfl⟩ := p30
                        refine hm_top (z := m_roomF (c 10) 24 40) (by simp [m_toN, m_fromN]) ?_
                        refine lv_if_ge (tgt := 150) hx hb d_GrantServerModel_exchange_144 (by decide) (fun h32 => ?_) (fun h32 => ?_)
                        · exact absurd (by simp [a_ex, h1, Int32.not_lt.mpr h1, h2, Int32.not_lt.mp h2, h3, Int32.not_lt.mpr h3, h7, Int32.not_lt.mp h7, h9, h11, h13, Int32.not_le.mp h13, h15, h20, h24, h28, Int32.not_lt.mp h28, h32, Int32.not_lt.mpr h32, m_fu_0 h28, m_fu_0 (Int32.not_lt.mpr h32)]) hne
                        · refine lv_bipush (v := (-6)) hx hb d_GrantServerModel_exchange_147 (by decide) ?_
                          exact hm_iret X hQ hr hlk hK hM hS d_GrantServerModel_exchange_149 ⟨(by simp [a_ex, h1, Int32.not_lt.mpr h1, h2, Int32.not_lt.mp h2, h3, Int32.not_lt.mpr h3, h7, Int32.not_lt.mp h7, h9, h11, h13, Int32.not_le.mp h13, h15, h20, h24, h28, Int32.not_lt.mp h28, h32, Int32.not_le.mp h32, m_fu_0 h28, m_fu_1 (Int32.not_le.mp h32)]), rfl⟩
                    · refine lv_bipush (v := (-5)) hx hb d_GrantServerModel_exchange_128 (by decide) ?_
                      exact hm_iret X hQ hr hlk hK hM hS d_GrantServerModel_exchange_130 ⟨(by simp [a_ex, h1, Int32.not_lt.mpr h1, h2, Int32.not_lt.mp h2, h3, Int32.not_lt.mpr h3, h7, Int32.not_lt.mp h7, h9, h11, h13, Int32.not_le.mp h13, h15, h20, h24]), rfl⟩
                  · refine lv_bipush (v := (-3)) hx hb d_GrantServerModel_exchange_116 (by decide) ?_
                    exact hm_iret X hQ hr hlk hK hM hS d_GrantServerModel_exchange_118 ⟨(by simp [a_ex, h1, Int32.not_lt.mpr h1, h2, Int32.not_lt.mp h2, h3, Int32.not_lt.mpr h3, h7, Int32.not_lt.mp h7, h9, h11, h13, Int32.not_le.mp h13, h15, h20]), rfl⟩
            · exact absurd hov h11
          · exact absurd ho h9
      · exact absurd (Int32.not_lt.mp ha2) h3
  · exact absurd (Int32.not_lt.mp hu) h1
set_option maxHeartbeats 4000000 in
set_option maxRecDepth 100000 in
theorem m_c_ex (l : Launch) (D : va_G) (k : Nat → ClassId) (f : hm) (h : Nat) (ad : Nat → Nat) (sk : Int64) (v : Nat → Int32) (c : Nat → Nat → Int32) (co : Int32) (red : Int32) (n : Int32) (j : Nat) (nn : Nat) (nf : Nat) (vl : Nat → Nat) (K : Nat → Nat) (ja : Nat) (jb : Nat) (hmo : mo k f h ad sk v c) (hu : ¬ v 9 < 0) (ha2 : vl 1 ≤ 3) (hf : m_findF (c 10) co 16 0 = nI j) (hj : j < 16) (ho : c 11 j = v 9) (hov : c 14 j = 0) (hnn : v 24 = nI nn) (hn9 : nn ≤ 120) (hok0 : a_ex (c 13 j) (v 4) (c 16 j) red (c 17 j) ((m_hash (c 23) nn nn).toInt32) (m_free (c 10) n) (m_fu (m_roomF (c 10) 24 16)) (m_fu (m_roomF (c 10) 24 40)) = 0) (hnf : v 22 = nI nf) (hnf9 : nf < 520) (hu0 : v 9 = nI (vl 0)) (hsc : c 12 j = nI (vl 4)) (hra : m_roomF (c 10) 24 16 = nI ja) (hrb : m_roomF (c 10) 24 40 = nI jb) (hja : ja < 64) (hjb : jb < 64) (hen : v 4 + v 2 = nI (vl 2)) (hmd : v 18 + 1 = nI (vl 3)) (hKd : ∀ i, i < 5 → z_dg (vl i) (K i)) (hvl : ∀ i, i < 5 → vl i < 2 ^ 31) (hsz : z_tot K ≤ 81) : hm_Mi l D vwCl (tyL k) y_GrantServerModel_exchange (Cond.code y_GrantServerModel_exchange b_GrantServerModel_exchange 7 (some .int) :: TB) ({ frames := 4, cells := 0, slots := 0, locals := 94 }) [.ref h, .int co, .int red, .int (nI (vl 1)), .int n] f (fun (r : Int32) (f1 : hm) => ∃ (g : Nat → Int32) (g2 : Nat → Int32), nI (vl 3) = r ∧ (∀ i, i < (z_tot K * 8 + 5) / 6 → g2 i = nI (st_chr 6 (z_six (z_tot K) (z_ct vl K) i))) ∧ (g2 ((z_tot K * 8 + 5) / 6) = 46) ∧ (∀ i, i < 10 → g2 ((z_tot K * 8 + 5) / 6 + 1 + i) = m_sign (m_ss (z_seal sk g2 ((z_tot K * 8 + 5) / 6)) i)) ∧ mo k f1 h ad sk (upd (upd (upd (upd v 22 (nI (nf + 1))) 18 (nI (vl 3))) 28 (nI (z_tot K))) 26 (nI ((z_tot K * 8 + 5) / 6 + 11))) (va_up (va_up (m_put (m_put (va_up (va_up (va_up (va_up (va_up c 19 (upd (c 19) nf (nI (vl 4)))) 20 (upd (c 20) nf (nI (vl 1)))) 21 (upd (c 21) nf 0)) 14 (upd (c 14) j 1)) 15 (upd (c 15) j (nI nf))) ja n (nI (vl 0)) ((va_up (va_up (va_up (va_up (va_up c 19 (upd (c 19) nf (nI (vl 4)))) 20 (upd (c 20) nf (nI (vl 1)))) 21 (upd (c 21) nf 0)) 14 (upd (c 14) j 1)) 15 (upd (c 15) j (nI nf))) 19 nf) ((upd v 22 (nI (nf + 1))) 4 + (upd v 22 (nI (nf + 1))) 3) (nI nf)) jb (nI (vl 3)) (nI (vl 0)) (nI (vl 4)) ((upd v 22 (nI (nf + 1))) 4 + (upd v 22 (nI (nf + 1))) 2) (nI nf)) 27 g) 25 g2) ∧ mo_fr h ad f f1) 0 0 := by
  refine hm_enter (Qc := fun sz => va_Qi _ (hm_R D vwCl (tyL k) f sz) (hm_A f sz)) (by decide) rfl (Nat.le_of_ble_eq_true rfl) ?_
  intro pg e s m below meth cd ls X0 hr hlk hin hK hM hS hA hl Q hQ
  have X : CallFix pg m cd b_GrantServerModel_exchange 7 s ([.ref h, .int co, .int red, .int (nI (vl 1)), .int n] : List Value).toArray TB R_GrantServerModel := ⟨X0.1, X0.2.1, X0.2.2.1, X0.2.2.2.1, fun w h => X0.2.2.2.2 w (List.mem_cons_of_mem _ h)⟩
  have hx := X.1; have hb := X.2.1; have hml := X.2.2.1; have hown := X.2.2.2.1; have hts := X.2.2.2.2
  have hl : lv_has ls 7 [(0, .ref h), (1, .int co), (2, .int red), (3, .int (nI (vl 1))), (4, .int n)] := hl
  have hfr : mo_fr h ad f f := mo_fr.rf
  refine lv_aload_n hx hb d_GrantServerModel_exchange_0 rfl (lv_at hl 0 rfl) ?_
  refine hm_get X hK hM hmo.1 fl_GrantServerModel_19 (v := .int (v 9)) rfl d_GrantServerModel_exchange_1 ?_
  refine lv_if_ge (tgt := 10) hx hb d_GrantServerModel_exchange_4 (by decide) (fun h1 => ?_) (fun h1 => ?_)
  · refine lv_iload_n hx hb d_GrantServerModel_exchange_10 rfl (lv_at hl 3 rfl) ?_
    refine lv_if_lt (tgt := 19) hx hb d_GrantServerModel_exchange_11 (by decide) (fun h2 => ?_) (fun h2 => ?_)
    · exact absurd h2 (nI_pos (by omega))
    · refine lv_iload_n hx hb d_GrantServerModel_exchange_14 rfl (lv_at hl 3 rfl) ?_
      refine lv_iconst (v := 3) hx hb d_GrantServerModel_exchange_15 (by decide) ?_
      refine lv_icmp_le (tgt := 21) hx hb d_GrantServerModel_exchange_16 (by decide) (fun h3 => ?_) (fun h3 => ?_)
      · refine lv_aload_n hx hb d_GrantServerModel_exchange_21 rfl (lv_at hl 0 rfl) ?_
        refine lv_iconst (v := 0) hx hb d_GrantServerModel_exchange_22 (by decide) ?_
        refine lv_iload_n hx hb d_GrantServerModel_exchange_23 rfl (lv_at hl 1 rfl) ?_
        refine hm_calli hS hM hA (va_runV (As := [.int 0, .int co]) (rest := []) X (m_c_find l D k f h ad sk v c 0 co hmo  s.heap.size) (hm_cwV hts me_GrantServerModel_find wl_GrantServerModel_100 rfl rfl ⟨Nat.le_of_ble_eq_true rfl, Nat.le_of_ble_eq_true rfl⟩) (hm_preV hM hK hmo.1 rfl) rfl rfl hl.1 rfl (lv_room (Nat.le_of_ble_eq_true rfl)) d_GrantServerModel_exchange_24 ⟨Nat.le_of_ble_eq_true rfl, Nat.le_of_ble_eq_true rfl⟩) (fun r6 f4 H locs p5 hM hS => ?_)
        obtain ⟨rfl, rfl⟩ := p5
        refine hm_top (z := m_findF (c 10) co 16 0) (by simp [m_toN, m_fromN]) ?_
        refine hm_top (z := nI j) hf ?_
        refine lv_istore (lv' := [(5, .int (nI j)), (0, .ref h), (1, .int co), (2, .int red), (3, .int (nI (vl 1))), (4, .int n)]) hx hb d_GrantServerModel_exchange_27 hl (by decide) rfl (fun ls hl => ?_)
        refine lv_iload hx hb d_GrantServerModel_exchange_29 (lv_at hl 0 rfl) ?_
        refine lv_if_lt (tgt := 48) hx hb d_GrantServerModel_exchange_31 (by decide) (fun h7 => ?_) (fun h7 => ?_)
        · exact absurd h7 (nI_pos (by omega))
        · refine lv_aload_n hx hb d_GrantServerModel_exchange_34 rfl (lv_at hl 1 rfl) ?_
          refine hm_get X hK hM hmo.1 fl_GrantServerModel_26 (v := .ref (ad 11)) rfl d_GrantServerModel_exchange_35 ?_
          refine lv_iload hx hb d_GrantServerModel_exchange_38 (lv_at hl 0 rfl) ?_
          have g8 : f (ad 11) = some (.inl (k 0, 64, .inl (c 11))) := hmo.arr 11 (by decide) (by decide)
          refine hm_iald X hK hM g8 0 rfl j rfl (by omega) (by decide) d_GrantServerModel_exchange_40 ?_
          refine lv_aload_n hx hb d_GrantServerModel_exchange_41 rfl (lv_at hl 1 rfl) ?_
          refine hm_get X hK hM hmo.1 fl_GrantServerModel_19 (v := .int (v 9)) rfl d_GrantServerModel_exchange_42 ?_
          refine lv_icmp_eq (tgt := 51) hx hb d_GrantServerModel_exchange_45 (by decide) (fun h9 => ?_) (fun h9 => ?_)
          · refine lv_aload_n hx hb d_GrantServerModel_exchange_51 rfl (lv_at hl 1 rfl) ?_
            refine hm_get X hK hM hmo.1 fl_GrantServerModel_35 (v := .ref (ad 14)) rfl d_GrantServerModel_exchange_52 ?_
            refine lv_iload hx hb d_GrantServerModel_exchange_55 (lv_at hl 0 rfl) ?_
            have g10 : f (ad 14) = some (.inl (k 1, 64, .inl (c 14))) := hmo.arr 14 (by decide) (by decide)
            refine hm_zald X hK hM g10 1 rfl j rfl (by omega) (by decide) d_GrantServerModel_exchange_57 ?_
            refine lv_if_eq (tgt := 77) hx hb d_GrantServerModel_exchange_58 (by decide) (fun h11 => ?_) (fun h11 => ?_)
            · refine lv_aload_n hx hb d_GrantServerModel_exchange_77 rfl (lv_at hl 1 rfl) ?_
              refine hm_get X hK hM hmo.1 fl_GrantServerModel_32 (v := .ref (ad 13)) rfl d_GrantServerModel_exchange_78 ?_
              refine lv_iload hx hb d_GrantServerModel_exchange_81 (lv_at hl 0 rfl) ?_
              have g12 : f (ad 13) = some (.inl (k 0, 64, .inl (c 13))) := hmo.arr 13 (by decide) (by decide)
              refine hm_iald X hK hM g12 0 rfl j rfl (by omega) (by decide) d_GrantServerModel_exchange_83 ?_
              refine lv_aload_n hx hb d_GrantServerModel_exchange_84 rfl (lv_at hl 1 rfl) ?_
              refine hm_get X hK hM hmo.1 fl_GrantServerModel_104 (v := .int (v 4)) rfl d_GrantServerModel_exchange_85 ?_
              refine lv_icmp_le (tgt := 116) hx hb d_GrantServerModel_exchange_88 (by decide) (fun h13 => ?_) (fun h13 => ?_)
              · exact absurd (by simp [a_ex, h1, Int32.not_lt.mpr h1, h2, Int32.not_lt.mp h2, h3, Int32.not_lt.mpr h3, h7, Int32.not_lt.mp h7, h9, h11, h13, Int32.not_lt.mpr h13]) (show ¬ ¬ a_ex (c 13 j) (v 4) (c 16 j) red (c 17 j) ((m_hash (c 23) nn nn).toInt32) (m_free (c 10) n) (m_fu (m_roomF (c 10) 24 16)) (m_fu (m_roomF (c 10) 24 40)) = 0 from fun z => z hok0)
              · refine lv_aload_n hx hb d_GrantServerModel_exchange_91 rfl (lv_at hl 1 rfl) ?_
                refine hm_get X hK hM hmo.1 fl_GrantServerModel_42 (v := .ref (ad 16)) rfl d_GrantServerModel_exchange_92 ?_
                refine lv_iload hx hb d_GrantServerModel_exchange_95 (lv_at hl 0 rfl) ?_
                have g14 : f (ad 16) = some (.inl (k 0, 16, .inl (c 16))) := hmo.arr 16 (by decide) (by decide)
                refine hm_iald X hK hM g14 0 rfl j rfl (by omega) (by decide) d_GrantServerModel_exchange_97 ?_
                refine lv_iload_n hx hb d_GrantServerModel_exchange_98 rfl (lv_at hl 3 rfl) ?_
                refine lv_icmp_ne (tgt := 116) hx hb d_GrantServerModel_exchange_99 (by decide) (fun h15 => ?_) (fun h15 => ?_)
                · exact absurd (by simp [a_ex, h1, Int32.not_lt.mpr h1, h2, Int32.not_lt.mp h2, h3, Int32.not_lt.mpr h3, h7, Int32.not_lt.mp h7, h9, h11, h13, Int32.not_le.mp h13, h15]) (show ¬ ¬ a_ex (c 13 j) (v 4) (c 16 j) red (c 17 j) ((m_hash (c 23) nn nn).toInt32) (m_free (c 10) n) (m_fu (m_roomF (c 10) 24 16)) (m_fu (m_roomF (c 10) 24 40)) = 0 from fun z => z hok0)
                · refine lv_aload_n hx hb d_GrantServerModel_exchange_102 rfl (lv_at hl 1 rfl) ?_
                  refine hm_get X hK hM hmo.1 fl_GrantServerModel_45 (v := .ref (ad 17)) rfl d_GrantServerModel_exchange_103 ?_
                  refine lv_iload hx hb d_GrantServerModel_exchange_106 (lv_at hl 0 rfl) ?_
                  have g16 : f (ad 17) = some (.inl (k 0, 16, .inl (c 17))) := hmo.arr 17 (by decide) (by decide)
                  refine hm_iald X hK hM g16 0 rfl j rfl (by omega) (by decide) d_GrantServerModel_exchange_108 ?_
                  refine lv_aload_n hx hb d_GrantServerModel_exchange_109 rfl (lv_at hl 1 rfl) ?_
                  refine hm_calli hS hM hA (va_runV (As := []) (rest := [.int ((c 17) j)]) X (m_c_challenge l D k f h ad sk v c nn hmo hnn hn9 H.size) (hm_cwV hts me_GrantServerModel_challenge wl_GrantServerModel_134 rfl rfl ⟨Nat.le_of_ble_eq_true rfl, Nat.le_of_ble_eq_true rfl⟩) (hm_preV hM hK hmo.1 rfl) rfl rfl hl.1 rfl (lv_room (Nat.le_of_ble_eq_true rfl)) d_GrantServerModel_exchange_110 ⟨Nat.le_of_ble_eq_true rfl, Nat.le_of_ble_eq_true rfl⟩) (fun r19 f17 H locs p18 hM hS => ?_)
                  obtain ⟨rfl, rfl⟩ := p18
                  refine lv_icmp_eq (tgt := 119) hx hb d_GrantServerModel_exchange_113 (by decide) (fun h20 => ?_) (fun h20 => ?_)
                  · refine lv_aload_n hx hb d_GrantServerModel_exchange_119 rfl (lv_at hl 1 rfl) ?_
                    refine lv_iload hx hb d_GrantServerModel_exchange_120 (lv_at hl 5 rfl) ?_
                    refine hm_calli hS hM hA (va_runV (As := [.int n]) (rest := []) X (m_c_isFree l D k f h ad sk v c n hmo  H.size) (hm_cwV hts me_GrantServerModel_isFree wl_GrantServerModel_108 rfl rfl ⟨Nat.le_of_ble_eq_true rfl, Nat.le_of_ble_eq_true rfl⟩) (hm_preV hM hK hmo.1 rfl) rfl rfl hl.1 rfl (lv_room (Nat.le_of_ble_eq_true rfl)) d_GrantServerModel_exchange_122 ⟨Nat.le_of_ble_eq_true rfl, Nat.le_of_ble_eq_true rfl⟩) (fun r23 f21 H locs p22 hM hS => ?_)
                    obtain ⟨rfl, rfl⟩ := p22
                    refine lv_if_ne (tgt := 131) hx hb d_GrantServerModel_exchange_125 (by decide) (fun h24 => ?_) (fun h24 => ?_)
                    · refine lv_aload_n hx hb d_GrantServerModel_exchange_131 rfl (lv_at hl 1 rfl) ?_
                      refine lv_iconst (v := 1) hx hb d_GrantServerModel_exchange_132 (by decide) ?_
                      refine hm_calli hS hM hA (va_runV (As := [.int 1]) (rest := []) X (m_c_room l D k f h ad sk v c 1 hmo  H.size) (hm_cwV hts me_GrantServerModel_room wl_GrantServerModel_111 rfl rfl ⟨Nat.le_of_ble_eq_true rfl, Nat.le_of_ble_eq_true rfl⟩) (hm_preV hM hK hmo.1 rfl) rfl rfl hl.1 rfl (lv_room (Nat.le_of_ble_eq_true rfl)) d_GrantServerModel_exchange_133 ⟨Nat.le_of_ble_eq_true rfl, Nat.le_of_ble_eq_true rfl⟩) (fun r27 f25 H locs p26 hM hS => ?_)
                      obtain ⟨rfl, rfl⟩ := p26
                      refine hm_top (z := m_roomF (c 10) 24 16) (by simp [m_toN, m_fromN]) ?_
                      refine lv_if_lt (tgt := 147) hx hb d_GrantServerModel_exchange_136 (by decide) (fun h28 => ?_) (fun h28 => ?_)
                      · exact absurd (by simp [a_ex, h1, Int32.not_lt.mpr h1, h2, Int32.not_lt.mp h2, h3, Int32.not_lt.mpr h3, h7, Int32.not_lt.mp h7, h9, h11, h13, Int32.not_le.mp h13, h15, h20, h24, h28, Int32.not_le.mpr h28, m_fu_1 h28]) (show ¬ ¬ a_ex (c 13 j) (v 4) (c 16 j) red (c 17 j) ((m_hash (c 23) nn nn).toInt32) (m_free (c 10) n) (m_fu (m_roomF (c 10) 24 16)) (m_fu (m_roomF (c 10) 24 40)) = 0 from fun z => z hok0)
                      · refine lv_aload_n hx hb d_GrantServerModel_exchange_139 rfl (lv_at hl 1 rfl) ?_
                        refine lv_iconst (v := 2) hx hb d_GrantServerModel_exchange_140 (by decide) ?_
                        refine hm_calli hS hM hA (va_runV (As := [.int 2]) (rest := []) X (m_c_room l D k f h ad sk v c 2 hmo  H.size) (hm_cwV hts me_GrantServerModel_room wl_GrantServerModel_111 rfl rfl ⟨Nat.le_of_ble_eq_true rfl, Nat.le_of_ble_eq_true rfl⟩) (hm_preV hM hK hmo.1 rfl) rfl rfl hl.1 rfl (lv_room (Nat.le_of_ble_eq_true rfl)) d_GrantServerModel_exchange_141 ⟨Nat.le_of_ble_eq_true rfl, Nat.le_of_ble_eq_true rfl⟩) (fun r31 f29 H locs p30 hM hS => ?_)
                        obtain ⟨rfl, rfl⟩ := p30
                        refine hm_top (z := m_roomF (c 10) 24 40) (by simp [m_toN, m_fromN]) ?_
                        refine lv_if_ge (tgt := 150) hx hb d_GrantServerModel_exchange_144 (by decide) (fun h32 => ?_) (fun h32 => ?_)
                        · refine lv_aload_n hx hb d_GrantServerModel_exchange_150 rfl (lv_at hl 1 rfl) ?_
                          refine hm_get X hK hM hmo.1 fl_GrantServerModel_138 (v := .int (v 22)) rfl d_GrantServerModel_exchange_151 ?_
                          refine hm_top (z := nI nf) hnf ?_
                          refine lv_istore (lv' := [(6, .int (nI nf)), (5, .int (nI j)), (0, .ref h), (1, .int co), (2, .int red), (3, .int (nI (vl 1))), (4, .int n)]) hx hb d_GrantServerModel_exchange_154 hl (by decide) rfl (fun ls hl => ?_)
                          refine lv_aload_n hx hb d_GrantServerModel_exchange_156 rfl (lv_at hl 2 rfl) ?_
                          refine lv_dup hx hb d_GrantServerModel_exchange_157 rfl ?_
                          refine hm_get X hK hM hmo.1 fl_GrantServerModel_138 (v := .int (v 22)) rfl d_GrantServerModel_exchange_158 ?_
                          refine lv_iconst (v := 1) hx hb d_GrantServerModel_exchange_161 (by decide) ?_
                          refine lv_iadd hx hb d_GrantServerModel_exchange_162 ?_
                          refine hm_top (z := nI (nf + 1)) (by rw [hnf]; exact nI_1 nf) ?_
                          refine hm_put X hK hM hS (fs' := moV sk (upd v 22 (nI (nf + 1))) ad) hmo.1 fl_GrantServerModel_138 rfl rfl (Nat.le_of_ble_eq_true rfl) rfl d_GrantServerModel_exchange_163 (fun f33 H locs e34 hM hS => ?_)
                          have hfr := hfr.put e34; have hmo : mo k f33 h ad sk (upd v 22 (nI (nf + 1))) c := hmo.put e34
                          refine lv_aload_n hx hb d_GrantServerModel_exchange_166 rfl (lv_at hl 2 rfl) ?_
                          refine hm_get X hK hM hmo.1 fl_GrantServerModel_48 (v := .ref (ad 19)) rfl d_GrantServerModel_exchange_167 ?_
                          refine lv_iload hx hb d_GrantServerModel_exchange_170 (lv_at hl 0 rfl) ?_
                          refine lv_aload_n hx hb d_GrantServerModel_exchange_172 rfl (lv_at hl 2 rfl) ?_
                          refine hm_get X hK hM hmo.1 fl_GrantServerModel_29 (v := .ref (ad 12)) rfl d_GrantServerModel_exchange_173 ?_
                          refine lv_iload hx hb d_GrantServerModel_exchange_176 (lv_at hl 1 rfl) ?_
                          have g35 : f33 (ad 12) = some (.inl (k 0, 64, .inl (c 12))) := hmo.arr 12 (by decide) (by decide)
                          refine hm_iald X hK hM g35 0 rfl j rfl (by omega) (by decide) d_GrantServerModel_exchange_178 ?_
                          refine hm_top (z := nI (vl 4)) hsc ?_
                          have g36 : f33 (ad 19) = some (.inl (k 0, 520, .inl (c 19))) := hmo.arr 19 (by decide) (by decide)
                          refine hm_iast X hK hM hS g36 0 rfl nf rfl (by omega) (by decide) d_GrantServerModel_exchange_179 (fun f37 H locs e38 hM hS => ?_)
                          have hfr := hfr.ast 19 (by decide) (by decide) e38; have hmo : mo k f37 h ad sk (upd v 22 (nI (nf + 1))) (va_up c 19 (upd (c 19) nf (nI (vl 4)))) := hmo.ast 19 (by decide) (by decide) e38
                          refine lv_aload_n hx hb d_GrantServerModel_exchange_180 rfl (lv_at hl 2 rfl) ?_
                          refine hm_get X hK hM hmo.1 fl_GrantServerModel_51 (v := .ref (ad 20)) rfl d_GrantServerModel_exchange_181 ?_
                          refine lv_iload hx hb d_GrantServerModel_exchange_184 (lv_at hl 0 rfl) ?_
                          refine lv_iload_n hx hb d_GrantServerModel_exchange_186 rfl (lv_at hl 5 rfl) ?_
                          have g39 : f37 (ad 20) = some (.inl (k 0, 520, .inl (c 20))) := hmo.arr 20 (by decide) (by decide)
                          refine hm_iast X hK hM hS g39 0 rfl nf rfl (by omega) (by decide) d_GrantServerModel_exchange_187 (fun f40 H locs e41 hM hS => ?_)
                          have hfr := hfr.ast 20 (by decide) (by decide) e41; have hmo : mo k f40 h ad sk (upd v 22 (nI (nf + 1))) (va_up (va_up c 19 (upd (c 19) nf (nI (vl 4)))) 20 (upd (c 20) nf (nI (vl 1)))) := hmo.ast 20 (by decide) (by decide) e41
                          refine lv_aload_n hx hb d_GrantServerModel_exchange_188 rfl (lv_at hl 2 rfl) ?_
                          refine hm_get X hK hM hmo.1 fl_GrantServerModel_54 (v := .ref (ad 21)) rfl d_GrantServerModel_exchange_189 ?_
                          refine lv_iload hx hb d_GrantServerModel_exchange_192 (lv_at hl 0 rfl) ?_
                          refine lv_iconst (v := 0) hx hb d_GrantServerModel_exchange_194 (by decide) ?_
                          have g42 : f40 (ad 21) = some (.inl (k 1, 520, .inl (c 21))) := hmo.arr 21 (by decide) (by decide)
                          refine hm_zast X hK hM hS g42 1 rfl nf rfl (by omega) (by decide) (y := 0) rfl d_GrantServerModel_exchange_195 (fun f43 H locs e44 hM hS => ?_)
                          have hfr := hfr.ast 21 (by decide) (by decide) e44; have hmo : mo k f43 h ad sk (upd v 22 (nI (nf + 1))) (va_up (va_up (va_up c 19 (upd (c 19) nf (nI (vl 4)))) 20 (upd (c 20) nf (nI (vl 1)))) 21 (upd (c 21) nf 0)) := hmo.ast 21 (by decide) (by decide) e44
                          refine lv_aload_n hx hb d_GrantServerModel_exchange_196 rfl (lv_at hl 2 rfl) ?_
                          refine hm_get X hK hM hmo.1 fl_GrantServerModel_35 (v := .ref (ad 14)) rfl d_GrantServerModel_exchange_197 ?_
                          refine lv_iload hx hb d_GrantServerModel_exchange_200 (lv_at hl 1 rfl) ?_
                          refine lv_iconst (v := 1) hx hb d_GrantServerModel_exchange_202 (by decide) ?_
                          have g45 : f43 (ad 14) = some (.inl (k 1, 64, .inl (c 14))) := hmo.arr 14 (by decide) (by decide)
                          refine hm_zast X hK hM hS g45 1 rfl j rfl (by omega) (by decide) (y := 1) rfl d_GrantServerModel_exchange_203 (fun f46 H locs e47 hM hS => ?_)
                          have hfr := hfr.ast 14 (by decide) (by decide) e47; have hmo : mo k f46 h ad sk (upd v 22 (nI (nf + 1))) (va_up (va_up (va_up (va_up c 19 (upd (c 19) nf (nI (vl 4)))) 20 (upd (c 20) nf (nI (vl 1)))) 21 (upd (c 21) nf 0)) 14 (upd (c 14) j 1)) := hmo.ast 14 (by decide) (by decide) e47
                          refine lv_aload_n hx hb d_GrantServerModel_exchange_204 rfl (lv_at hl 2 rfl) ?_
                          refine hm_get X hK hM hmo.1 fl_GrantServerModel_39 (v := .ref (ad 15)) rfl d_GrantServerModel_exchange_205 ?_
                          refine lv_iload hx hb d_GrantServerModel_exchange_208 (lv_at hl 1 rfl) ?_
                          refine lv_iload hx hb d_GrantServerModel_exchange_210 (lv_at hl 0 rfl) ?_
                          have g48 : f46 (ad 15) = some (.inl (k 0, 64, .inl (c 15))) := hmo.arr 15 (by decide) (by decide)
                          refine hm_iast X hK hM hS g48 0 rfl j rfl (by omega) (by decide) d_GrantServerModel_exchange_212 (fun f49 H locs e50 hM hS => ?_)
                          have hfr := hfr.ast 15 (by decide) (by decide) e50; have hmo : mo k f49 h ad sk (upd v 22 (nI (nf + 1))) (va_up (va_up (va_up (va_up (va_up c 19 (upd (c 19) nf (nI (vl 4)))) 20 (upd (c 20) nf (nI (vl 1)))) 21 (upd (c 21) nf 0)) 14 (upd (c 14) j 1)) 15 (upd (c 15) j (nI nf))) := hmo.ast 15 (by decide) (by decide) e50
                          refine lv_aload_n hx hb d_GrantServerModel_exchange_213 rfl (lv_at hl 2 rfl) ?_
                          refine lv_aload_n hx hb d_GrantServerModel_exchange_214 rfl (lv_at hl 2 rfl) ?_
                          refine hm_get X hK hM hmo.1 fl_GrantServerModel_19 (v := .int (v 9)) rfl d_GrantServerModel_exchange_215 ?_
                          refine hm_top (z := nI (vl 0)) hu0 ?_
                          refine lv_iload hx hb d_GrantServerModel_exchange_218 (lv_at hl 0 rfl) ?_
                          refine lv_iload hx hb d_GrantServerModel_exchange_220 (lv_at hl 6 rfl) ?_
                          refine lv_aload_n hx hb d_GrantServerModel_exchange_222 rfl (lv_at hl 2 rfl) ?_
                          refine hm_get X hK hM hmo.1 fl_GrantServerModel_29 (v := .ref (ad 12)) rfl d_GrantServerModel_exchange_223 ?_
                          refine lv_iload hx hb d_GrantServerModel_exchange_226 (lv_at hl 1 rfl) ?_
                          have g51 : f49 (ad 12) = some (.inl (k 0, 64, .inl (c 12))) := hmo.arr 12 (by decide) (by decide)
                          refine hm_iald X hK hM g51 0 rfl j rfl (by omega) (by decide) d_GrantServerModel_exchange_228 ?_
                          refine hm_top (z := nI (vl 4)) hsc ?_
                          refine hm_calli hS hM hA (va_runV (As := [.int (nI (vl 0)), .int (nI nf), .int n, .int (nI (vl 4))]) (rest := []) X (m_c_grant l D k f49 h ad sk (upd v 22 (nI (nf + 1))) (va_up (va_up (va_up (va_up (va_up c 19 (upd (c 19) nf (nI (vl 4)))) 20 (upd (c 20) nf (nI (vl 1)))) 21 (upd (c 21) nf 0)) 14 (upd (c 14) j 1)) 15 (upd (c 15) j (nI nf))) nf n vl K ja jb hmo hnf9 hra hrb hja hjb pk_us hen hmd hKd hvl hsz H.size) (hm_cwV hts me_GrantServerModel_grant wl_GrantServerModel_141 rfl rfl ⟨Nat.le_of_ble_eq_true rfl, Nat.le_of_ble_eq_true rfl⟩) (hm_preV hM hK hmo.1 rfl) rfl rfl hl.1 rfl (lv_room (Nat.le_of_ble_eq_true rfl)) d_GrantServerModel_exchange_229 ⟨Nat.le_of_ble_eq_true rfl, Nat.le_of_ble_eq_true rfl⟩) (fun r54 f52 H locs p53 hM hS => ?_)
                          obtain ⟨x55, x56, rfl, h57, h58, h59, hmo, hfr60⟩ := p53
                          have hfr := hfr.tr hfr60
                          have hmo : mo k f52 h ad sk (upd (upd (upd (upd v 22 (nI (nf + 1))) 18 (nI (vl 3))) 28 (nI (z_tot K))) 26 (nI ((z_tot K * 8 + 5) / 6 + 11))) (va_up (va_up (m_put (m_put (va_up (va_up (va_up (va_up (va_up c 19 (upd (c 19) nf (nI (vl 4)))) 20 (upd (c 20) nf (nI (vl 1)))) 21 (upd (c 21) nf 0)) 14 (upd (c 14) j 1)) 15 (upd (c 15) j (nI nf))) ja n (nI (vl 0)) ((va_up (va_up (va_up (va_up (va_up c 19 (upd (c 19) nf (nI (vl 4)))) 20 (upd (c 20) nf (nI (vl 1)))) 21 (upd (c 21) nf 0)) 14 (upd (c 14) j 1)) 15 (upd (c 15) j (nI nf))) 19 nf) ((upd v 22 (nI (nf + 1))) 4 + (upd v 22 (nI (nf + 1))) 3) (nI nf)) jb (nI (vl 3)) (nI (vl 0)) (nI (vl 4)) ((upd v 22 (nI (nf + 1))) 4 + (upd v 22 (nI (nf + 1))) 2) (nI nf)) 27 x55) 25 x56) := hmo
                          exact hm_iret X hQ hr hlk hK hM hS d_GrantServerModel_exchange_232 ⟨x55, x56, rfl, h57, h58, h59, hmo, hfr⟩
                        · exact absurd (by simp [a_ex, h1, Int32.not_lt.mpr h1, h2, Int32.not_lt.mp h2, h3, Int32.not_lt.mpr h3, h7, Int32.not_lt.mp h7, h9, h11, h13, Int32.not_le.mp h13, h15, h20, h24, h28, Int32.not_lt.mp h28, h32, Int32.not_le.mp h32, m_fu_0 h28, m_fu_1 (Int32.not_le.mp h32)]) (show ¬ ¬ a_ex (c 13 j) (v 4) (c 16 j) red (c 17 j) ((m_hash (c 23) nn nn).toInt32) (m_free (c 10) n) (m_fu (m_roomF (c 10) 24 16)) (m_fu (m_roomF (c 10) 24 40)) = 0 from fun z => z hok0)
                    · exact absurd (by simp [a_ex, h1, Int32.not_lt.mpr h1, h2, Int32.not_lt.mp h2, h3, Int32.not_lt.mpr h3, h7, Int32.not_lt.mp h7, h9, h11, h13, Int32.not_le.mp h13, h15, h20, h24]) (show ¬ ¬ a_ex (c 13 j) (v 4) (c 16 j) red (c 17 j) ((m_hash (c 23) nn nn).toInt32) (m_free (c 10) n) (m_fu (m_roomF (c 10) 24 16)) (m_fu (m_roomF (c 10) 24 40)) = 0 from fun z => z hok0)
                  · exact absurd (by simp [a_ex, h1, Int32.not_lt.mpr h1, h2, Int32.not_lt.mp h2, h3, Int32.not_lt.mpr h3, h7, Int32.not_lt.mp h7, h9, h11, h13, Int32.not_le.mp h13, h15, h20]) (show ¬ ¬ a_ex (c 13 j) (v 4) (c 16 j) red (c 17 j) ((m_hash (c 23) nn nn).toInt32) (m_free (c 10) n) (m_fu (m_roomF (c 10) 24 16)) (m_fu (m_roomF (c 10) 24 40)) = 0 from fun z => z hok0)
            · exact absurd hov h11
          · exact absurd ho h9
      · exact absurd (nI_le (b := 3) ha2 (by decide)) h3
  · exact absurd (Int32.not_lt.mp hu) h1
set_option maxHeartbeats 4000000 in
set_option maxRecDepth 100000 in
theorem m_c_rf_nf (l : Launch) (D : va_G) (k : Nat → ClassId) (f : hm) (h : Nat) (ad : Nat → Nat) (sk : Int64) (v : Nat → Int32) (c : Nat → Nat → Int32) (co : Int32) (sc : Int32) (n : Int32) (hmo : mo k f h ad sk v c) (hu : ¬ v 9 < 0) (hf : m_findF (c 10) co 24 16 < 0) : hm_Mi l D vwCl (tyL k) y_GrantServerModel_refresh (Cond.code y_GrantServerModel_refresh b_GrantServerModel_refresh 6 (some .int) :: TB) ({ frames := 2, cells := 0, slots := 0, locals := 43 }) [.ref h, .int co, .int sc, .int n] f (fun (r : Int32) (f1 : hm) => (-3) = r ∧ f = f1) 0 0 := by
  refine hm_enter (Qc := fun sz => va_Qi _ (hm_R D vwCl (tyL k) f sz) (hm_A f sz)) (by decide) rfl (Nat.le_of_ble_eq_true rfl) ?_
  intro pg e s m below meth cd ls X0 hr hlk hin hK hM hS hA hl Q hQ
  have X : CallFix pg m cd b_GrantServerModel_refresh 6 s ([.ref h, .int co, .int sc, .int n] : List Value).toArray TB R_GrantServerModel := ⟨X0.1, X0.2.1, X0.2.2.1, X0.2.2.2.1, fun w h => X0.2.2.2.2 w (List.mem_cons_of_mem _ h)⟩
  have hx := X.1; have hb := X.2.1; have hml := X.2.2.1; have hown := X.2.2.2.1; have hts := X.2.2.2.2
  have hl : lv_has ls 6 [(0, .ref h), (1, .int co), (2, .int sc), (3, .int n)] := hl
  have hfr : mo_fr h ad f f := mo_fr.rf
  refine lv_aload_n hx hb d_GrantServerModel_refresh_0 rfl (lv_at hl 0 rfl) ?_
  refine hm_get X hK hM hmo.1 fl_GrantServerModel_19 (v := .int (v 9)) rfl d_GrantServerModel_refresh_1 ?_
  refine lv_if_ge (tgt := 10) hx hb d_GrantServerModel_refresh_4 (by decide) (fun h1 => ?_) (fun h1 => ?_)
  · refine lv_aload_n hx hb d_GrantServerModel_refresh_10 rfl (lv_at hl 0 rfl) ?_
    refine lv_iconst (v := 1) hx hb d_GrantServerModel_refresh_11 (by decide) ?_
    refine lv_iload_n hx hb d_GrantServerModel_refresh_12 rfl (lv_at hl 1 rfl) ?_
    refine hm_calli hS hM hA (va_runV (As := [.int 1, .int co]) (rest := []) X (m_c_find l D k f h ad sk v c 1 co hmo  s.heap.size) (hm_cwV hts me_GrantServerModel_find wl_GrantServerModel_100 rfl rfl ⟨Nat.le_of_ble_eq_true rfl, Nat.le_of_ble_eq_true rfl⟩) (hm_preV hM hK hmo.1 rfl) rfl rfl hl.1 rfl (lv_room (Nat.le_of_ble_eq_true rfl)) d_GrantServerModel_refresh_13 ⟨Nat.le_of_ble_eq_true rfl, Nat.le_of_ble_eq_true rfl⟩) (fun r4 f2 H locs p3 hM hS => ?_)
    obtain ⟨rfl, rfl⟩ := p3
    refine hm_top (z := m_findF (c 10) co 24 16) (by simp [m_toN, m_fromN]) ?_
    refine lv_istore (lv' := [(4, .int (m_findF (c 10) co 24 16)), (0, .ref h), (1, .int co), (2, .int sc), (3, .int n)]) hx hb d_GrantServerModel_refresh_16 hl (by decide) rfl (fun ls hl => ?_)
    refine lv_iload hx hb d_GrantServerModel_refresh_18 (lv_at hl 0 rfl) ?_
    refine lv_if_lt (tgt := 37) hx hb d_GrantServerModel_refresh_20 (by decide) (fun h5 => ?_) (fun h5 => ?_)
    · refine lv_bipush (v := (-3)) hx hb d_GrantServerModel_refresh_37 (by decide) ?_
      exact hm_iret X hQ hr hlk hK hM hS d_GrantServerModel_refresh_39 ⟨rfl, rfl⟩
    · exact absurd hf h5
  · exact absurd (Int32.not_lt.mp hu) h1
set_option maxHeartbeats 4000000 in
set_option maxRecDepth 100000 in
theorem m_c_rf_own (l : Launch) (D : va_G) (k : Nat → ClassId) (f : hm) (h : Nat) (ad : Nat → Nat) (sk : Int64) (v : Nat → Int32) (c : Nat → Nat → Int32) (co : Int32) (sc : Int32) (n : Int32) (j : Nat) (hmo : mo k f h ad sk v c) (hu : ¬ v 9 < 0) (hf : m_findF (c 10) co 24 16 = nI j) (hj : j < 64) (ho : ¬ c 11 j = v 9) : hm_Mi l D vwCl (tyL k) y_GrantServerModel_refresh (Cond.code y_GrantServerModel_refresh b_GrantServerModel_refresh 6 (some .int) :: TB) ({ frames := 2, cells := 0, slots := 0, locals := 43 }) [.ref h, .int co, .int sc, .int n] f (fun (r : Int32) (f1 : hm) => (-3) = r ∧ f = f1) 0 0 := by
  refine hm_enter (Qc := fun sz => va_Qi _ (hm_R D vwCl (tyL k) f sz) (hm_A f sz)) (by decide) rfl (Nat.le_of_ble_eq_true rfl) ?_
  intro pg e s m below meth cd ls X0 hr hlk hin hK hM hS hA hl Q hQ
  have X : CallFix pg m cd b_GrantServerModel_refresh 6 s ([.ref h, .int co, .int sc, .int n] : List Value).toArray TB R_GrantServerModel := ⟨X0.1, X0.2.1, X0.2.2.1, X0.2.2.2.1, fun w h => X0.2.2.2.2 w (List.mem_cons_of_mem _ h)⟩
  have hx := X.1; have hb := X.2.1; have hml := X.2.2.1; have hown := X.2.2.2.1; have hts := X.2.2.2.2
  have hl : lv_has ls 6 [(0, .ref h), (1, .int co), (2, .int sc), (3, .int n)] := hl
  have hfr : mo_fr h ad f f := mo_fr.rf
  refine lv_aload_n hx hb d_GrantServerModel_refresh_0 rfl (lv_at hl 0 rfl) ?_
  refine hm_get X hK hM hmo.1 fl_GrantServerModel_19 (v := .int (v 9)) rfl d_GrantServerModel_refresh_1 ?_
  refine lv_if_ge (tgt := 10) hx hb d_GrantServerModel_refresh_4 (by decide) (fun h1 => ?_) (fun h1 => ?_)
  · refine lv_aload_n hx hb d_GrantServerModel_refresh_10 rfl (lv_at hl 0 rfl) ?_
    refine lv_iconst (v := 1) hx hb d_GrantServerModel_refresh_11 (by decide) ?_
    refine lv_iload_n hx hb d_GrantServerModel_refresh_12 rfl (lv_at hl 1 rfl) ?_
    refine hm_calli hS hM hA (va_runV (As := [.int 1, .int co]) (rest := []) X (m_c_find l D k f h ad sk v c 1 co hmo  s.heap.size) (hm_cwV hts me_GrantServerModel_find wl_GrantServerModel_100 rfl rfl ⟨Nat.le_of_ble_eq_true rfl, Nat.le_of_ble_eq_true rfl⟩) (hm_preV hM hK hmo.1 rfl) rfl rfl hl.1 rfl (lv_room (Nat.le_of_ble_eq_true rfl)) d_GrantServerModel_refresh_13 ⟨Nat.le_of_ble_eq_true rfl, Nat.le_of_ble_eq_true rfl⟩) (fun r4 f2 H locs p3 hM hS => ?_)
    obtain ⟨rfl, rfl⟩ := p3
    refine hm_top (z := m_findF (c 10) co 24 16) (by simp [m_toN, m_fromN]) ?_
    refine hm_top (z := nI j) hf ?_
    refine lv_istore (lv' := [(4, .int (nI j)), (0, .ref h), (1, .int co), (2, .int sc), (3, .int n)]) hx hb d_GrantServerModel_refresh_16 hl (by decide) rfl (fun ls hl => ?_)
    refine lv_iload hx hb d_GrantServerModel_refresh_18 (lv_at hl 0 rfl) ?_
    refine lv_if_lt (tgt := 37) hx hb d_GrantServerModel_refresh_20 (by decide) (fun h5 => ?_) (fun h5 => ?_)
    · exact absurd h5 (nI_pos (by omega))
    · refine lv_aload_n hx hb d_GrantServerModel_refresh_23 rfl (lv_at hl 1 rfl) ?_
      refine hm_get X hK hM hmo.1 fl_GrantServerModel_26 (v := .ref (ad 11)) rfl d_GrantServerModel_refresh_24 ?_
      refine lv_iload hx hb d_GrantServerModel_refresh_27 (lv_at hl 0 rfl) ?_
      have g6 : f (ad 11) = some (.inl (k 0, 64, .inl (c 11))) := hmo.arr 11 (by decide) (by decide)
      refine hm_iald X hK hM g6 0 rfl j rfl (by omega) (by decide) d_GrantServerModel_refresh_29 ?_
      refine lv_aload_n hx hb d_GrantServerModel_refresh_30 rfl (lv_at hl 1 rfl) ?_
      refine hm_get X hK hM hmo.1 fl_GrantServerModel_19 (v := .int (v 9)) rfl d_GrantServerModel_refresh_31 ?_
      refine lv_icmp_eq (tgt := 40) hx hb d_GrantServerModel_refresh_34 (by decide) (fun h7 => ?_) (fun h7 => ?_)
      · exact absurd h7 ho
      · refine lv_bipush (v := (-3)) hx hb d_GrantServerModel_refresh_37 (by decide) ?_
        exact hm_iret X hQ hr hlk hK hM hS d_GrantServerModel_refresh_39 ⟨rfl, rfl⟩
  · exact absurd (Int32.not_lt.mp hu) h1
set_option maxHeartbeats 4000000 in
set_option maxRecDepth 100000 in
theorem m_c_rf_rep (l : Launch) (D : va_G) (k : Nat → ClassId) (f : hm) (h : Nat) (ad : Nat → Nat) (sk : Int64) (v : Nat → Int32) (c : Nat → Nat → Int32) (co : Int32) (sc : Int32) (n : Int32) (j : Nat) (t : Nat) (hmo : mo k f h ad sk v c) (hu : ¬ v 9 < 0) (hf : m_findF (c 10) co 24 16 = nI j) (hj : j < 64) (ho : c 11 j = v 9) (hov : ¬ c 14 j = 0) (hft : c 15 j = nI t) (ht : t < 520) : hm_Mi l D vwCl (tyL k) y_GrantServerModel_refresh (Cond.code y_GrantServerModel_refresh b_GrantServerModel_refresh 6 (some .int) :: TB) ({ frames := 2, cells := 0, slots := 0, locals := 43 }) [.ref h, .int co, .int sc, .int n] f (fun (r : Int32) (f1 : hm) => (-3) = r ∧ mo k f1 h ad sk v (va_up c 21 (upd (c 21) t 1)) ∧ mo_fr h ad f f1) 0 0 := by
  refine hm_enter (Qc := fun sz => va_Qi _ (hm_R D vwCl (tyL k) f sz) (hm_A f sz)) (by decide) rfl (Nat.le_of_ble_eq_true rfl) ?_
  intro pg e s m below meth cd ls X0 hr hlk hin hK hM hS hA hl Q hQ
  have X : CallFix pg m cd b_GrantServerModel_refresh 6 s ([.ref h, .int co, .int sc, .int n] : List Value).toArray TB R_GrantServerModel := ⟨X0.1, X0.2.1, X0.2.2.1, X0.2.2.2.1, fun w h => X0.2.2.2.2 w (List.mem_cons_of_mem _ h)⟩
  have hx := X.1; have hb := X.2.1; have hml := X.2.2.1; have hown := X.2.2.2.1; have hts := X.2.2.2.2
  have hl : lv_has ls 6 [(0, .ref h), (1, .int co), (2, .int sc), (3, .int n)] := hl
  have hfr : mo_fr h ad f f := mo_fr.rf
  refine lv_aload_n hx hb d_GrantServerModel_refresh_0 rfl (lv_at hl 0 rfl) ?_
  refine hm_get X hK hM hmo.1 fl_GrantServerModel_19 (v := .int (v 9)) rfl d_GrantServerModel_refresh_1 ?_
  refine lv_if_ge (tgt := 10) hx hb d_GrantServerModel_refresh_4 (by decide) (fun h1 => ?_) (fun h1 => ?_)
  · refine lv_aload_n hx hb d_GrantServerModel_refresh_10 rfl (lv_at hl 0 rfl) ?_
    refine lv_iconst (v := 1) hx hb d_GrantServerModel_refresh_11 (by decide) ?_
    refine lv_iload_n hx hb d_GrantServerModel_refresh_12 rfl (lv_at hl 1 rfl) ?_
    refine hm_calli hS hM hA (va_runV (As := [.int 1, .int co]) (rest := []) X (m_c_find l D k f h ad sk v c 1 co hmo  s.heap.size) (hm_cwV hts me_GrantServerModel_find wl_GrantServerModel_100 rfl rfl ⟨Nat.le_of_ble_eq_true rfl, Nat.le_of_ble_eq_true rfl⟩) (hm_preV hM hK hmo.1 rfl) rfl rfl hl.1 rfl (lv_room (Nat.le_of_ble_eq_true rfl)) d_GrantServerModel_refresh_13 ⟨Nat.le_of_ble_eq_true rfl, Nat.le_of_ble_eq_true rfl⟩) (fun r4 f2 H locs p3 hM hS => ?_)
    obtain ⟨rfl, rfl⟩ := p3
    refine hm_top (z := m_findF (c 10) co 24 16) (by simp [m_toN, m_fromN]) ?_
    refine hm_top (z := nI j) hf ?_
    refine lv_istore (lv' := [(4, .int (nI j)), (0, .ref h), (1, .int co), (2, .int sc), (3, .int n)]) hx hb d_GrantServerModel_refresh_16 hl (by decide) rfl (fun ls hl => ?_)
    refine lv_iload hx hb d_GrantServerModel_refresh_18 (lv_at hl 0 rfl) ?_
    refine lv_if_lt (tgt := 37) hx hb d_GrantServerModel_refresh_20 (by decide) (fun h5 => ?_) (fun h5 => ?_)
    · exact absurd h5 (nI_pos (by omega))
    · refine lv_aload_n hx hb d_GrantServerModel_refresh_23 rfl (lv_at hl 1 rfl) ?_
      refine hm_get X hK hM hmo.1 fl_GrantServerModel_26 (v := .ref (ad 11)) rfl d_GrantServerModel_refresh_24 ?_
      refine lv_iload hx hb d_GrantServerModel_refresh_27 (lv_at hl 0 rfl) ?_
      have g6 : f (ad 11) = some (.inl (k 0, 64, .inl (c 11))) := hmo.arr 11 (by decide) (by decide)
      refine hm_iald X hK hM g6 0 rfl j rfl (by omega) (by decide) d_GrantServerModel_refresh_29 ?_
      refine lv_aload_n hx hb d_GrantServerModel_refresh_30 rfl (lv_at hl 1 rfl) ?_
      refine hm_get X hK hM hmo.1 fl_GrantServerModel_19 (v := .int (v 9)) rfl d_GrantServerModel_refresh_31 ?_
      refine lv_icmp_eq (tgt := 40) hx hb d_GrantServerModel_refresh_34 (by decide) (fun h7 => ?_) (fun h7 => ?_)
      · refine lv_aload_n hx hb d_GrantServerModel_refresh_40 rfl (lv_at hl 1 rfl) ?_
        refine hm_get X hK hM hmo.1 fl_GrantServerModel_35 (v := .ref (ad 14)) rfl d_GrantServerModel_refresh_41 ?_
        refine lv_iload hx hb d_GrantServerModel_refresh_44 (lv_at hl 0 rfl) ?_
        have g8 : f (ad 14) = some (.inl (k 1, 64, .inl (c 14))) := hmo.arr 14 (by decide) (by decide)
        refine hm_zald X hK hM g8 1 rfl j rfl (by omega) (by decide) d_GrantServerModel_refresh_46 ?_
        refine lv_if_eq (tgt := 66) hx hb d_GrantServerModel_refresh_47 (by decide) (fun h9 => ?_) (fun h9 => ?_)
        · exact absurd h9 hov
        · refine lv_aload_n hx hb d_GrantServerModel_refresh_50 rfl (lv_at hl 1 rfl) ?_
          refine hm_get X hK hM hmo.1 fl_GrantServerModel_54 (v := .ref (ad 21)) rfl d_GrantServerModel_refresh_51 ?_
          refine lv_aload_n hx hb d_GrantServerModel_refresh_54 rfl (lv_at hl 1 rfl) ?_
          refine hm_get X hK hM hmo.1 fl_GrantServerModel_39 (v := .ref (ad 15)) rfl d_GrantServerModel_refresh_55 ?_
          refine lv_iload hx hb d_GrantServerModel_refresh_58 (lv_at hl 0 rfl) ?_
          have g10 : f (ad 15) = some (.inl (k 0, 64, .inl (c 15))) := hmo.arr 15 (by decide) (by decide)
          refine hm_iald X hK hM g10 0 rfl j rfl (by omega) (by decide) d_GrantServerModel_refresh_60 ?_
          refine lv_iconst (v := 1) hx hb d_GrantServerModel_refresh_61 (by decide) ?_
          have g11 : f (ad 21) = some (.inl (k 1, 520, .inl (c 21))) := hmo.arr 21 (by decide) (by decide)
          refine hm_zast X hK hM hS g11 1 rfl t hft ht (by decide) (y := 1) rfl d_GrantServerModel_refresh_62 (fun f12 H locs e13 hM hS => ?_)
          have hfr := hfr.ast 21 (by decide) (by decide) e13; have hmo : mo k f12 h ad sk v (va_up c 21 (upd (c 21) t 1)) := hmo.ast 21 (by decide) (by decide) e13
          refine lv_bipush (v := (-3)) hx hb d_GrantServerModel_refresh_63 (by decide) ?_
          exact hm_iret X hQ hr hlk hK hM hS d_GrantServerModel_refresh_65 ⟨rfl, hmo, hfr⟩
      · exact absurd ho h7
  · exact absurd (Int32.not_lt.mp hu) h1
set_option maxHeartbeats 4000000 in
set_option maxRecDepth 100000 in
theorem m_c_rf_no (l : Launch) (D : va_G) (k : Nat → ClassId) (f : hm) (h : Nat) (ad : Nat → Nat) (sk : Int64) (v : Nat → Int32) (c : Nat → Nat → Int32) (co : Int32) (sc : Int32) (n : Int32) (j : Nat) (t : Nat) (hmo : mo k f h ad sk v c) (hu : ¬ v 9 < 0) (hf : m_findF (c 10) co 24 16 = nI j) (hj : j < 64) (ho : c 11 j = v 9) (hov : c 14 j = 0) (hft : c 15 j = nI t) (ht : t < 520) (hne : ¬ a_rf (m_act v c j) sc (c 19 t) (m_free (c 10) n) (m_fu (m_roomF (c 10) 24 16)) (m_fu (m_roomF (c 10) 24 40)) = 0) : hm_Mi l D vwCl (tyL k) y_GrantServerModel_refresh (Cond.code y_GrantServerModel_refresh b_GrantServerModel_refresh 6 (some .int) :: TB) ({ frames := 3, cells := 0, slots := 0, locals := 64 }) [.ref h, .int co, .int sc, .int n] f (fun (r : Int32) (f1 : hm) => a_rf (m_act v c j) sc (c 19 t) (m_free (c 10) n) (m_fu (m_roomF (c 10) 24 16)) (m_fu (m_roomF (c 10) 24 40)) = r ∧ f = f1) 0 0 := by
  refine hm_enter (Qc := fun sz => va_Qi _ (hm_R D vwCl (tyL k) f sz) (hm_A f sz)) (by decide) rfl (Nat.le_of_ble_eq_true rfl) ?_
  intro pg e s m below meth cd ls X0 hr hlk hin hK hM hS hA hl Q hQ
  have X : CallFix pg m cd b_GrantServerModel_refresh 6 s ([.ref h, .int co, .int sc, .int n] : List Value).toArray TB R_GrantServerModel := ⟨X0.1, X0.2.1, X0.2.2.1, X0.2.2.2.1, fun w h => X0.2.2.2.2 w (List.mem_cons_of_mem _ h)⟩
  have hx := X.1; have hb := X.2.1; have hml := X.2.2.1; have hown := X.2.2.2.1; have hts := X.2.2.2.2
  have hl : lv_has ls 6 [(0, .ref h), (1, .int co), (2, .int sc), (3, .int n)] := hl
  have hfr : mo_fr h ad f f := mo_fr.rf
  refine lv_aload_n hx hb d_GrantServerModel_refresh_0 rfl (lv_at hl 0 rfl) ?_
  refine hm_get X hK hM hmo.1 fl_GrantServerModel_19 (v := .int (v 9)) rfl d_GrantServerModel_refresh_1 ?_
  refine lv_if_ge (tgt := 10) hx hb d_GrantServerModel_refresh_4 (by decide) (fun h1 => ?_) (fun h1 => ?_)
  · refine lv_aload_n hx hb d_GrantServerModel_refresh_10 rfl (lv_at hl 0 rfl) ?_
    refine lv_iconst (v := 1) hx hb d_GrantServerModel_refresh_11 (by decide) ?_
    refine lv_iload_n hx hb d_GrantServerModel_refresh_12 rfl (lv_at hl 1 rfl) ?_
    refine hm_calli hS hM hA (va_runV (As := [.int 1, .int co]) (rest := []) X (m_c_find l D k f h ad sk v c 1 co hmo  s.heap.size) (hm_cwV hts me_GrantServerModel_find wl_GrantServerModel_100 rfl rfl ⟨Nat.le_of_ble_eq_true rfl, Nat.le_of_ble_eq_true rfl⟩) (hm_preV hM hK hmo.1 rfl) rfl rfl hl.1 rfl (lv_room (Nat.le_of_ble_eq_true rfl)) d_GrantServerModel_refresh_13 ⟨Nat.le_of_ble_eq_true rfl, Nat.le_of_ble_eq_true rfl⟩) (fun r4 f2 H locs p3 hM hS => ?_)
    obtain ⟨rfl, rfl⟩ := p3
    refine hm_top (z := m_findF (c 10) co 24 16) (by simp [m_toN, m_fromN]) ?_
    refine hm_top (z := nI j) hf ?_
    refine lv_istore (lv' := [(4, .int (nI j)), (0, .ref h), (1, .int co), (2, .int sc), (3, .int n)]) hx hb d_GrantServerModel_refresh_16 hl (by decide) rfl (fun ls hl => ?_)
    refine lv_iload hx hb d_GrantServerModel_refresh_18 (lv_at hl 0 rfl) ?_
    refine lv_if_lt (tgt := 37) hx hb d_GrantServerModel_refresh_20 (by decide) (fun h5 => ?_) (fun h5 => ?_)
    · exact absurd h5 (nI_pos (by omega))
    · refine lv_aload_n hx hb d_GrantServerModel_refresh_23 rfl (lv_at hl 1 rfl) ?_
      refine hm_get X hK hM hmo.1 fl_GrantServerModel_26 (v := .ref (ad 11)) rfl d_GrantServerModel_refresh_24 ?_
      refine lv_iload hx hb d_GrantServerModel_refresh_27 (lv_at hl 0 rfl) ?_
      have g6 : f (ad 11) = some (.inl (k 0, 64, .inl (c 11))) := hmo.arr 11 (by decide) (by decide)
      refine hm_iald X hK hM g6 0 rfl j rfl (by omega) (by decide) d_GrantServerModel_refresh_29 ?_
      refine lv_aload_n hx hb d_GrantServerModel_refresh_30 rfl (lv_at hl 1 rfl) ?_
      refine hm_get X hK hM hmo.1 fl_GrantServerModel_19 (v := .int (v 9)) rfl d_GrantServerModel_refresh_31 ?_
      refine lv_icmp_eq (tgt := 40) hx hb d_GrantServerModel_refresh_34 (by decide) (fun h7 => ?_) (fun h7 => ?_)
      · refine lv_aload_n hx hb d_GrantServerModel_refresh_40 rfl (lv_at hl 1 rfl) ?_
        refine hm_get X hK hM hmo.1 fl_GrantServerModel_35 (v := .ref (ad 14)) rfl d_GrantServerModel_refresh_41 ?_
        refine lv_iload hx hb d_GrantServerModel_refresh_44 (lv_at hl 0 rfl) ?_
        have g8 : f (ad 14) = some (.inl (k 1, 64, .inl (c 14))) := hmo.arr 14 (by decide) (by decide)
        refine hm_zald X hK hM g8 1 rfl j rfl (by omega) (by decide) d_GrantServerModel_refresh_46 ?_
        refine lv_if_eq (tgt := 66) hx hb d_GrantServerModel_refresh_47 (by decide) (fun h9 => ?_) (fun h9 => ?_)
        · refine lv_aload_n hx hb d_GrantServerModel_refresh_66 rfl (lv_at hl 1 rfl) ?_
          refine lv_iload hx hb d_GrantServerModel_refresh_67 (lv_at hl 0 rfl) ?_
          refine hm_calli hS hM hA (va_runV (As := [.int (nI j)]) (rest := []) X (m_c_isActive l D k f h ad sk v c j hmo (by omega) (Or.inr ⟨t, ht, hft⟩) H.size) (hm_cwV hts me_GrantServerModel_isActive wl_GrantServerModel_145 rfl rfl ⟨Nat.le_of_ble_eq_true rfl, Nat.le_of_ble_eq_true rfl⟩) (hm_preV hM hK hmo.1 rfl) rfl rfl hl.1 rfl (lv_room (Nat.le_of_ble_eq_true rfl)) d_GrantServerModel_refresh_69 ⟨Nat.le_of_ble_eq_true rfl, Nat.le_of_ble_eq_true rfl⟩) (fun r12 f10 H locs p11 hM hS => ?_)
          obtain ⟨rfl, rfl⟩ := p11
          refine lv_if_ne (tgt := 78) hx hb d_GrantServerModel_refresh_72 (by decide) (fun h13 => ?_) (fun h13 => ?_)
          · refine lv_aload_n hx hb d_GrantServerModel_refresh_78 rfl (lv_at hl 1 rfl) ?_
            refine hm_get X hK hM hmo.1 fl_GrantServerModel_39 (v := .ref (ad 15)) rfl d_GrantServerModel_refresh_79 ?_
            refine lv_iload hx hb d_GrantServerModel_refresh_82 (lv_at hl 0 rfl) ?_
            have g14 : f (ad 15) = some (.inl (k 0, 64, .inl (c 15))) := hmo.arr 15 (by decide) (by decide)
            refine hm_iald X hK hM g14 0 rfl j rfl (by omega) (by decide) d_GrantServerModel_refresh_84 ?_
            refine hm_top (z := nI t) hft ?_
            refine lv_istore (lv' := [(5, .int (nI t)), (4, .int (nI j)), (0, .ref h), (1, .int co), (2, .int sc), (3, .int n)]) hx hb d_GrantServerModel_refresh_85 hl (by decide) rfl (fun ls hl => ?_)
            refine lv_iload_n hx hb d_GrantServerModel_refresh_87 rfl (lv_at hl 4 rfl) ?_
            refine lv_if_lt (tgt := 111) hx hb d_GrantServerModel_refresh_88 (by decide) (fun h15 => ?_) (fun h15 => ?_)
            · refine lv_bipush (v := (-4)) hx hb d_GrantServerModel_refresh_111 (by decide) ?_
              exact hm_iret X hQ hr hlk hK hM hS d_GrantServerModel_refresh_113 ⟨(by simp [a_rf, h1, Int32.not_lt.mpr h1, h5, Int32.not_lt.mp h5, h7, h9, h13, h15, Int32.not_le.mpr h15]), rfl⟩
            · refine lv_iload_n hx hb d_GrantServerModel_refresh_91 rfl (lv_at hl 4 rfl) ?_
              refine lv_bipush (v := 15) hx hb d_GrantServerModel_refresh_92 (by decide) ?_
              refine lv_icmp_gt (tgt := 111) hx hb d_GrantServerModel_refresh_94 (by decide) (fun h16 => ?_) (fun h16 => ?_)
              · refine lv_bipush (v := (-4)) hx hb d_GrantServerModel_refresh_111 (by decide) ?_
                exact hm_iret X hQ hr hlk hK hM hS d_GrantServerModel_refresh_113 ⟨(by simp [a_rf, h1, Int32.not_lt.mpr h1, h5, Int32.not_lt.mp h5, h7, h9, h13, h15, Int32.not_lt.mp h15, h16, Int32.not_le.mpr h16]), rfl⟩
              · refine lv_iload_n hx hb d_GrantServerModel_refresh_97 rfl (lv_at hl 4 rfl) ?_
                refine lv_aload_n hx hb d_GrantServerModel_refresh_98 rfl (lv_at hl 2 rfl) ?_
                refine hm_get X hK hM hmo.1 fl_GrantServerModel_48 (v := .ref (ad 19)) rfl d_GrantServerModel_refresh_99 ?_
                refine lv_iload hx hb d_GrantServerModel_refresh_102 (lv_at hl 0 rfl) ?_
                have g17 : f (ad 19) = some (.inl (k 0, 520, .inl (c 19))) := hmo.arr 19 (by decide) (by decide)
                refine hm_iald X hK hM g17 0 rfl t rfl ht (by decide) d_GrantServerModel_refresh_104 ?_
                refine lv_iconst (v := (-1)) hx hb d_GrantServerModel_refresh_105 (by decide) ?_
                refine lv_ixor hx hb d_GrantServerModel_refresh_106 ?_
                refine lv_iand hx hb d_GrantServerModel_refresh_107 ?_
                refine lv_if_eq (tgt := 114) hx hb d_GrantServerModel_refresh_108 (by decide) (fun h18 => ?_) (fun h18 => ?_)
                · refine lv_aload_n hx hb d_GrantServerModel_refresh_114 rfl (lv_at hl 2 rfl) ?_
                  refine lv_iload_n hx hb d_GrantServerModel_refresh_115 rfl (lv_at hl 5 rfl) ?_
                  refine hm_calli hS hM hA (va_runV (As := [.int n]) (rest := []) X (m_c_isFree l D k f h ad sk v c n hmo  H.size) (hm_cwV hts me_GrantServerModel_isFree wl_GrantServerModel_108 rfl rfl ⟨Nat.le_of_ble_eq_true rfl, Nat.le_of_ble_eq_true rfl⟩) (hm_preV hM hK hmo.1 rfl) rfl rfl hl.1 rfl (lv_room (Nat.le_of_ble_eq_true rfl)) d_GrantServerModel_refresh_116 ⟨Nat.le_of_ble_eq_true rfl, Nat.le_of_ble_eq_true rfl⟩) (fun r21 f19 H locs p20 hM hS => ?_)
                  obtain ⟨rfl, rfl⟩ := p20
                  refine lv_if_ne (tgt := 125) hx hb d_GrantServerModel_refresh_119 (by decide) (fun h22 => ?_) (fun h22 => ?_)
                  · refine lv_aload_n hx hb d_GrantServerModel_refresh_125 rfl (lv_at hl 2 rfl) ?_
                    refine lv_iconst (v := 1) hx hb d_GrantServerModel_refresh_126 (by decide) ?_
                    refine hm_calli hS hM hA (va_runV (As := [.int 1]) (rest := []) X (m_c_room l D k f h ad sk v c 1 hmo  H.size) (hm_cwV hts me_GrantServerModel_room wl_GrantServerModel_111 rfl rfl ⟨Nat.le_of_ble_eq_true rfl, Nat.le_of_ble_eq_true rfl⟩) (hm_preV hM hK hmo.1 rfl) rfl rfl hl.1 rfl (lv_room (Nat.le_of_ble_eq_true rfl)) d_GrantServerModel_refresh_127 ⟨Nat.le_of_ble_eq_true rfl, Nat.le_of_ble_eq_true rfl⟩) (fun r25 f23 H locs p24 hM hS => ?_)
                    obtain ⟨rfl, rfl⟩ := p24
                    refine hm_top (z := m_roomF (c 10) 24 16) (by simp [m_toN, m_fromN]) ?_
                    refine lv_if_lt (tgt := 141) hx hb d_GrantServerModel_refresh_130 (by decide) (fun h26 => ?_) (fun h26 => ?_)
                    · refine lv_bipush (v := (-6)) hx hb d_GrantServerModel_refresh_141 (by decide) ?_
                      exact hm_iret X hQ hr hlk hK hM hS d_GrantServerModel_refresh_143 ⟨(by simp [a_rf, h1, Int32.not_lt.mpr h1, h5, Int32.not_lt.mp h5, h7, h9, h13, h15, Int32.not_lt.mp h15, h16, Int32.not_lt.mp h16, h18, h22, h26, Int32.not_le.mpr h26, z_wi_1 h18, m_fu_1 h26]), rfl⟩
                    · refine lv_aload_n hx hb d_GrantServerModel_refresh_133 rfl (lv_at hl 2 rfl) ?_
                      refine lv_iconst (v := 2) hx hb d_GrantServerModel_refresh_134 (by decide) ?_
                      refine hm_calli hS hM hA (va_runV (As := [.int 2]) (rest := []) X (m_c_room l D k f h ad sk v c 2 hmo  H.size) (hm_cwV hts me_GrantServerModel_room wl_GrantServerModel_111 rfl rfl ⟨Nat.le_of_ble_eq_true rfl, Nat.le_of_ble_eq_true rfl⟩) (hm_preV hM hK hmo.1 rfl) rfl rfl hl.1 rfl (lv_room (Nat.le_of_ble_eq_true rfl)) d_GrantServerModel_refresh_135 ⟨Nat.le_of_ble_eq_true rfl, Nat.le_of_ble_eq_true rfl⟩) (fun r29 f27 H locs p28 hM hS => ?_)
                      obtain ⟨rfl, rfl⟩ := p28
                      refine hm_top (z := m_roomF (c 10) 24 40) (by simp [m_toN, m_fromN]) ?_
                      refine lv_if_ge (tgt := 144) hx hb d_GrantServerModel_refresh_138 (by decide) (fun h30 => ?_) (fun h30 => ?_)
                      · exact absurd (by simp [a_rf, h1, Int32.not_lt.mpr h1, h5, Int32.not_lt.mp h5, h7, h9, h13, h15, Int32.not_lt.mp h15, h16, Int32.not_lt.mp h16, h18, h22, h26, Int32.not_lt.mp h26, h30, Int32.not_lt.mpr h30, z_wi_1 h18, m_fu_0 h26, m_fu_0 (Int32.not_lt.mpr h30)]) hne
                      · refine lv_bipush (v := (-6)) hx hb d_GrantServerModel_refresh_141 (by decide) ?_
                        exact hm_iret X hQ hr hlk hK hM hS d_GrantServerModel_refresh_143 ⟨(by simp [a_rf, h1, Int32.not_lt.mpr h1, h5, Int32.not_lt.mp h5, h7, h9, h13, h15, Int32.not_lt.mp h15, h16, Int32.not_lt.mp h16, h18, h22, h26, Int32.not_lt.mp h26, h30, Int32.not_le.mp h30, z_wi_1 h18, m_fu_0 h26, m_fu_1 (Int32.not_le.mp h30)]), rfl⟩
                  · refine lv_bipush (v := (-5)) hx hb d_GrantServerModel_refresh_122 (by decide) ?_
                    exact hm_iret X hQ hr hlk hK hM hS d_GrantServerModel_refresh_124 ⟨(by simp [a_rf, h1, Int32.not_lt.mpr h1, h5, Int32.not_lt.mp h5, h7, h9, h13, h15, Int32.not_lt.mp h15, h16, Int32.not_lt.mp h16, h18, h22, z_wi_1 h18]), rfl⟩
                · refine lv_bipush (v := (-4)) hx hb d_GrantServerModel_refresh_111 (by decide) ?_
                  exact hm_iret X hQ hr hlk hK hM hS d_GrantServerModel_refresh_113 ⟨(by simp [a_rf, h1, Int32.not_lt.mpr h1, h5, Int32.not_lt.mp h5, h7, h9, h13, h15, Int32.not_lt.mp h15, h16, Int32.not_lt.mp h16, h18, z_wi_0 h18]), rfl⟩
          · refine lv_bipush (v := (-3)) hx hb d_GrantServerModel_refresh_75 (by decide) ?_
            exact hm_iret X hQ hr hlk hK hM hS d_GrantServerModel_refresh_77 ⟨(by simp [a_rf, h1, Int32.not_lt.mpr h1, h5, Int32.not_lt.mp h5, h7, h9, h13]), rfl⟩
        · exact absurd hov h9
      · exact absurd ho h7
  · exact absurd (Int32.not_lt.mp hu) h1
set_option maxHeartbeats 4000000 in
set_option maxRecDepth 100000 in
theorem m_c_rf (l : Launch) (D : va_G) (k : Nat → ClassId) (f : hm) (h : Nat) (ad : Nat → Nat) (sk : Int64) (v : Nat → Int32) (c : Nat → Nat → Int32) (co : Int32) (sc : Int32) (n : Int32) (j : Nat) (t : Nat) (vl : Nat → Nat) (K : Nat → Nat) (ja : Nat) (jb : Nat) (hmo : mo k f h ad sk v c) (hu : ¬ v 9 < 0) (hf : m_findF (c 10) co 24 16 = nI j) (hj : j < 64) (ho : c 11 j = v 9) (hov : c 14 j = 0) (hft : c 15 j = nI t) (ht : t < 520) (hok0 : a_rf (m_act v c j) sc (c 19 t) (m_free (c 10) n) (m_fu (m_roomF (c 10) 24 16)) (m_fu (m_roomF (c 10) 24 40)) = 0) (hu0 : v 9 = nI (vl 0)) (hs4 : (if sc = 0 then c 19 t else sc) = nI (vl 4)) (hau : c 20 t = nI (vl 1)) (hra : m_roomF (c 10) 24 16 = nI ja) (hrb : m_roomF (c 10) 24 40 = nI jb) (hja : ja < 64) (hjb : jb < 64) (hen : v 4 + v 2 = nI (vl 2)) (hmd : v 18 + 1 = nI (vl 3)) (hKd : ∀ i, i < 5 → z_dg (vl i) (K i)) (hvl : ∀ i, i < 5 → vl i < 2 ^ 31) (hsz : z_tot K ≤ 81) : hm_Mi l D vwCl (tyL k) y_GrantServerModel_refresh (Cond.code y_GrantServerModel_refresh b_GrantServerModel_refresh 6 (some .int) :: TB) ({ frames := 4, cells := 0, slots := 0, locals := 94 }) [.ref h, .int co, .int sc, .int n] f (fun (r : Int32) (f1 : hm) => ∃ (g : Nat → Int32) (g2 : Nat → Int32), nI (vl 3) = r ∧ (∀ i, i < (z_tot K * 8 + 5) / 6 → g2 i = nI (st_chr 6 (z_six (z_tot K) (z_ct vl K) i))) ∧ (g2 ((z_tot K * 8 + 5) / 6) = 46) ∧ (∀ i, i < 10 → g2 ((z_tot K * 8 + 5) / 6 + 1 + i) = m_sign (m_ss (z_seal sk g2 ((z_tot K * 8 + 5) / 6)) i)) ∧ mo k f1 h ad sk (upd (upd (upd v 18 (nI (vl 3))) 28 (nI (z_tot K))) 26 (nI ((z_tot K * 8 + 5) / 6 + 11))) (va_up (va_up (m_put (m_put (va_up c 14 (upd (c 14) j 1)) ja n (nI (vl 0)) ((va_up c 14 (upd (c 14) j 1)) 19 t) ((v) 4 + (v) 3) (nI t)) jb (nI (vl 3)) (nI (vl 0)) (nI (vl 4)) ((v) 4 + (v) 2) (nI t)) 27 g) 25 g2) ∧ mo_fr h ad f f1) 0 0 := by
  refine hm_enter (Qc := fun sz => va_Qi _ (hm_R D vwCl (tyL k) f sz) (hm_A f sz)) (by decide) rfl (Nat.le_of_ble_eq_true rfl) ?_
  intro pg e s m below meth cd ls X0 hr hlk hin hK hM hS hA hl Q hQ
  have X : CallFix pg m cd b_GrantServerModel_refresh 6 s ([.ref h, .int co, .int sc, .int n] : List Value).toArray TB R_GrantServerModel := ⟨X0.1, X0.2.1, X0.2.2.1, X0.2.2.2.1, fun w h => X0.2.2.2.2 w (List.mem_cons_of_mem _ h)⟩
  have hx := X.1; have hb := X.2.1; have hml := X.2.2.1; have hown := X.2.2.2.1; have hts := X.2.2.2.2
  have hl : lv_has ls 6 [(0, .ref h), (1, .int co), (2, .int sc), (3, .int n)] := hl
  have hfr : mo_fr h ad f f := mo_fr.rf
  refine lv_aload_n hx hb d_GrantServerModel_refresh_0 rfl (lv_at hl 0 rfl) ?_
  refine hm_get X hK hM hmo.1 fl_GrantServerModel_19 (v := .int (v 9)) rfl d_GrantServerModel_refresh_1 ?_
  refine lv_if_ge (tgt := 10) hx hb d_GrantServerModel_refresh_4 (by decide) (fun h1 => ?_) (fun h1 => ?_)
  · refine lv_aload_n hx hb d_GrantServerModel_refresh_10 rfl (lv_at hl 0 rfl) ?_
    refine lv_iconst (v := 1) hx hb d_GrantServerModel_refresh_11 (by decide) ?_
    refine lv_iload_n hx hb d_GrantServerModel_refresh_12 rfl (lv_at hl 1 rfl) ?_
    refine hm_calli hS hM hA (va_runV (As := [.int 1, .int co]) (rest := []) X (m_c_find l D k f h ad sk v c 1 co hmo  s.heap.size) (hm_cwV hts me_GrantServerModel_find wl_GrantServerModel_100 rfl rfl ⟨Nat.le_of_ble_eq_true rfl, Nat.le_of_ble_eq_true rfl⟩) (hm_preV hM hK hmo.1 rfl) rfl rfl hl.1 rfl (lv_room (Nat.le_of_ble_eq_true rfl)) d_GrantServerModel_refresh_13 ⟨Nat.le_of_ble_eq_true rfl, Nat.le_of_ble_eq_true rfl⟩) (fun r4 f2 H locs p3 hM hS => ?_)
    obtain ⟨rfl, rfl⟩ := p3
    refine hm_top (z := m_findF (c 10) co 24 16) (by simp [m_toN, m_fromN]) ?_
    refine hm_top (z := nI j) hf ?_
    refine lv_istore (lv' := [(4, .int (nI j)), (0, .ref h), (1, .int co), (2, .int sc), (3, .int n)]) hx hb d_GrantServerModel_refresh_16 hl (by decide) rfl (fun ls hl => ?_)
    refine lv_iload hx hb d_GrantServerModel_refresh_18 (lv_at hl 0 rfl) ?_
    refine lv_if_lt (tgt := 37) hx hb d_GrantServerModel_refresh_20 (by decide) (fun h5 => ?_) (fun h5 => ?_)
    · exact absurd h5 (nI_pos (by omega))
    · refine lv_aload_n hx hb d_GrantServerModel_refresh_23 rfl (lv_at hl 1 rfl) ?_
      refine hm_get X hK hM hmo.1 fl_GrantServerModel_26 (v := .ref (ad 11)) rfl d_GrantServerModel_refresh_24 ?_
      refine lv_iload hx hb d_GrantServerModel_refresh_27 (lv_at hl 0 rfl) ?_
      have g6 : f (ad 11) = some (.inl (k 0, 64, .inl (c 11))) := hmo.arr 11 (by decide) (by decide)
      refine hm_iald X hK hM g6 0 rfl j rfl (by omega) (by decide) d_GrantServerModel_refresh_29 ?_
      refine lv_aload_n hx hb d_GrantServerModel_refresh_30 rfl (lv_at hl 1 rfl) ?_
      refine hm_get X hK hM hmo.1 fl_GrantServerModel_19 (v := .int (v 9)) rfl d_GrantServerModel_refresh_31 ?_
      refine lv_icmp_eq (tgt := 40) hx hb d_GrantServerModel_refresh_34 (by decide) (fun h7 => ?_) (fun h7 => ?_)
      · refine lv_aload_n hx hb d_GrantServerModel_refresh_40 rfl (lv_at hl 1 rfl) ?_
        refine hm_get X hK hM hmo.1 fl_GrantServerModel_35 (v := .ref (ad 14)) rfl d_GrantServerModel_refresh_41 ?_
        refine lv_iload hx hb d_GrantServerModel_refresh_44 (lv_at hl 0 rfl) ?_
        have g8 : f (ad 14) = some (.inl (k 1, 64, .inl (c 14))) := hmo.arr 14 (by decide) (by decide)
        refine hm_zald X hK hM g8 1 rfl j rfl (by omega) (by decide) d_GrantServerModel_refresh_46 ?_
        refine lv_if_eq (tgt := 66) hx hb d_GrantServerModel_refresh_47 (by decide) (fun h9 => ?_) (fun h9 => ?_)
        · refine lv_aload_n hx hb d_GrantServerModel_refresh_66 rfl (lv_at hl 1 rfl) ?_
          refine lv_iload hx hb d_GrantServerModel_refresh_67 (lv_at hl 0 rfl) ?_
          refine hm_calli hS hM hA (va_runV (As := [.int (nI j)]) (rest := []) X (m_c_isActive l D k f h ad sk v c j hmo (by omega) (Or.inr ⟨t, ht, hft⟩) H.size) (hm_cwV hts me_GrantServerModel_isActive wl_GrantServerModel_145 rfl rfl ⟨Nat.le_of_ble_eq_true rfl, Nat.le_of_ble_eq_true rfl⟩) (hm_preV hM hK hmo.1 rfl) rfl rfl hl.1 rfl (lv_room (Nat.le_of_ble_eq_true rfl)) d_GrantServerModel_refresh_69 ⟨Nat.le_of_ble_eq_true rfl, Nat.le_of_ble_eq_true rfl⟩) (fun r12 f10 H locs p11 hM hS => ?_)
          obtain ⟨rfl, rfl⟩ := p11
          refine lv_if_ne (tgt := 78) hx hb d_GrantServerModel_refresh_72 (by decide) (fun h13 => ?_) (fun h13 => ?_)
          · refine lv_aload_n hx hb d_GrantServerModel_refresh_78 rfl (lv_at hl 1 rfl) ?_
            refine hm_get X hK hM hmo.1 fl_GrantServerModel_39 (v := .ref (ad 15)) rfl d_GrantServerModel_refresh_79 ?_
            refine lv_iload hx hb d_GrantServerModel_refresh_82 (lv_at hl 0 rfl) ?_
            have g14 : f (ad 15) = some (.inl (k 0, 64, .inl (c 15))) := hmo.arr 15 (by decide) (by decide)
            refine hm_iald X hK hM g14 0 rfl j rfl (by omega) (by decide) d_GrantServerModel_refresh_84 ?_
            refine hm_top (z := nI t) hft ?_
            refine lv_istore (lv' := [(5, .int (nI t)), (4, .int (nI j)), (0, .ref h), (1, .int co), (2, .int sc), (3, .int n)]) hx hb d_GrantServerModel_refresh_85 hl (by decide) rfl (fun ls hl => ?_)
            refine lv_iload_n hx hb d_GrantServerModel_refresh_87 rfl (lv_at hl 4 rfl) ?_
            refine lv_if_lt (tgt := 111) hx hb d_GrantServerModel_refresh_88 (by decide) (fun h15 => ?_) (fun h15 => ?_)
            · exact absurd (by simp [a_rf, h1, Int32.not_lt.mpr h1, h5, Int32.not_lt.mp h5, h7, h9, h13, h15, Int32.not_le.mpr h15]) (show ¬ ¬ a_rf (m_act v c j) sc (c 19 t) (m_free (c 10) n) (m_fu (m_roomF (c 10) 24 16)) (m_fu (m_roomF (c 10) 24 40)) = 0 from fun z => z hok0)
            · refine lv_iload_n hx hb d_GrantServerModel_refresh_91 rfl (lv_at hl 4 rfl) ?_
              refine lv_bipush (v := 15) hx hb d_GrantServerModel_refresh_92 (by decide) ?_
              refine lv_icmp_gt (tgt := 111) hx hb d_GrantServerModel_refresh_94 (by decide) (fun h16 => ?_) (fun h16 => ?_)
              · exact absurd (by simp [a_rf, h1, Int32.not_lt.mpr h1, h5, Int32.not_lt.mp h5, h7, h9, h13, h15, Int32.not_lt.mp h15, h16, Int32.not_le.mpr h16]) (show ¬ ¬ a_rf (m_act v c j) sc (c 19 t) (m_free (c 10) n) (m_fu (m_roomF (c 10) 24 16)) (m_fu (m_roomF (c 10) 24 40)) = 0 from fun z => z hok0)
              · refine lv_iload_n hx hb d_GrantServerModel_refresh_97 rfl (lv_at hl 4 rfl) ?_
                refine lv_aload_n hx hb d_GrantServerModel_refresh_98 rfl (lv_at hl 2 rfl) ?_
                refine hm_get X hK hM hmo.1 fl_GrantServerModel_48 (v := .ref (ad 19)) rfl d_GrantServerModel_refresh_99 ?_
                refine lv_iload hx hb d_GrantServerModel_refresh_102 (lv_at hl 0 rfl) ?_
                have g17 : f (ad 19) = some (.inl (k 0, 520, .inl (c 19))) := hmo.arr 19 (by decide) (by decide)
                refine hm_iald X hK hM g17 0 rfl t rfl ht (by decide) d_GrantServerModel_refresh_104 ?_
                refine lv_iconst (v := (-1)) hx hb d_GrantServerModel_refresh_105 (by decide) ?_
                refine lv_ixor hx hb d_GrantServerModel_refresh_106 ?_
                refine lv_iand hx hb d_GrantServerModel_refresh_107 ?_
                refine lv_if_eq (tgt := 114) hx hb d_GrantServerModel_refresh_108 (by decide) (fun h18 => ?_) (fun h18 => ?_)
                · refine lv_aload_n hx hb d_GrantServerModel_refresh_114 rfl (lv_at hl 2 rfl) ?_
                  refine lv_iload_n hx hb d_GrantServerModel_refresh_115 rfl (lv_at hl 5 rfl) ?_
                  refine hm_calli hS hM hA (va_runV (As := [.int n]) (rest := []) X (m_c_isFree l D k f h ad sk v c n hmo  H.size) (hm_cwV hts me_GrantServerModel_isFree wl_GrantServerModel_108 rfl rfl ⟨Nat.le_of_ble_eq_true rfl, Nat.le_of_ble_eq_true rfl⟩) (hm_preV hM hK hmo.1 rfl) rfl rfl hl.1 rfl (lv_room (Nat.le_of_ble_eq_true rfl)) d_GrantServerModel_refresh_116 ⟨Nat.le_of_ble_eq_true rfl, Nat.le_of_ble_eq_true rfl⟩) (fun r21 f19 H locs p20 hM hS => ?_)
                  obtain ⟨rfl, rfl⟩ := p20
                  refine lv_if_ne (tgt := 125) hx hb d_GrantServerModel_refresh_119 (by decide) (fun h22 => ?_) (fun h22 => ?_)
                  · refine lv_aload_n hx hb d_GrantServerModel_refresh_125 rfl (lv_at hl 2 rfl) ?_
                    refine lv_iconst (v := 1) hx hb d_GrantServerModel_refresh_126 (by decide) ?_
                    refine hm_calli hS hM hA (va_runV (As := [.int 1]) (rest := []) X (m_c_room l D k f h ad sk v c 1 hmo  H.size) (hm_cwV hts me_GrantServerModel_room wl_GrantServerModel_111 rfl rfl ⟨Nat.le_of_ble_eq_true rfl, Nat.le_of_ble_eq_true rfl⟩) (hm_preV hM hK hmo.1 rfl) rfl rfl hl.1 rfl (lv_room (Nat.le_of_ble_eq_true rfl)) d_GrantServerModel_refresh_127 ⟨Nat.le_of_ble_eq_true rfl, Nat.le_of_ble_eq_true rfl⟩) (fun r25 f23 H locs p24 hM hS => ?_)
                    obtain ⟨rfl, rfl⟩ := p24
                    refine hm_top (z := m_roomF (c 10) 24 16) (by simp [m_toN, m_fromN]) ?_
                    refine lv_if_lt (tgt := 141) hx hb d_GrantServerModel_refresh_130 (by decide) (fun h26 => ?_) (fun h26 => ?_)
                    · exact absurd (by simp [a_rf, h1, Int32.not_lt.mpr h1, h5, Int32.not_lt.mp h5, h7, h9, h13, h15, Int32.not_lt.mp h15, h16, Int32.not_lt.mp h16, h18, h22, h26, Int32.not_le.mpr h26, z_wi_1 h18, m_fu_1 h26]) (show ¬ ¬ a_rf (m_act v c j) sc (c 19 t) (m_free (c 10) n) (m_fu (m_roomF (c 10) 24 16)) (m_fu (m_roomF (c 10) 24 40)) = 0 from fun z => z hok0)
                    · refine lv_aload_n hx hb d_GrantServerModel_refresh_133 rfl (lv_at hl 2 rfl) ?_
                      refine lv_iconst (v := 2) hx hb d_GrantServerModel_refresh_134 (by decide) ?_
                      refine hm_calli hS hM hA (va_runV (As := [.int 2]) (rest := []) X (m_c_room l D k f h ad sk v c 2 hmo  H.size) (hm_cwV hts me_GrantServerModel_room wl_GrantServerModel_111 rfl rfl ⟨Nat.le_of_ble_eq_true rfl, Nat.le_of_ble_eq_true rfl⟩) (hm_preV hM hK hmo.1 rfl) rfl rfl hl.1 rfl (lv_room (Nat.le_of_ble_eq_true rfl)) d_GrantServerModel_refresh_135 ⟨Nat.le_of_ble_eq_true rfl, Nat.le_of_ble_eq_true rfl⟩) (fun r29 f27 H locs p28 hM hS => ?_)
                      obtain ⟨rfl, rfl⟩ := p28
                      refine hm_top (z := m_roomF (c 10) 24 40) (by simp [m_toN, m_fromN]) ?_
                      refine lv_if_ge (tgt := 144) hx hb d_GrantServerModel_refresh_138 (by decide) (fun h30 => ?_) (fun h30 => ?_)
                      · refine lv_aload_n hx hb d_GrantServerModel_refresh_144 rfl (lv_at hl 2 rfl) ?_
                        refine hm_get X hK hM hmo.1 fl_GrantServerModel_35 (v := .ref (ad 14)) rfl d_GrantServerModel_refresh_145 ?_
                        refine lv_iload hx hb d_GrantServerModel_refresh_148 (lv_at hl 1 rfl) ?_
                        refine lv_iconst (v := 1) hx hb d_GrantServerModel_refresh_150 (by decide) ?_
                        have g31 : f (ad 14) = some (.inl (k 1, 64, .inl (c 14))) := hmo.arr 14 (by decide) (by decide)
                        refine hm_zast X hK hM hS g31 1 rfl j rfl (by omega) (by decide) (y := 1) rfl d_GrantServerModel_refresh_151 (fun f32 H locs e33 hM hS => ?_)
                        have hfr := hfr.ast 14 (by decide) (by decide) e33; have hmo : mo k f32 h ad sk v (va_up c 14 (upd (c 14) j 1)) := hmo.ast 14 (by decide) (by decide) e33
                        refine lv_aload_n hx hb d_GrantServerModel_refresh_152 rfl (lv_at hl 2 rfl) ?_
                        refine lv_aload_n hx hb d_GrantServerModel_refresh_153 rfl (lv_at hl 2 rfl) ?_
                        refine hm_get X hK hM hmo.1 fl_GrantServerModel_19 (v := .int (v 9)) rfl d_GrantServerModel_refresh_154 ?_
                        refine hm_top (z := nI (vl 0)) hu0 ?_
                        refine lv_iload hx hb d_GrantServerModel_refresh_157 (lv_at hl 0 rfl) ?_
                        refine lv_iload_n hx hb d_GrantServerModel_refresh_159 rfl (lv_at hl 5 rfl) ?_
                        refine lv_iload_n hx hb d_GrantServerModel_refresh_160 rfl (lv_at hl 4 rfl) ?_
                        refine lv_if_ne (tgt := 174) hx hb d_GrantServerModel_refresh_161 (by decide) (fun h34 => ?_) (fun h34 => ?_)
                        · refine lv_iload_n hx hb d_GrantServerModel_refresh_174 rfl (lv_at hl 4 rfl) ?_
                          refine hm_top (z := nI (vl 4)) (by have z := hs4; rw [if_neg h34] at z; exact z) ?_
                          refine hm_calli hS hM hA (va_runV (As := [.int (nI (vl 0)), .int (nI t), .int n, .int (nI (vl 4))]) (rest := []) X (m_c_grant l D k f32 h ad sk v (va_up c 14 (upd (c 14) j 1)) t n vl K ja jb hmo ht hra hrb hja hjb hau hen hmd hKd hvl hsz H.size) (hm_cwV hts me_GrantServerModel_grant wl_GrantServerModel_141 rfl rfl ⟨Nat.le_of_ble_eq_true rfl, Nat.le_of_ble_eq_true rfl⟩) (hm_preV hM hK hmo.1 rfl) rfl rfl hl.1 rfl (lv_room (Nat.le_of_ble_eq_true rfl)) d_GrantServerModel_refresh_175 ⟨Nat.le_of_ble_eq_true rfl, Nat.le_of_ble_eq_true rfl⟩) (fun r37 f35 H locs p36 hM hS => ?_)
                          obtain ⟨x38, x39, rfl, h40, h41, h42, hmo, hfr43⟩ := p36
                          have hfr := hfr.tr hfr43
                          have hmo : mo k f35 h ad sk (upd (upd (upd v 18 (nI (vl 3))) 28 (nI (z_tot K))) 26 (nI ((z_tot K * 8 + 5) / 6 + 11))) (va_up (va_up (m_put (m_put (va_up c 14 (upd (c 14) j 1)) ja n (nI (vl 0)) ((va_up c 14 (upd (c 14) j 1)) 19 t) (v 4 + v 3) (nI t)) jb (nI (vl 3)) (nI (vl 0)) (nI (vl 4)) (v 4 + v 2) (nI t)) 27 x38) 25 x39) := hmo
                          exact hm_iret X hQ hr hlk hK hM hS d_GrantServerModel_refresh_178 ⟨x38, x39, rfl, h40, h41, h42, hmo, hfr⟩
                        · refine lv_aload_n hx hb d_GrantServerModel_refresh_164 rfl (lv_at hl 2 rfl) ?_
                          refine hm_get X hK hM hmo.1 fl_GrantServerModel_48 (v := .ref (ad 19)) rfl d_GrantServerModel_refresh_165 ?_
                          refine lv_iload hx hb d_GrantServerModel_refresh_168 (lv_at hl 0 rfl) ?_
                          have g35 : f32 (ad 19) = some (.inl (k 0, 520, .inl (c 19))) := hmo.arr 19 (by decide) (by decide)
                          refine hm_iald X hK hM g35 0 rfl t rfl ht (by decide) d_GrantServerModel_refresh_170 ?_
                          refine lv_goto (tgt := 175) hx hb d_GrantServerModel_refresh_171 (by decide) ?_
                          refine hm_top (z := nI (vl 4)) (by have z := hs4; rw [if_pos h34] at z; exact z) ?_
                          refine hm_calli hS hM hA (va_runV (As := [.int (nI (vl 0)), .int (nI t), .int n, .int (nI (vl 4))]) (rest := []) X (m_c_grant l D k f32 h ad sk v (va_up c 14 (upd (c 14) j 1)) t n vl K ja jb hmo ht hra hrb hja hjb hau hen hmd hKd hvl hsz H.size) (hm_cwV hts me_GrantServerModel_grant wl_GrantServerModel_141 rfl rfl ⟨Nat.le_of_ble_eq_true rfl, Nat.le_of_ble_eq_true rfl⟩) (hm_preV hM hK hmo.1 rfl) rfl rfl hl.1 rfl (lv_room (Nat.le_of_ble_eq_true rfl)) d_GrantServerModel_refresh_175 ⟨Nat.le_of_ble_eq_true rfl, Nat.le_of_ble_eq_true rfl⟩) (fun r38 f36 H locs p37 hM hS => ?_)
                          obtain ⟨x39, x40, rfl, h41, h42, h43, hmo, hfr44⟩ := p37
                          have hfr := hfr.tr hfr44
                          have hmo : mo k f36 h ad sk (upd (upd (upd v 18 (nI (vl 3))) 28 (nI (z_tot K))) 26 (nI ((z_tot K * 8 + 5) / 6 + 11))) (va_up (va_up (m_put (m_put (va_up c 14 (upd (c 14) j 1)) ja n (nI (vl 0)) ((va_up c 14 (upd (c 14) j 1)) 19 t) (v 4 + v 3) (nI t)) jb (nI (vl 3)) (nI (vl 0)) (nI (vl 4)) (v 4 + v 2) (nI t)) 27 x39) 25 x40) := hmo
                          exact hm_iret X hQ hr hlk hK hM hS d_GrantServerModel_refresh_178 ⟨x39, x40, rfl, h41, h42, h43, hmo, hfr⟩
                      · exact absurd (by simp [a_rf, h1, Int32.not_lt.mpr h1, h5, Int32.not_lt.mp h5, h7, h9, h13, h15, Int32.not_lt.mp h15, h16, Int32.not_lt.mp h16, h18, h22, h26, Int32.not_lt.mp h26, h30, Int32.not_le.mp h30, z_wi_1 h18, m_fu_0 h26, m_fu_1 (Int32.not_le.mp h30)]) (show ¬ ¬ a_rf (m_act v c j) sc (c 19 t) (m_free (c 10) n) (m_fu (m_roomF (c 10) 24 16)) (m_fu (m_roomF (c 10) 24 40)) = 0 from fun z => z hok0)
                  · exact absurd (by simp [a_rf, h1, Int32.not_lt.mpr h1, h5, Int32.not_lt.mp h5, h7, h9, h13, h15, Int32.not_lt.mp h15, h16, Int32.not_lt.mp h16, h18, h22, z_wi_1 h18]) (show ¬ ¬ a_rf (m_act v c j) sc (c 19 t) (m_free (c 10) n) (m_fu (m_roomF (c 10) 24 16)) (m_fu (m_roomF (c 10) 24 40)) = 0 from fun z => z hok0)
                · exact absurd (by simp [a_rf, h1, Int32.not_lt.mpr h1, h5, Int32.not_lt.mp h5, h7, h9, h13, h15, Int32.not_lt.mp h15, h16, Int32.not_lt.mp h16, h18, z_wi_0 h18]) (show ¬ ¬ a_rf (m_act v c j) sc (c 19 t) (m_free (c 10) n) (m_fu (m_roomF (c 10) 24 16)) (m_fu (m_roomF (c 10) 24 40)) = 0 from fun z => z hok0)
          · exact absurd (by simp [a_rf, h1, Int32.not_lt.mpr h1, h5, Int32.not_lt.mp h5, h7, h9, h13]) (show ¬ ¬ a_rf (m_act v c j) sc (c 19 t) (m_free (c 10) n) (m_fu (m_roomF (c 10) 24 16)) (m_fu (m_roomF (c 10) 24 40)) = 0 from fun z => z hok0)
        · exact absurd hov h9
      · exact absurd ho h7
  · exact absurd (Int32.not_lt.mp hu) h1
set_option maxHeartbeats 4000000 in
set_option maxRecDepth 100000 in
theorem m_c_rv_no (l : Launch) (D : va_G) (k : Nat → ClassId) (f : hm) (h : Nat) (ad : Nat → Nat) (sk : Int64) (v : Nat → Int32) (c : Nat → Nat → Int32) (x : Int32) (y : Int32) (hmo : mo k f h ad sk v c) (hu : ¬ v 9 < 0) (hk1 : ¬ x = 1) (hk2 : ¬ x = 2) : hm_Mi l D vwCl (tyL k) y_GrantServerModel_revoke (Cond.code y_GrantServerModel_revoke b_GrantServerModel_revoke 5 (some .int) :: TB) ({ frames := 0, cells := 0, slots := 0, locals := 0 }) [.ref h, .int x, .int y] f (fun (r : Int32) (f1 : hm) => (-1) = r ∧ f = f1) 0 0 := by
  refine hm_enter (Qc := fun sz => va_Qi _ (hm_R D vwCl (tyL k) f sz) (hm_A f sz)) (by decide) rfl (Nat.le_of_ble_eq_true rfl) ?_
  intro pg e s m below meth cd ls X0 hr hlk hin hK hM hS hA hl Q hQ
  have X : CallFix pg m cd b_GrantServerModel_revoke 5 s ([.ref h, .int x, .int y] : List Value).toArray TB R_GrantServerModel := ⟨X0.1, X0.2.1, X0.2.2.1, X0.2.2.2.1, fun w h => X0.2.2.2.2 w (List.mem_cons_of_mem _ h)⟩
  have hx := X.1; have hb := X.2.1; have hml := X.2.2.1; have hown := X.2.2.2.1; have hts := X.2.2.2.2
  have hl : lv_has ls 5 [(0, .ref h), (1, .int x), (2, .int y)] := hl
  have hfr : mo_fr h ad f f := mo_fr.rf
  refine lv_aload_n hx hb d_GrantServerModel_revoke_0 rfl (lv_at hl 0 rfl) ?_
  refine hm_get X hK hM hmo.1 fl_GrantServerModel_19 (v := .int (v 9)) rfl d_GrantServerModel_revoke_1 ?_
  refine lv_if_ge (tgt := 10) hx hb d_GrantServerModel_revoke_4 (by decide) (fun h1 => ?_) (fun h1 => ?_)
  · refine lv_iload_n hx hb d_GrantServerModel_revoke_10 rfl (lv_at hl 1 rfl) ?_
    refine lv_iconst (v := 1) hx hb d_GrantServerModel_revoke_11 (by decide) ?_
    refine lv_icmp_eq (tgt := 22) hx hb d_GrantServerModel_revoke_12 (by decide) (fun h2 => ?_) (fun h2 => ?_)
    · exact absurd h2 hk1
    · refine lv_iload_n hx hb d_GrantServerModel_revoke_15 rfl (lv_at hl 1 rfl) ?_
      refine lv_iconst (v := 2) hx hb d_GrantServerModel_revoke_16 (by decide) ?_
      refine lv_icmp_eq (tgt := 22) hx hb d_GrantServerModel_revoke_17 (by decide) (fun h3 => ?_) (fun h3 => ?_)
      · exact absurd h3 hk2
      · refine lv_iconst (v := (-1)) hx hb d_GrantServerModel_revoke_20 (by decide) ?_
        exact hm_iret X hQ hr hlk hK hM hS d_GrantServerModel_revoke_21 ⟨rfl, rfl⟩
  · exact absurd (Int32.not_lt.mp hu) h1
set_option maxHeartbeats 4000000 in
set_option maxRecDepth 100000 in
theorem m_c_rv_nf (l : Launch) (D : va_G) (k : Nat → ClassId) (f : hm) (h : Nat) (ad : Nat → Nat) (sk : Int64) (v : Nat → Int32) (c : Nat → Nat → Int32) (x : Int32) (y : Int32) (hmo : mo k f h ad sk v c) (hu : ¬ v 9 < 0) (hk : x = 1 ∨ x = 2) (hfam : ∀ j, j < 64 → c 15 j < 0 ∨ ∃ t, t < 520 ∧ c 15 j = nI t) (hf : m_findF (c 10) y (m_toN x - m_fromN x) (m_fromN x) < 0) : hm_Mi l D vwCl (tyL k) y_GrantServerModel_revoke (Cond.code y_GrantServerModel_revoke b_GrantServerModel_revoke 5 (some .int) :: TB) ({ frames := 2, cells := 0, slots := 0, locals := 43 }) [.ref h, .int x, .int y] f (fun (r : Int32) (f1 : hm) => nI (m_tok v c 48) - nI (m_tok v c 48) = r ∧ f = f1) 0 0 := by
  refine hm_enter (Qc := fun sz => va_Qi _ (hm_R D vwCl (tyL k) f sz) (hm_A f sz)) (by decide) rfl (Nat.le_of_ble_eq_true rfl) ?_
  intro pg e s m below meth cd ls X0 hr hlk hin hK hM hS hA hl Q hQ
  have X : CallFix pg m cd b_GrantServerModel_revoke 5 s ([.ref h, .int x, .int y] : List Value).toArray TB R_GrantServerModel := ⟨X0.1, X0.2.1, X0.2.2.1, X0.2.2.2.1, fun w h => X0.2.2.2.2 w (List.mem_cons_of_mem _ h)⟩
  have hx := X.1; have hb := X.2.1; have hml := X.2.2.1; have hown := X.2.2.2.1; have hts := X.2.2.2.2
  have hl : lv_has ls 5 [(0, .ref h), (1, .int x), (2, .int y)] := hl
  have hfr : mo_fr h ad f f := mo_fr.rf
  refine lv_aload_n hx hb d_GrantServerModel_revoke_0 rfl (lv_at hl 0 rfl) ?_
  refine hm_get X hK hM hmo.1 fl_GrantServerModel_19 (v := .int (v 9)) rfl d_GrantServerModel_revoke_1 ?_
  refine lv_if_ge (tgt := 10) hx hb d_GrantServerModel_revoke_4 (by decide) (fun h1 => ?_) (fun h1 => ?_)
  · refine lv_iload_n hx hb d_GrantServerModel_revoke_10 rfl (lv_at hl 1 rfl) ?_
    refine lv_iconst (v := 1) hx hb d_GrantServerModel_revoke_11 (by decide) ?_
    refine lv_icmp_eq (tgt := 22) hx hb d_GrantServerModel_revoke_12 (by decide) (fun h2 => ?_) (fun h2 => ?_)
    · refine lv_aload_n hx hb d_GrantServerModel_revoke_22 rfl (lv_at hl 0 rfl) ?_
      refine hm_calli hS hM hA (va_runV (As := []) (rest := []) X (m_c_activeTokens l D k f h ad sk v c  hmo hfam s.heap.size) (hm_cwV hts me_GrantServerModel_activeTokens wl_GrantServerModel_148 rfl rfl ⟨Nat.le_of_ble_eq_true rfl, Nat.le_of_ble_eq_true rfl⟩) (hm_preV hM hK hmo.1 rfl) rfl rfl hl.1 rfl (lv_room (Nat.le_of_ble_eq_true rfl)) d_GrantServerModel_revoke_23 ⟨Nat.le_of_ble_eq_true rfl, Nat.le_of_ble_eq_true rfl⟩) (fun r5 f3 H locs p4 hM hS => ?_)
      obtain ⟨rfl, rfl⟩ := p4
      refine lv_istore_n (lv' := [(3, .int (nI (m_tok v c 48))), (0, .ref h), (1, .int x), (2, .int y)]) hx hb d_GrantServerModel_revoke_26 rfl hl (by decide) rfl (fun ls hl => ?_)
      refine lv_aload_n hx hb d_GrantServerModel_revoke_27 rfl (lv_at hl 1 rfl) ?_
      refine lv_iload_n hx hb d_GrantServerModel_revoke_28 rfl (lv_at hl 2 rfl) ?_
      refine lv_iload_n hx hb d_GrantServerModel_revoke_29 rfl (lv_at hl 3 rfl) ?_
      refine hm_calli hS hM hA (va_runV (As := [.int x, .int y]) (rest := []) X (m_c_find l D k f h ad sk v c x y hmo  H.size) (hm_cwV hts me_GrantServerModel_find wl_GrantServerModel_100 rfl rfl ⟨Nat.le_of_ble_eq_true rfl, Nat.le_of_ble_eq_true rfl⟩) (hm_preV hM hK hmo.1 rfl) rfl rfl hl.1 rfl (lv_room (Nat.le_of_ble_eq_true rfl)) d_GrantServerModel_revoke_30 ⟨Nat.le_of_ble_eq_true rfl, Nat.le_of_ble_eq_true rfl⟩) (fun r8 f6 H locs p7 hM hS => ?_)
      obtain ⟨rfl, rfl⟩ := p7
      refine lv_istore (lv' := [(4, .int (m_findF (c 10) y (m_toN x - m_fromN x) (m_fromN x))), (3, .int (nI (m_tok v c 48))), (0, .ref h), (1, .int x), (2, .int y)]) hx hb d_GrantServerModel_revoke_33 hl (by decide) rfl (fun ls hl => ?_)
      refine lv_iload hx hb d_GrantServerModel_revoke_35 (lv_at hl 0 rfl) ?_
      refine lv_if_lt (tgt := 83) hx hb d_GrantServerModel_revoke_37 (by decide) (fun h9 => ?_) (fun h9 => ?_)
      · refine lv_iload_n hx hb d_GrantServerModel_revoke_83 rfl (lv_at hl 1 rfl) ?_
        refine lv_aload_n hx hb d_GrantServerModel_revoke_84 rfl (lv_at hl 2 rfl) ?_
        refine hm_calli hS hM hA (va_runV (As := []) (rest := [.int (nI (m_tok v c 48))]) X (m_c_activeTokens l D k f h ad sk v c  hmo hfam H.size) (hm_cwV hts me_GrantServerModel_activeTokens wl_GrantServerModel_148 rfl rfl ⟨Nat.le_of_ble_eq_true rfl, Nat.le_of_ble_eq_true rfl⟩) (hm_preV hM hK hmo.1 rfl) rfl rfl hl.1 rfl (lv_room (Nat.le_of_ble_eq_true rfl)) d_GrantServerModel_revoke_85 ⟨Nat.le_of_ble_eq_true rfl, Nat.le_of_ble_eq_true rfl⟩) (fun r12 f10 H locs p11 hM hS => ?_)
        obtain ⟨rfl, rfl⟩ := p11
        refine lv_isub hx hb d_GrantServerModel_revoke_88 ?_
        exact hm_iret X hQ hr hlk hK hM hS d_GrantServerModel_revoke_89 ⟨rfl, rfl⟩
      · exact absurd hf h9
    · refine lv_iload_n hx hb d_GrantServerModel_revoke_15 rfl (lv_at hl 1 rfl) ?_
      refine lv_iconst (v := 2) hx hb d_GrantServerModel_revoke_16 (by decide) ?_
      refine lv_icmp_eq (tgt := 22) hx hb d_GrantServerModel_revoke_17 (by decide) (fun h3 => ?_) (fun h3 => ?_)
      · refine lv_aload_n hx hb d_GrantServerModel_revoke_22 rfl (lv_at hl 0 rfl) ?_
        refine hm_calli hS hM hA (va_runV (As := []) (rest := []) X (m_c_activeTokens l D k f h ad sk v c  hmo hfam s.heap.size) (hm_cwV hts me_GrantServerModel_activeTokens wl_GrantServerModel_148 rfl rfl ⟨Nat.le_of_ble_eq_true rfl, Nat.le_of_ble_eq_true rfl⟩) (hm_preV hM hK hmo.1 rfl) rfl rfl hl.1 rfl (lv_room (Nat.le_of_ble_eq_true rfl)) d_GrantServerModel_revoke_23 ⟨Nat.le_of_ble_eq_true rfl, Nat.le_of_ble_eq_true rfl⟩) (fun r6 f4 H locs p5 hM hS => ?_)
        obtain ⟨rfl, rfl⟩ := p5
        refine lv_istore_n (lv' := [(3, .int (nI (m_tok v c 48))), (0, .ref h), (1, .int x), (2, .int y)]) hx hb d_GrantServerModel_revoke_26 rfl hl (by decide) rfl (fun ls hl => ?_)
        refine lv_aload_n hx hb d_GrantServerModel_revoke_27 rfl (lv_at hl 1 rfl) ?_
        refine lv_iload_n hx hb d_GrantServerModel_revoke_28 rfl (lv_at hl 2 rfl) ?_
        refine lv_iload_n hx hb d_GrantServerModel_revoke_29 rfl (lv_at hl 3 rfl) ?_
        refine hm_calli hS hM hA (va_runV (As := [.int x, .int y]) (rest := []) X (m_c_find l D k f h ad sk v c x y hmo  H.size) (hm_cwV hts me_GrantServerModel_find wl_GrantServerModel_100 rfl rfl ⟨Nat.le_of_ble_eq_true rfl, Nat.le_of_ble_eq_true rfl⟩) (hm_preV hM hK hmo.1 rfl) rfl rfl hl.1 rfl (lv_room (Nat.le_of_ble_eq_true rfl)) d_GrantServerModel_revoke_30 ⟨Nat.le_of_ble_eq_true rfl, Nat.le_of_ble_eq_true rfl⟩) (fun r9 f7 H locs p8 hM hS => ?_)
        obtain ⟨rfl, rfl⟩ := p8
        refine lv_istore (lv' := [(4, .int (m_findF (c 10) y (m_toN x - m_fromN x) (m_fromN x))), (3, .int (nI (m_tok v c 48))), (0, .ref h), (1, .int x), (2, .int y)]) hx hb d_GrantServerModel_revoke_33 hl (by decide) rfl (fun ls hl => ?_)
        refine lv_iload hx hb d_GrantServerModel_revoke_35 (lv_at hl 0 rfl) ?_
        refine lv_if_lt (tgt := 83) hx hb d_GrantServerModel_revoke_37 (by decide) (fun h10 => ?_) (fun h10 => ?_)
        · refine lv_iload_n hx hb d_GrantServerModel_revoke_83 rfl (lv_at hl 1 rfl) ?_
          refine lv_aload_n hx hb d_GrantServerModel_revoke_84 rfl (lv_at hl 2 rfl) ?_
          refine hm_calli hS hM hA (va_runV (As := []) (rest := [.int (nI (m_tok v c 48))]) X (m_c_activeTokens l D k f h ad sk v c  hmo hfam H.size) (hm_cwV hts me_GrantServerModel_activeTokens wl_GrantServerModel_148 rfl rfl ⟨Nat.le_of_ble_eq_true rfl, Nat.le_of_ble_eq_true rfl⟩) (hm_preV hM hK hmo.1 rfl) rfl rfl hl.1 rfl (lv_room (Nat.le_of_ble_eq_true rfl)) d_GrantServerModel_revoke_85 ⟨Nat.le_of_ble_eq_true rfl, Nat.le_of_ble_eq_true rfl⟩) (fun r13 f11 H locs p12 hM hS => ?_)
          obtain ⟨rfl, rfl⟩ := p12
          refine lv_isub hx hb d_GrantServerModel_revoke_88 ?_
          exact hm_iret X hQ hr hlk hK hM hS d_GrantServerModel_revoke_89 ⟨rfl, rfl⟩
        · exact absurd hf h10
      · exact absurd (hk.resolve_left h2) h3
  · exact absurd (Int32.not_lt.mp hu) h1
set_option maxHeartbeats 4000000 in
set_option maxRecDepth 100000 in
theorem m_c_rv_own (l : Launch) (D : va_G) (k : Nat → ClassId) (f : hm) (h : Nat) (ad : Nat → Nat) (sk : Int64) (v : Nat → Int32) (c : Nat → Nat → Int32) (x : Int32) (y : Int32) (j : Nat) (hmo : mo k f h ad sk v c) (hu : ¬ v 9 < 0) (hk : x = 1 ∨ x = 2) (hfam : ∀ j, j < 64 → c 15 j < 0 ∨ ∃ t, t < 520 ∧ c 15 j = nI t) (hf : m_findF (c 10) y (m_toN x - m_fromN x) (m_fromN x) = nI j) (hj : j < 64) (ho : ¬ c 11 j = v 9) : hm_Mi l D vwCl (tyL k) y_GrantServerModel_revoke (Cond.code y_GrantServerModel_revoke b_GrantServerModel_revoke 5 (some .int) :: TB) ({ frames := 2, cells := 0, slots := 0, locals := 43 }) [.ref h, .int x, .int y] f (fun (r : Int32) (f1 : hm) => nI (m_tok v c 48) - nI (m_tok v c 48) = r ∧ f = f1) 0 0 := by
  refine hm_enter (Qc := fun sz => va_Qi _ (hm_R D vwCl (tyL k) f sz) (hm_A f sz)) (by decide) rfl (Nat.le_of_ble_eq_true rfl) ?_
  intro pg e s m below meth cd ls X0 hr hlk hin hK hM hS hA hl Q hQ
  have X : CallFix pg m cd b_GrantServerModel_revoke 5 s ([.ref h, .int x, .int y] : List Value).toArray TB R_GrantServerModel := ⟨X0.1, X0.2.1, X0.2.2.1, X0.2.2.2.1, fun w h => X0.2.2.2.2 w (List.mem_cons_of_mem _ h)⟩
  have hx := X.1; have hb := X.2.1; have hml := X.2.2.1; have hown := X.2.2.2.1; have hts := X.2.2.2.2
  have hl : lv_has ls 5 [(0, .ref h), (1, .int x), (2, .int y)] := hl
  have hfr : mo_fr h ad f f := mo_fr.rf
  refine lv_aload_n hx hb d_GrantServerModel_revoke_0 rfl (lv_at hl 0 rfl) ?_
  refine hm_get X hK hM hmo.1 fl_GrantServerModel_19 (v := .int (v 9)) rfl d_GrantServerModel_revoke_1 ?_
  refine lv_if_ge (tgt := 10) hx hb d_GrantServerModel_revoke_4 (by decide) (fun h1 => ?_) (fun h1 => ?_)
  · refine lv_iload_n hx hb d_GrantServerModel_revoke_10 rfl (lv_at hl 1 rfl) ?_
    refine lv_iconst (v := 1) hx hb d_GrantServerModel_revoke_11 (by decide) ?_
    refine lv_icmp_eq (tgt := 22) hx hb d_GrantServerModel_revoke_12 (by decide) (fun h2 => ?_) (fun h2 => ?_)
    · refine lv_aload_n hx hb d_GrantServerModel_revoke_22 rfl (lv_at hl 0 rfl) ?_
      refine hm_calli hS hM hA (va_runV (As := []) (rest := []) X (m_c_activeTokens l D k f h ad sk v c  hmo hfam s.heap.size) (hm_cwV hts me_GrantServerModel_activeTokens wl_GrantServerModel_148 rfl rfl ⟨Nat.le_of_ble_eq_true rfl, Nat.le_of_ble_eq_true rfl⟩) (hm_preV hM hK hmo.1 rfl) rfl rfl hl.1 rfl (lv_room (Nat.le_of_ble_eq_true rfl)) d_GrantServerModel_revoke_23 ⟨Nat.le_of_ble_eq_true rfl, Nat.le_of_ble_eq_true rfl⟩) (fun r5 f3 H locs p4 hM hS => ?_)
      obtain ⟨rfl, rfl⟩ := p4
      refine lv_istore_n (lv' := [(3, .int (nI (m_tok v c 48))), (0, .ref h), (1, .int x), (2, .int y)]) hx hb d_GrantServerModel_revoke_26 rfl hl (by decide) rfl (fun ls hl => ?_)
      refine lv_aload_n hx hb d_GrantServerModel_revoke_27 rfl (lv_at hl 1 rfl) ?_
      refine lv_iload_n hx hb d_GrantServerModel_revoke_28 rfl (lv_at hl 2 rfl) ?_
      refine lv_iload_n hx hb d_GrantServerModel_revoke_29 rfl (lv_at hl 3 rfl) ?_
      refine hm_calli hS hM hA (va_runV (As := [.int x, .int y]) (rest := []) X (m_c_find l D k f h ad sk v c x y hmo  H.size) (hm_cwV hts me_GrantServerModel_find wl_GrantServerModel_100 rfl rfl ⟨Nat.le_of_ble_eq_true rfl, Nat.le_of_ble_eq_true rfl⟩) (hm_preV hM hK hmo.1 rfl) rfl rfl hl.1 rfl (lv_room (Nat.le_of_ble_eq_true rfl)) d_GrantServerModel_revoke_30 ⟨Nat.le_of_ble_eq_true rfl, Nat.le_of_ble_eq_true rfl⟩) (fun r8 f6 H locs p7 hM hS => ?_)
      obtain ⟨rfl, rfl⟩ := p7
      refine hm_top (z := nI j) hf ?_
      refine lv_istore (lv' := [(4, .int (nI j)), (3, .int (nI (m_tok v c 48))), (0, .ref h), (1, .int x), (2, .int y)]) hx hb d_GrantServerModel_revoke_33 hl (by decide) rfl (fun ls hl => ?_)
      refine lv_iload hx hb d_GrantServerModel_revoke_35 (lv_at hl 0 rfl) ?_
      refine lv_if_lt (tgt := 83) hx hb d_GrantServerModel_revoke_37 (by decide) (fun h9 => ?_) (fun h9 => ?_)
      · exact absurd h9 (nI_pos (by omega))
      · refine lv_aload_n hx hb d_GrantServerModel_revoke_40 rfl (lv_at hl 2 rfl) ?_
        refine hm_get X hK hM hmo.1 fl_GrantServerModel_26 (v := .ref (ad 11)) rfl d_GrantServerModel_revoke_41 ?_
        refine lv_iload hx hb d_GrantServerModel_revoke_44 (lv_at hl 0 rfl) ?_
        have g10 : f (ad 11) = some (.inl (k 0, 64, .inl (c 11))) := hmo.arr 11 (by decide) (by decide)
        refine hm_iald X hK hM g10 0 rfl j rfl (by omega) (by decide) d_GrantServerModel_revoke_46 ?_
        refine lv_aload_n hx hb d_GrantServerModel_revoke_47 rfl (lv_at hl 2 rfl) ?_
        refine hm_get X hK hM hmo.1 fl_GrantServerModel_19 (v := .int (v 9)) rfl d_GrantServerModel_revoke_48 ?_
        refine lv_icmp_ne (tgt := 83) hx hb d_GrantServerModel_revoke_51 (by decide) (fun h11 => ?_) (fun h11 => ?_)
        · refine lv_iload_n hx hb d_GrantServerModel_revoke_83 rfl (lv_at hl 1 rfl) ?_
          refine lv_aload_n hx hb d_GrantServerModel_revoke_84 rfl (lv_at hl 2 rfl) ?_
          refine hm_calli hS hM hA (va_runV (As := []) (rest := [.int (nI (m_tok v c 48))]) X (m_c_activeTokens l D k f h ad sk v c  hmo hfam H.size) (hm_cwV hts me_GrantServerModel_activeTokens wl_GrantServerModel_148 rfl rfl ⟨Nat.le_of_ble_eq_true rfl, Nat.le_of_ble_eq_true rfl⟩) (hm_preV hM hK hmo.1 rfl) rfl rfl hl.1 rfl (lv_room (Nat.le_of_ble_eq_true rfl)) d_GrantServerModel_revoke_85 ⟨Nat.le_of_ble_eq_true rfl, Nat.le_of_ble_eq_true rfl⟩) (fun r14 f12 H locs p13 hM hS => ?_)
          obtain ⟨rfl, rfl⟩ := p13
          refine lv_isub hx hb d_GrantServerModel_revoke_88 ?_
          exact hm_iret X hQ hr hlk hK hM hS d_GrantServerModel_revoke_89 ⟨rfl, rfl⟩
        · exact absurd h11 ho
    · refine lv_iload_n hx hb d_GrantServerModel_revoke_15 rfl (lv_at hl 1 rfl) ?_
      refine lv_iconst (v := 2) hx hb d_GrantServerModel_revoke_16 (by decide) ?_
      refine lv_icmp_eq (tgt := 22) hx hb d_GrantServerModel_revoke_17 (by decide) (fun h3 => ?_) (fun h3 => ?_)
      · refine lv_aload_n hx hb d_GrantServerModel_revoke_22 rfl (lv_at hl 0 rfl) ?_
        refine hm_calli hS hM hA (va_runV (As := []) (rest := []) X (m_c_activeTokens l D k f h ad sk v c  hmo hfam s.heap.size) (hm_cwV hts me_GrantServerModel_activeTokens wl_GrantServerModel_148 rfl rfl ⟨Nat.le_of_ble_eq_true rfl, Nat.le_of_ble_eq_true rfl⟩) (hm_preV hM hK hmo.1 rfl) rfl rfl hl.1 rfl (lv_room (Nat.le_of_ble_eq_true rfl)) d_GrantServerModel_revoke_23 ⟨Nat.le_of_ble_eq_true rfl, Nat.le_of_ble_eq_true rfl⟩) (fun r6 f4 H locs p5 hM hS => ?_)
        obtain ⟨rfl, rfl⟩ := p5
        refine lv_istore_n (lv' := [(3, .int (nI (m_tok v c 48))), (0, .ref h), (1, .int x), (2, .int y)]) hx hb d_GrantServerModel_revoke_26 rfl hl (by decide) rfl (fun ls hl => ?_)
        refine lv_aload_n hx hb d_GrantServerModel_revoke_27 rfl (lv_at hl 1 rfl) ?_
        refine lv_iload_n hx hb d_GrantServerModel_revoke_28 rfl (lv_at hl 2 rfl) ?_
        refine lv_iload_n hx hb d_GrantServerModel_revoke_29 rfl (lv_at hl 3 rfl) ?_
        refine hm_calli hS hM hA (va_runV (As := [.int x, .int y]) (rest := []) X (m_c_find l D k f h ad sk v c x y hmo  H.size) (hm_cwV hts me_GrantServerModel_find wl_GrantServerModel_100 rfl rfl ⟨Nat.le_of_ble_eq_true rfl, Nat.le_of_ble_eq_true rfl⟩) (hm_preV hM hK hmo.1 rfl) rfl rfl hl.1 rfl (lv_room (Nat.le_of_ble_eq_true rfl)) d_GrantServerModel_revoke_30 ⟨Nat.le_of_ble_eq_true rfl, Nat.le_of_ble_eq_true rfl⟩) (fun r9 f7 H locs p8 hM hS => ?_)
        obtain ⟨rfl, rfl⟩ := p8
        refine hm_top (z := nI j) hf ?_
        refine lv_istore (lv' := [(4, .int (nI j)), (3, .int (nI (m_tok v c 48))), (0, .ref h), (1, .int x), (2, .int y)]) hx hb d_GrantServerModel_revoke_33 hl (by decide) rfl (fun ls hl => ?_)
        refine lv_iload hx hb d_GrantServerModel_revoke_35 (lv_at hl 0 rfl) ?_
        refine lv_if_lt (tgt := 83) hx hb d_GrantServerModel_revoke_37 (by decide) (fun h10 => ?_) (fun h10 => ?_)
        · exact absurd h10 (nI_pos (by omega))
        · refine lv_aload_n hx hb d_GrantServerModel_revoke_40 rfl (lv_at hl 2 rfl) ?_
          refine hm_get X hK hM hmo.1 fl_GrantServerModel_26 (v := .ref (ad 11)) rfl d_GrantServerModel_revoke_41 ?_
          refine lv_iload hx hb d_GrantServerModel_revoke_44 (lv_at hl 0 rfl) ?_
          have g11 : f (ad 11) = some (.inl (k 0, 64, .inl (c 11))) := hmo.arr 11 (by decide) (by decide)
          refine hm_iald X hK hM g11 0 rfl j rfl (by omega) (by decide) d_GrantServerModel_revoke_46 ?_
          refine lv_aload_n hx hb d_GrantServerModel_revoke_47 rfl (lv_at hl 2 rfl) ?_
          refine hm_get X hK hM hmo.1 fl_GrantServerModel_19 (v := .int (v 9)) rfl d_GrantServerModel_revoke_48 ?_
          refine lv_icmp_ne (tgt := 83) hx hb d_GrantServerModel_revoke_51 (by decide) (fun h12 => ?_) (fun h12 => ?_)
          · refine lv_iload_n hx hb d_GrantServerModel_revoke_83 rfl (lv_at hl 1 rfl) ?_
            refine lv_aload_n hx hb d_GrantServerModel_revoke_84 rfl (lv_at hl 2 rfl) ?_
            refine hm_calli hS hM hA (va_runV (As := []) (rest := [.int (nI (m_tok v c 48))]) X (m_c_activeTokens l D k f h ad sk v c  hmo hfam H.size) (hm_cwV hts me_GrantServerModel_activeTokens wl_GrantServerModel_148 rfl rfl ⟨Nat.le_of_ble_eq_true rfl, Nat.le_of_ble_eq_true rfl⟩) (hm_preV hM hK hmo.1 rfl) rfl rfl hl.1 rfl (lv_room (Nat.le_of_ble_eq_true rfl)) d_GrantServerModel_revoke_85 ⟨Nat.le_of_ble_eq_true rfl, Nat.le_of_ble_eq_true rfl⟩) (fun r15 f13 H locs p14 hM hS => ?_)
            obtain ⟨rfl, rfl⟩ := p14
            refine lv_isub hx hb d_GrantServerModel_revoke_88 ?_
            exact hm_iret X hQ hr hlk hK hM hS d_GrantServerModel_revoke_89 ⟨rfl, rfl⟩
          · exact absurd h12 ho
      · exact absurd (hk.resolve_left h2) h3
  · exact absurd (Int32.not_lt.mp hu) h1
set_option maxHeartbeats 4000000 in
set_option maxRecDepth 100000 in
theorem m_c_rv_1 (l : Launch) (D : va_G) (k : Nat → ClassId) (f : hm) (h : Nat) (ad : Nat → Nat) (sk : Int64) (v : Nat → Int32) (c : Nat → Nat → Int32) (x : Int32) (y : Int32) (j : Nat) (t : Nat) (hmo : mo k f h ad sk v c) (hu : ¬ v 9 < 0) (hk : x = 1) (hfam : ∀ j, j < 64 → c 15 j < 0 ∨ ∃ t, t < 520 ∧ c 15 j = nI t) (hf : m_findF (c 10) y (m_toN x - m_fromN x) (m_fromN x) = nI j) (hj : j < 64) (ho : c 11 j = v 9) (hft : c 15 j = nI t) (ht : t < 520) : hm_Mi l D vwCl (tyL k) y_GrantServerModel_revoke (Cond.code y_GrantServerModel_revoke b_GrantServerModel_revoke 5 (some .int) :: TB) ({ frames := 2, cells := 0, slots := 0, locals := 43 }) [.ref h, .int x, .int y] f (fun (r : Int32) (f1 : hm) => nI (m_tok v c 48) - nI (m_tok v (va_up c 21 (upd (c 21) t 1)) 48) = r ∧ mo k f1 h ad sk v (va_up c 21 (upd (c 21) t 1)) ∧ mo_fr h ad f f1) 0 0 := by
  refine hm_enter (Qc := fun sz => va_Qi _ (hm_R D vwCl (tyL k) f sz) (hm_A f sz)) (by decide) rfl (Nat.le_of_ble_eq_true rfl) ?_
  intro pg e s m below meth cd ls X0 hr hlk hin hK hM hS hA hl Q hQ
  have X : CallFix pg m cd b_GrantServerModel_revoke 5 s ([.ref h, .int x, .int y] : List Value).toArray TB R_GrantServerModel := ⟨X0.1, X0.2.1, X0.2.2.1, X0.2.2.2.1, fun w h => X0.2.2.2.2 w (List.mem_cons_of_mem _ h)⟩
  have hx := X.1; have hb := X.2.1; have hml := X.2.2.1; have hown := X.2.2.2.1; have hts := X.2.2.2.2
  have hl : lv_has ls 5 [(0, .ref h), (1, .int x), (2, .int y)] := hl
  have hfr : mo_fr h ad f f := mo_fr.rf
  refine lv_aload_n hx hb d_GrantServerModel_revoke_0 rfl (lv_at hl 0 rfl) ?_
  refine hm_get X hK hM hmo.1 fl_GrantServerModel_19 (v := .int (v 9)) rfl d_GrantServerModel_revoke_1 ?_
  refine lv_if_ge (tgt := 10) hx hb d_GrantServerModel_revoke_4 (by decide) (fun h1 => ?_) (fun h1 => ?_)
  · refine lv_iload_n hx hb d_GrantServerModel_revoke_10 rfl (lv_at hl 1 rfl) ?_
    refine lv_iconst (v := 1) hx hb d_GrantServerModel_revoke_11 (by decide) ?_
    refine lv_icmp_eq (tgt := 22) hx hb d_GrantServerModel_revoke_12 (by decide) (fun h2 => ?_) (fun h2 => ?_)
    · refine lv_aload_n hx hb d_GrantServerModel_revoke_22 rfl (lv_at hl 0 rfl) ?_
      refine hm_calli hS hM hA (va_runV (As := []) (rest := []) X (m_c_activeTokens l D k f h ad sk v c  hmo hfam s.heap.size) (hm_cwV hts me_GrantServerModel_activeTokens wl_GrantServerModel_148 rfl rfl ⟨Nat.le_of_ble_eq_true rfl, Nat.le_of_ble_eq_true rfl⟩) (hm_preV hM hK hmo.1 rfl) rfl rfl hl.1 rfl (lv_room (Nat.le_of_ble_eq_true rfl)) d_GrantServerModel_revoke_23 ⟨Nat.le_of_ble_eq_true rfl, Nat.le_of_ble_eq_true rfl⟩) (fun r5 f3 H locs p4 hM hS => ?_)
      obtain ⟨rfl, rfl⟩ := p4
      refine lv_istore_n (lv' := [(3, .int (nI (m_tok v c 48))), (0, .ref h), (1, .int x), (2, .int y)]) hx hb d_GrantServerModel_revoke_26 rfl hl (by decide) rfl (fun ls hl => ?_)
      refine lv_aload_n hx hb d_GrantServerModel_revoke_27 rfl (lv_at hl 1 rfl) ?_
      refine lv_iload_n hx hb d_GrantServerModel_revoke_28 rfl (lv_at hl 2 rfl) ?_
      refine lv_iload_n hx hb d_GrantServerModel_revoke_29 rfl (lv_at hl 3 rfl) ?_
      refine hm_calli hS hM hA (va_runV (As := [.int x, .int y]) (rest := []) X (m_c_find l D k f h ad sk v c x y hmo  H.size) (hm_cwV hts me_GrantServerModel_find wl_GrantServerModel_100 rfl rfl ⟨Nat.le_of_ble_eq_true rfl, Nat.le_of_ble_eq_true rfl⟩) (hm_preV hM hK hmo.1 rfl) rfl rfl hl.1 rfl (lv_room (Nat.le_of_ble_eq_true rfl)) d_GrantServerModel_revoke_30 ⟨Nat.le_of_ble_eq_true rfl, Nat.le_of_ble_eq_true rfl⟩) (fun r8 f6 H locs p7 hM hS => ?_)
      obtain ⟨rfl, rfl⟩ := p7
      refine hm_top (z := nI j) hf ?_
      refine lv_istore (lv' := [(4, .int (nI j)), (3, .int (nI (m_tok v c 48))), (0, .ref h), (1, .int x), (2, .int y)]) hx hb d_GrantServerModel_revoke_33 hl (by decide) rfl (fun ls hl => ?_)
      refine lv_iload hx hb d_GrantServerModel_revoke_35 (lv_at hl 0 rfl) ?_
      refine lv_if_lt (tgt := 83) hx hb d_GrantServerModel_revoke_37 (by decide) (fun h9 => ?_) (fun h9 => ?_)
      · exact absurd h9 (nI_pos (by omega))
      · refine lv_aload_n hx hb d_GrantServerModel_revoke_40 rfl (lv_at hl 2 rfl) ?_
        refine hm_get X hK hM hmo.1 fl_GrantServerModel_26 (v := .ref (ad 11)) rfl d_GrantServerModel_revoke_41 ?_
        refine lv_iload hx hb d_GrantServerModel_revoke_44 (lv_at hl 0 rfl) ?_
        have g10 : f (ad 11) = some (.inl (k 0, 64, .inl (c 11))) := hmo.arr 11 (by decide) (by decide)
        refine hm_iald X hK hM g10 0 rfl j rfl (by omega) (by decide) d_GrantServerModel_revoke_46 ?_
        refine lv_aload_n hx hb d_GrantServerModel_revoke_47 rfl (lv_at hl 2 rfl) ?_
        refine hm_get X hK hM hmo.1 fl_GrantServerModel_19 (v := .int (v 9)) rfl d_GrantServerModel_revoke_48 ?_
        refine lv_icmp_ne (tgt := 83) hx hb d_GrantServerModel_revoke_51 (by decide) (fun h11 => ?_) (fun h11 => ?_)
        · exact absurd ho h11
        · refine lv_iload_n hx hb d_GrantServerModel_revoke_54 rfl (lv_at hl 3 rfl) ?_
          refine lv_iconst (v := 1) hx hb d_GrantServerModel_revoke_55 (by decide) ?_
          refine lv_icmp_ne (tgt := 75) hx hb d_GrantServerModel_revoke_56 (by decide) (fun h12 => ?_) (fun h12 => ?_)
          · exact absurd hk h12
          · refine lv_aload_n hx hb d_GrantServerModel_revoke_59 rfl (lv_at hl 2 rfl) ?_
            refine hm_get X hK hM hmo.1 fl_GrantServerModel_54 (v := .ref (ad 21)) rfl d_GrantServerModel_revoke_60 ?_
            refine lv_aload_n hx hb d_GrantServerModel_revoke_63 rfl (lv_at hl 2 rfl) ?_
            refine hm_get X hK hM hmo.1 fl_GrantServerModel_39 (v := .ref (ad 15)) rfl d_GrantServerModel_revoke_64 ?_
            refine lv_iload hx hb d_GrantServerModel_revoke_67 (lv_at hl 0 rfl) ?_
            have g13 : f (ad 15) = some (.inl (k 0, 64, .inl (c 15))) := hmo.arr 15 (by decide) (by decide)
            refine hm_iald X hK hM g13 0 rfl j rfl (by omega) (by decide) d_GrantServerModel_revoke_69 ?_
            refine lv_iconst (v := 1) hx hb d_GrantServerModel_revoke_70 (by decide) ?_
            have g14 : f (ad 21) = some (.inl (k 1, 520, .inl (c 21))) := hmo.arr 21 (by decide) (by decide)
            refine hm_zast X hK hM hS g14 1 rfl t hft ht (by decide) (y := 1) rfl d_GrantServerModel_revoke_71 (fun f15 H locs e16 hM hS => ?_)
            have hfr := hfr.ast 21 (by decide) (by decide) e16; have hmo : mo k f15 h ad sk v (va_up c 21 (upd (c 21) t 1)) := hmo.ast 21 (by decide) (by decide) e16
            refine lv_goto (tgt := 83) hx hb d_GrantServerModel_revoke_72 (by decide) ?_
            refine lv_iload_n hx hb d_GrantServerModel_revoke_83 rfl (lv_at hl 1 rfl) ?_
            refine lv_aload_n hx hb d_GrantServerModel_revoke_84 rfl (lv_at hl 2 rfl) ?_
            refine hm_calli hS hM hA (va_runV (As := []) (rest := [.int (nI (m_tok v c 48))]) X (m_c_activeTokens l D k f15 h ad sk v (va_up c 21 (upd (c 21) t 1))  hmo hfam H.size) (hm_cwV hts me_GrantServerModel_activeTokens wl_GrantServerModel_148 rfl rfl ⟨Nat.le_of_ble_eq_true rfl, Nat.le_of_ble_eq_true rfl⟩) (hm_preV hM hK hmo.1 rfl) rfl rfl hl.1 rfl (lv_room (Nat.le_of_ble_eq_true rfl)) d_GrantServerModel_revoke_85 ⟨Nat.le_of_ble_eq_true rfl, Nat.le_of_ble_eq_true rfl⟩) (fun r19 f17 H locs p18 hM hS => ?_)
            obtain ⟨rfl, rfl⟩ := p18
            refine lv_isub hx hb d_GrantServerModel_revoke_88 ?_
            exact hm_iret X hQ hr hlk hK hM hS d_GrantServerModel_revoke_89 ⟨rfl, hmo, hfr⟩
    · exact absurd hk h2
  · exact absurd (Int32.not_lt.mp hu) h1
set_option maxHeartbeats 4000000 in
set_option maxRecDepth 100000 in
theorem m_c_rv_2 (l : Launch) (D : va_G) (k : Nat → ClassId) (f : hm) (h : Nat) (ad : Nat → Nat) (sk : Int64) (v : Nat → Int32) (c : Nat → Nat → Int32) (x : Int32) (y : Int32) (j : Nat) (hmo : mo k f h ad sk v c) (hu : ¬ v 9 < 0) (hk : x = 2) (hfam : ∀ j, j < 64 → c 15 j < 0 ∨ ∃ t, t < 520 ∧ c 15 j = nI t) (hf : m_findF (c 10) y (m_toN x - m_fromN x) (m_fromN x) = nI j) (hj : j < 64) (ho : c 11 j = v 9) : hm_Mi l D vwCl (tyL k) y_GrantServerModel_revoke (Cond.code y_GrantServerModel_revoke b_GrantServerModel_revoke 5 (some .int) :: TB) ({ frames := 2, cells := 0, slots := 0, locals := 43 }) [.ref h, .int x, .int y] f (fun (r : Int32) (f1 : hm) => nI (m_tok v c 48) - nI (m_tok v (va_up c 14 (upd (c 14) j 1)) 48) = r ∧ mo k f1 h ad sk v (va_up c 14 (upd (c 14) j 1)) ∧ mo_fr h ad f f1) 0 0 := by
  refine hm_enter (Qc := fun sz => va_Qi _ (hm_R D vwCl (tyL k) f sz) (hm_A f sz)) (by decide) rfl (Nat.le_of_ble_eq_true rfl) ?_
  intro pg e s m below meth cd ls X0 hr hlk hin hK hM hS hA hl Q hQ
  have X : CallFix pg m cd b_GrantServerModel_revoke 5 s ([.ref h, .int x, .int y] : List Value).toArray TB R_GrantServerModel := ⟨X0.1, X0.2.1, X0.2.2.1, X0.2.2.2.1, fun w h => X0.2.2.2.2 w (List.mem_cons_of_mem _ h)⟩
  have hx := X.1; have hb := X.2.1; have hml := X.2.2.1; have hown := X.2.2.2.1; have hts := X.2.2.2.2
  have hl : lv_has ls 5 [(0, .ref h), (1, .int x), (2, .int y)] := hl
  have hfr : mo_fr h ad f f := mo_fr.rf
  refine lv_aload_n hx hb d_GrantServerModel_revoke_0 rfl (lv_at hl 0 rfl) ?_
  refine hm_get X hK hM hmo.1 fl_GrantServerModel_19 (v := .int (v 9)) rfl d_GrantServerModel_revoke_1 ?_
  refine lv_if_ge (tgt := 10) hx hb d_GrantServerModel_revoke_4 (by decide) (fun h1 => ?_) (fun h1 => ?_)
  · refine lv_iload_n hx hb d_GrantServerModel_revoke_10 rfl (lv_at hl 1 rfl) ?_
    refine lv_iconst (v := 1) hx hb d_GrantServerModel_revoke_11 (by decide) ?_
    refine lv_icmp_eq (tgt := 22) hx hb d_GrantServerModel_revoke_12 (by decide) (fun h2 => ?_) (fun h2 => ?_)
    · exact absurd (hk.symm.trans h2) (by decide)
    · refine lv_iload_n hx hb d_GrantServerModel_revoke_15 rfl (lv_at hl 1 rfl) ?_
      refine lv_iconst (v := 2) hx hb d_GrantServerModel_revoke_16 (by decide) ?_
      refine lv_icmp_eq (tgt := 22) hx hb d_GrantServerModel_revoke_17 (by decide) (fun h3 => ?_) (fun h3 => ?_)
      · refine lv_aload_n hx hb d_GrantServerModel_revoke_22 rfl (lv_at hl 0 rfl) ?_
        refine hm_calli hS hM hA (va_runV (As := []) (rest := []) X (m_c_activeTokens l D k f h ad sk v c  hmo hfam s.heap.size) (hm_cwV hts me_GrantServerModel_activeTokens wl_GrantServerModel_148 rfl rfl ⟨Nat.le_of_ble_eq_true rfl, Nat.le_of_ble_eq_true rfl⟩) (hm_preV hM hK hmo.1 rfl) rfl rfl hl.1 rfl (lv_room (Nat.le_of_ble_eq_true rfl)) d_GrantServerModel_revoke_23 ⟨Nat.le_of_ble_eq_true rfl, Nat.le_of_ble_eq_true rfl⟩) (fun r6 f4 H locs p5 hM hS => ?_)
        obtain ⟨rfl, rfl⟩ := p5
        refine lv_istore_n (lv' := [(3, .int (nI (m_tok v c 48))), (0, .ref h), (1, .int x), (2, .int y)]) hx hb d_GrantServerModel_revoke_26 rfl hl (by decide) rfl (fun ls hl => ?_)
        refine lv_aload_n hx hb d_GrantServerModel_revoke_27 rfl (lv_at hl 1 rfl) ?_
        refine lv_iload_n hx hb d_GrantServerModel_revoke_28 rfl (lv_at hl 2 rfl) ?_
        refine lv_iload_n hx hb d_GrantServerModel_revoke_29 rfl (lv_at hl 3 rfl) ?_
        refine hm_calli hS hM hA (va_runV (As := [.int x, .int y]) (rest := []) X (m_c_find l D k f h ad sk v c x y hmo  H.size) (hm_cwV hts me_GrantServerModel_find wl_GrantServerModel_100 rfl rfl ⟨Nat.le_of_ble_eq_true rfl, Nat.le_of_ble_eq_true rfl⟩) (hm_preV hM hK hmo.1 rfl) rfl rfl hl.1 rfl (lv_room (Nat.le_of_ble_eq_true rfl)) d_GrantServerModel_revoke_30 ⟨Nat.le_of_ble_eq_true rfl, Nat.le_of_ble_eq_true rfl⟩) (fun r9 f7 H locs p8 hM hS => ?_)
        obtain ⟨rfl, rfl⟩ := p8
        refine hm_top (z := nI j) hf ?_
        refine lv_istore (lv' := [(4, .int (nI j)), (3, .int (nI (m_tok v c 48))), (0, .ref h), (1, .int x), (2, .int y)]) hx hb d_GrantServerModel_revoke_33 hl (by decide) rfl (fun ls hl => ?_)
        refine lv_iload hx hb d_GrantServerModel_revoke_35 (lv_at hl 0 rfl) ?_
        refine lv_if_lt (tgt := 83) hx hb d_GrantServerModel_revoke_37 (by decide) (fun h10 => ?_) (fun h10 => ?_)
        · exact absurd h10 (nI_pos (by omega))
        · refine lv_aload_n hx hb d_GrantServerModel_revoke_40 rfl (lv_at hl 2 rfl) ?_
          refine hm_get X hK hM hmo.1 fl_GrantServerModel_26 (v := .ref (ad 11)) rfl d_GrantServerModel_revoke_41 ?_
          refine lv_iload hx hb d_GrantServerModel_revoke_44 (lv_at hl 0 rfl) ?_
          have g11 : f (ad 11) = some (.inl (k 0, 64, .inl (c 11))) := hmo.arr 11 (by decide) (by decide)
          refine hm_iald X hK hM g11 0 rfl j rfl (by omega) (by decide) d_GrantServerModel_revoke_46 ?_
          refine lv_aload_n hx hb d_GrantServerModel_revoke_47 rfl (lv_at hl 2 rfl) ?_
          refine hm_get X hK hM hmo.1 fl_GrantServerModel_19 (v := .int (v 9)) rfl d_GrantServerModel_revoke_48 ?_
          refine lv_icmp_ne (tgt := 83) hx hb d_GrantServerModel_revoke_51 (by decide) (fun h12 => ?_) (fun h12 => ?_)
          · exact absurd ho h12
          · refine lv_iload_n hx hb d_GrantServerModel_revoke_54 rfl (lv_at hl 3 rfl) ?_
            refine lv_iconst (v := 1) hx hb d_GrantServerModel_revoke_55 (by decide) ?_
            refine lv_icmp_ne (tgt := 75) hx hb d_GrantServerModel_revoke_56 (by decide) (fun h13 => ?_) (fun h13 => ?_)
            · refine lv_aload_n hx hb d_GrantServerModel_revoke_75 rfl (lv_at hl 2 rfl) ?_
              refine hm_get X hK hM hmo.1 fl_GrantServerModel_35 (v := .ref (ad 14)) rfl d_GrantServerModel_revoke_76 ?_
              refine lv_iload hx hb d_GrantServerModel_revoke_79 (lv_at hl 0 rfl) ?_
              refine lv_iconst (v := 1) hx hb d_GrantServerModel_revoke_81 (by decide) ?_
              have g14 : f (ad 14) = some (.inl (k 1, 64, .inl (c 14))) := hmo.arr 14 (by decide) (by decide)
              refine hm_zast X hK hM hS g14 1 rfl j rfl (by omega) (by decide) (y := 1) rfl d_GrantServerModel_revoke_82 (fun f15 H locs e16 hM hS => ?_)
              have hfr := hfr.ast 14 (by decide) (by decide) e16; have hmo : mo k f15 h ad sk v (va_up c 14 (upd (c 14) j 1)) := hmo.ast 14 (by decide) (by decide) e16
              refine lv_iload_n hx hb d_GrantServerModel_revoke_83 rfl (lv_at hl 1 rfl) ?_
              refine lv_aload_n hx hb d_GrantServerModel_revoke_84 rfl (lv_at hl 2 rfl) ?_
              refine hm_calli hS hM hA (va_runV (As := []) (rest := [.int (nI (m_tok v c 48))]) X (m_c_activeTokens l D k f15 h ad sk v (va_up c 14 (upd (c 14) j 1))  hmo hfam H.size) (hm_cwV hts me_GrantServerModel_activeTokens wl_GrantServerModel_148 rfl rfl ⟨Nat.le_of_ble_eq_true rfl, Nat.le_of_ble_eq_true rfl⟩) (hm_preV hM hK hmo.1 rfl) rfl rfl hl.1 rfl (lv_room (Nat.le_of_ble_eq_true rfl)) d_GrantServerModel_revoke_85 ⟨Nat.le_of_ble_eq_true rfl, Nat.le_of_ble_eq_true rfl⟩) (fun r19 f17 H locs p18 hM hS => ?_)
              obtain ⟨rfl, rfl⟩ := p18
              refine lv_isub hx hb d_GrantServerModel_revoke_88 ?_
              exact hm_iret X hQ hr hlk hK hM hS d_GrantServerModel_revoke_89 ⟨rfl, hmo, hfr⟩
            · exact absurd (hk.symm.trans h13) (by decide)
      · exact absurd hk h3
  · exact absurd (Int32.not_lt.mp hu) h1
set_option maxHeartbeats 4000000 in
set_option maxRecDepth 100000 in
theorem m_c_ck_form (l : Launch) (D : va_G) (k : Nat → ClassId) (f : hm) (h : Nat) (ad : Nat → Nat) (sk : Int64) (v : Nat → Int32) (c : Nat → Nat → Int32) (au : Int32) (sc : Int32) (n : Nat) (x : Nat → Int32) (ch : Nat → Nat) (hmo : mo k f h ad sk v c) (hn : v 24 = nI n) (hcx : c 23 = x) (hn9 : n ≤ 120) (hx9 : ∀ j, j < n → x j = nI (ch j) ∧ ch j < 127) (hn11 : 11 ≤ n) (hfo : ¬ z_form n x) : hm_Mi l D vwCl (tyL k) y_GrantServerModel_check (Cond.code y_GrantServerModel_check b_GrantServerModel_check 4 (some .int) :: TB) ({ frames := 2, cells := 0, slots := 0, locals := 42 }) [.ref h, .int au, .int sc] f (fun (r : Int32) (f1 : hm) => (-7) = r ∧ f = f1) 0 0 := by
  refine hm_enter (Qc := fun sz => va_Qi _ (hm_R D vwCl (tyL k) f sz) (hm_A f sz)) (by decide) rfl (Nat.le_of_ble_eq_true rfl) ?_
  intro pg e s m below meth cd ls X0 hr hlk hin hK hM hS hA hl Q hQ
  have X : CallFix pg m cd b_GrantServerModel_check 4 s ([.ref h, .int au, .int sc] : List Value).toArray TB R_GrantServerModel := ⟨X0.1, X0.2.1, X0.2.2.1, X0.2.2.2.1, fun w h => X0.2.2.2.2 w (List.mem_cons_of_mem _ h)⟩
  have hx := X.1; have hb := X.2.1; have hml := X.2.2.1; have hown := X.2.2.2.1; have hts := X.2.2.2.2
  have hl : lv_has ls 4 [(0, .ref h), (1, .int au), (2, .int sc)] := hl
  have hfr : mo_fr h ad f f := mo_fr.rf
  refine lv_aload_n hx hb d_GrantServerModel_check_0 rfl (lv_at hl 0 rfl) ?_
  refine hm_calli hS hM hA (va_runV (As := []) (rest := []) X (m_c_isForm l D k f h ad sk v c n x ch hmo hn hcx hn9 hx9 hn11 s.heap.size) (hm_cwV hts me_GrantServerModel_isForm wl_GrantServerModel_207 rfl rfl ⟨Nat.le_of_ble_eq_true rfl, Nat.le_of_ble_eq_true rfl⟩) (hm_preV hM hK hmo.1 rfl) rfl rfl hl.1 rfl (lv_room (Nat.le_of_ble_eq_true rfl)) d_GrantServerModel_check_1 ⟨Nat.le_of_ble_eq_true rfl, Nat.le_of_ble_eq_true rfl⟩) (fun r3 f1 H locs p2 hM hS => ?_)
  obtain ⟨h4, rfl⟩ := p2
  have hr9 : r3 = 0 := (h4.resolve_left (fun z => hfo z.2)).1
  refine hm_top (z := 0) hr9 ?_
  refine lv_if_ne (tgt := 10) hx hb d_GrantServerModel_check_4 (by decide) (fun h5 => ?_) (fun h5 => ?_)
  · exact absurd h5 (by decide)
  · refine lv_bipush (v := (-7)) hx hb d_GrantServerModel_check_7 (by decide) ?_
    exact hm_iret X hQ hr hlk hK hM hS d_GrantServerModel_check_9 ⟨rfl, rfl⟩
set_option maxHeartbeats 4000000 in
set_option maxRecDepth 100000 in
theorem m_c_ck_seal (l : Launch) (D : va_G) (k : Nat → ClassId) (f : hm) (h : Nat) (ad : Nat → Nat) (sk : Int64) (v : Nat → Int32) (c : Nat → Nat → Int32) (au : Int32) (sc : Int32) (n : Nat) (x : Nat → Int32) (ch : Nat → Nat) (hmo : mo k f h ad sk v c) (hn : v 24 = nI n) (hcx : c 23 = x) (hn9 : n ≤ 120) (hx9 : ∀ j, j < n → x j = nI (ch j) ∧ ch j < 127) (hn11 : 11 ≤ n) (hfo : z_form n x) (hse : ¬ z_sealed sk n x) : hm_Mi l D vwCl (tyL k) y_GrantServerModel_check (Cond.code y_GrantServerModel_check b_GrantServerModel_check 4 (some .int) :: TB) ({ frames := 2, cells := 0, slots := 0, locals := 48 }) [.ref h, .int au, .int sc] f (fun (r : Int32) (f1 : hm) => (-8) = r ∧ f = f1) 0 0 := by
  refine hm_enter (Qc := fun sz => va_Qi _ (hm_R D vwCl (tyL k) f sz) (hm_A f sz)) (by decide) rfl (Nat.le_of_ble_eq_true rfl) ?_
  intro pg e s m below meth cd ls X0 hr hlk hin hK hM hS hA hl Q hQ
  have X : CallFix pg m cd b_GrantServerModel_check 4 s ([.ref h, .int au, .int sc] : List Value).toArray TB R_GrantServerModel := ⟨X0.1, X0.2.1, X0.2.2.1, X0.2.2.2.1, fun w h => X0.2.2.2.2 w (List.mem_cons_of_mem _ h)⟩
  have hx := X.1; have hb := X.2.1; have hml := X.2.2.1; have hown := X.2.2.2.1; have hts := X.2.2.2.2
  have hl : lv_has ls 4 [(0, .ref h), (1, .int au), (2, .int sc)] := hl
  have hfr : mo_fr h ad f f := mo_fr.rf
  refine lv_aload_n hx hb d_GrantServerModel_check_0 rfl (lv_at hl 0 rfl) ?_
  refine hm_calli hS hM hA (va_runV (As := []) (rest := []) X (m_c_isForm l D k f h ad sk v c n x ch hmo hn hcx hn9 hx9 hn11 s.heap.size) (hm_cwV hts me_GrantServerModel_isForm wl_GrantServerModel_207 rfl rfl ⟨Nat.le_of_ble_eq_true rfl, Nat.le_of_ble_eq_true rfl⟩) (hm_preV hM hK hmo.1 rfl) rfl rfl hl.1 rfl (lv_room (Nat.le_of_ble_eq_true rfl)) d_GrantServerModel_check_1 ⟨Nat.le_of_ble_eq_true rfl, Nat.le_of_ble_eq_true rfl⟩) (fun r3 f1 H locs p2 hM hS => ?_)
  obtain ⟨h4, rfl⟩ := p2
  have hr9 : r3 = 1 := (h4.resolve_right (fun z => z.2 hfo)).1
  refine hm_top (z := 1) hr9 ?_
  refine lv_if_ne (tgt := 10) hx hb d_GrantServerModel_check_4 (by decide) (fun h5 => ?_) (fun h5 => ?_)
  · refine lv_aload_n hx hb d_GrantServerModel_check_10 rfl (lv_at hl 0 rfl) ?_
    refine hm_calli hS hM hA (va_runV (As := []) (rest := []) X (m_c_isSealed l D k f h ad sk v c n x ch hmo hn hcx hn9 hx9 hn11 hfo.2.2.2.1 H.size) (hm_cwV hts me_GrantServerModel_isSealed wl_GrantServerModel_210 rfl rfl ⟨Nat.le_of_ble_eq_true rfl, Nat.le_of_ble_eq_true rfl⟩) (hm_preV hM hK hmo.1 rfl) rfl rfl hl.1 rfl (lv_room (Nat.le_of_ble_eq_true rfl)) d_GrantServerModel_check_11 ⟨Nat.le_of_ble_eq_true rfl, Nat.le_of_ble_eq_true rfl⟩) (fun r8 f6 H locs p7 hM hS => ?_)
    obtain ⟨h9, rfl⟩ := p7
    have hr9 : r8 = 0 := (h9.resolve_left (fun z => hse z.2)).1
    refine hm_top (z := 0) hr9 ?_
    refine lv_if_ne (tgt := 20) hx hb d_GrantServerModel_check_14 (by decide) (fun h10 => ?_) (fun h10 => ?_)
    · exact absurd h10 (by decide)
    · refine lv_bipush (v := (-8)) hx hb d_GrantServerModel_check_17 (by decide) ?_
      exact hm_iret X hQ hr hlk hK hM hS d_GrantServerModel_check_19 ⟨rfl, rfl⟩
  · exact absurd h5 (by decide)
set_option maxHeartbeats 4000000 in
set_option maxRecDepth 100000 in
theorem m_c_ck (l : Launch) (D : va_G) (k : Nat → ClassId) (f : hm) (h : Nat) (ad : Nat → Nat) (sk : Int64) (v : Nat → Int32) (c : Nat → Nat → Int32) (au : Int32) (sc : Int32) (n : Nat) (x : Nat → Int32) (ch : Nat → Nat) (cl : Nat → Int32) (hmo : mo k f h ad sk v c) (hn : v 24 = nI n) (hcx : c 23 = x) (hn9 : n ≤ 120) (hx9 : ∀ j, j < n → x j = nI (ch j) ∧ ch j < 127) (hn11 : 11 ≤ n) (hcl : c 30 = cl) (hfo : z_form n x) (hse : z_sealed sk n x) (hfam : ∀ j, j < 64 → c 15 j < 0 ∨ ∃ t, t < 520 ∧ c 15 j = nI t) : hm_Mi l D vwCl (tyL k) y_GrantServerModel_check (Cond.code y_GrantServerModel_check b_GrantServerModel_check 4 (some .int) :: TB) ({ frames := 4, cells := 0, slots := 0, locals := 89 }) [.ref h, .int au, .int sc] f (fun (r : Int32) (f1 : hm) => ∃ (g : Nat → Int32) (p' : Nat) (cl' : Nat → Int32), (∀ e, e < (n - 11) * 6 / 8 → g e = nI (z_eight x e)) ∧ ((a_ck cl' (v 4) (m_dead v c (cl' 3)) au sc = r ∧ m_read ((n - 11) * 6 / 8) g (m_cm1 cl 5) = some cl') ∨ (-9 = r ∧ m_read ((n - 11) * 6 / 8) g (m_cm1 cl 5) = none)) ∧ mo k f1 h ad sk (upd (upd v 28 (nI ((n - 11) * 6 / 8))) 29 (nI p')) (va_up (va_up c 27 g) 30 cl') ∧ mo_fr h ad f f1) 0 0 := by
  refine hm_enter (Qc := fun sz => va_Qi _ (hm_R D vwCl (tyL k) f sz) (hm_A f sz)) (by decide) rfl (Nat.le_of_ble_eq_true rfl) ?_
  intro pg e s m below meth cd ls X0 hr hlk hin hK hM hS hA hl Q hQ
  have X : CallFix pg m cd b_GrantServerModel_check 4 s ([.ref h, .int au, .int sc] : List Value).toArray TB R_GrantServerModel := ⟨X0.1, X0.2.1, X0.2.2.1, X0.2.2.2.1, fun w h => X0.2.2.2.2 w (List.mem_cons_of_mem _ h)⟩
  have hx := X.1; have hb := X.2.1; have hml := X.2.2.1; have hown := X.2.2.2.1; have hts := X.2.2.2.2
  have hl : lv_has ls 4 [(0, .ref h), (1, .int au), (2, .int sc)] := hl
  have hfr : mo_fr h ad f f := mo_fr.rf
  refine lv_aload_n hx hb d_GrantServerModel_check_0 rfl (lv_at hl 0 rfl) ?_
  refine hm_calli hS hM hA (va_runV (As := []) (rest := []) X (m_c_isForm l D k f h ad sk v c n x ch hmo hn hcx hn9 hx9 hn11 s.heap.size) (hm_cwV hts me_GrantServerModel_isForm wl_GrantServerModel_207 rfl rfl ⟨Nat.le_of_ble_eq_true rfl, Nat.le_of_ble_eq_true rfl⟩) (hm_preV hM hK hmo.1 rfl) rfl rfl hl.1 rfl (lv_room (Nat.le_of_ble_eq_true rfl)) d_GrantServerModel_check_1 ⟨Nat.le_of_ble_eq_true rfl, Nat.le_of_ble_eq_true rfl⟩) (fun r3 f1 H locs p2 hM hS => ?_)
  obtain ⟨h4, rfl⟩ := p2
  have hr9 : r3 = 1 := (h4.resolve_right (fun z => z.2 hfo)).1
  refine hm_top (z := 1) hr9 ?_
  refine lv_if_ne (tgt := 10) hx hb d_GrantServerModel_check_4 (by decide) (fun h5 => ?_) (fun h5 => ?_)
  · refine lv_aload_n hx hb d_GrantServerModel_check_10 rfl (lv_at hl 0 rfl) ?_
    refine hm_calli hS hM hA (va_runV (As := []) (rest := []) X (m_c_isSealed l D k f h ad sk v c n x ch hmo hn hcx hn9 hx9 hn11 hfo.2.2.2.1 H.size) (hm_cwV hts me_GrantServerModel_isSealed wl_GrantServerModel_210 rfl rfl ⟨Nat.le_of_ble_eq_true rfl, Nat.le_of_ble_eq_true rfl⟩) (hm_preV hM hK hmo.1 rfl) rfl rfl hl.1 rfl (lv_room (Nat.le_of_ble_eq_true rfl)) d_GrantServerModel_check_11 ⟨Nat.le_of_ble_eq_true rfl, Nat.le_of_ble_eq_true rfl⟩) (fun r8 f6 H locs p7 hM hS => ?_)
    obtain ⟨h9, rfl⟩ := p7
    have hr9 : r8 = 1 := (h9.resolve_right (fun z => z.2 hse)).1
    refine hm_top (z := 1) hr9 ?_
    refine lv_if_ne (tgt := 20) hx hb d_GrantServerModel_check_14 (by decide) (fun h10 => ?_) (fun h10 => ?_)
    · refine lv_aload_n hx hb d_GrantServerModel_check_20 rfl (lv_at hl 0 rfl) ?_
      refine hm_callv hS hM hA (va_runV (As := []) (rest := []) X (m_c_unwrap l D k f h ad sk v c n x ch hmo hn hcx hn9 hx9 hn11 hfo.2.2.2.1 H.size) (hm_cwV hts me_GrantServerModel_unwrap wl_GrantServerModel_213 rfl rfl ⟨Nat.le_of_ble_eq_true rfl, Nat.le_of_ble_eq_true rfl⟩) (hm_preV hM hK hmo.1 rfl) rfl rfl hl.1 rfl (lv_room (Nat.le_of_ble_eq_true rfl)) d_GrantServerModel_check_21 ⟨Nat.le_of_ble_eq_true rfl, Nat.le_of_ble_eq_true rfl⟩) (fun f11 H locs p12 hM hS => ?_)
      obtain ⟨x13, h14, hmo, hfr15⟩ := p12
      have hfr := hfr.tr hfr15
      have hmo : mo k f11 h ad sk (upd v 28 (nI ((n - 11) * 6 / 8))) (va_up c 27 x13) := hmo
      refine lv_aload_n hx hb d_GrantServerModel_check_24 rfl (lv_at hl 0 rfl) ?_
      refine hm_calli hS hM hA (va_runV (As := []) (rest := []) X (m_c_readClaims l D k f11 h ad sk (upd v 28 (nI ((n - 11) * 6 / 8))) (va_up c 27 x13) ((n - 11) * 6 / 8) x13 cl hmo rfl rfl hcl (by omega) H.size) (hm_cwV hts me_GrantServerModel_readClaims wl_GrantServerModel_216 rfl rfl ⟨Nat.le_of_ble_eq_true rfl, Nat.le_of_ble_eq_true rfl⟩) (hm_preV hM hK hmo.1 rfl) rfl rfl hl.1 rfl (lv_room (Nat.le_of_ble_eq_true rfl)) d_GrantServerModel_check_25 ⟨Nat.le_of_ble_eq_true rfl, Nat.le_of_ble_eq_true rfl⟩) (fun r18 f16 H locs p17 hM hS => ?_)
      obtain ⟨x19, x20, h21, hmo, hfr22⟩ := p17
      have hfr := hfr.tr hfr22
      have hmo : mo k f16 h ad sk (upd (upd v 28 (nI ((n - 11) * 6 / 8))) 29 (nI x19)) (va_up (va_up c 27 x13) 30 x20) := hmo
      rcases h21 with ⟨hr1, hrd⟩ | ⟨hr1, hrd⟩
      · refine hm_top (z := 1) hr1 ?_
        refine lv_if_ne (tgt := 34) hx hb d_GrantServerModel_check_28 (by decide) (fun h23 => ?_) (fun h23 => ?_)
        · refine lv_aload_n hx hb d_GrantServerModel_check_34 rfl (lv_at hl 0 rfl) ?_
          refine hm_get X hK hM hmo.1 fl_GrantServerModel_66 (v := .ref (ad 30)) rfl d_GrantServerModel_check_35 ?_
          refine lv_iconst (v := 2) hx hb d_GrantServerModel_check_38 (by decide) ?_
          have g24 : f16 (ad 30) = some (.inl (k 0, 5, .inl x20)) := hmo.arr 30 (by decide) (by decide)
          refine hm_iald X hK hM g24 0 rfl 2 rfl (by decide) (by decide) d_GrantServerModel_check_39 ?_
          refine lv_aload_n hx hb d_GrantServerModel_check_40 rfl (lv_at hl 0 rfl) ?_
          refine hm_get X hK hM hmo.1 fl_GrantServerModel_104 (v := .int (v 4)) rfl d_GrantServerModel_check_41 ?_
          refine lv_icmp_gt (tgt := 50) hx hb d_GrantServerModel_check_44 (by decide) (fun h25 => ?_) (fun h25 => ?_)
          · refine lv_aload_n hx hb d_GrantServerModel_check_50 rfl (lv_at hl 0 rfl) ?_
            refine lv_iconst (v := 2) hx hb d_GrantServerModel_check_51 (by decide) ?_
            refine lv_aload_n hx hb d_GrantServerModel_check_52 rfl (lv_at hl 0 rfl) ?_
            refine hm_get X hK hM hmo.1 fl_GrantServerModel_66 (v := .ref (ad 30)) rfl d_GrantServerModel_check_53 ?_
            refine lv_iconst (v := 3) hx hb d_GrantServerModel_check_56 (by decide) ?_
            have g26 : f16 (ad 30) = some (.inl (k 0, 5, .inl x20)) := hmo.arr 30 (by decide) (by decide)
            refine hm_iald X hK hM g26 0 rfl 3 rfl (by decide) (by decide) d_GrantServerModel_check_57 ?_
            refine hm_calli hS hM hA (va_runV (As := [.int 2, .int (x20 3)]) (rest := []) X (m_c_find l D k f16 h ad sk (upd (upd v 28 (nI ((n - 11) * 6 / 8))) 29 (nI x19)) (va_up (va_up c 27 x13) 30 x20) 2 (x20 3) hmo  H.size) (hm_cwV hts me_GrantServerModel_find wl_GrantServerModel_100 rfl rfl ⟨Nat.le_of_ble_eq_true rfl, Nat.le_of_ble_eq_true rfl⟩) (hm_preV hM hK hmo.1 rfl) rfl rfl hl.1 rfl (lv_room (Nat.le_of_ble_eq_true rfl)) d_GrantServerModel_check_58 ⟨Nat.le_of_ble_eq_true rfl, Nat.le_of_ble_eq_true rfl⟩) (fun r29 f27 H locs p28 hM hS => ?_)
            obtain ⟨rfl, rfl⟩ := p28
            refine hm_top (z := m_findF (c 10) (x20 3) 24 40) (by show m_findF (c 10) _ (m_toN 2 - m_fromN 2) (m_fromN 2) = _; simp [m_toN, m_fromN]) ?_
            refine lv_istore_n (lv' := [(3, .int (m_findF (c 10) (x20 3) 24 40)), (0, .ref h), (1, .int au), (2, .int sc)]) hx hb d_GrantServerModel_check_61 rfl hl (by decide) rfl (fun ls hl => ?_)
            refine lv_iload_n hx hb d_GrantServerModel_check_62 rfl (lv_at hl 0 rfl) ?_
            refine lv_if_lt (tgt := 74) hx hb d_GrantServerModel_check_63 (by decide) (fun h30 => ?_) (fun h30 => ?_)
            · refine lv_bipush (v := (-11)) hx hb d_GrantServerModel_check_74 (by decide) ?_
              exact hm_iret X hQ hr hlk hK hM hS d_GrantServerModel_check_76 ⟨x13, x19, x20, h14, (Or.inl ⟨by simp [a_ck, h5, h10, h23, h25, Int32.not_le.mpr h25, h30, Int32.not_le.mpr h30, m_dead_n (v := v) (c := c) h30], hrd⟩), hmo.cv rfl rfl, hfr⟩
            · obtain ⟨j9, hj9, hF⟩ := m_findF_in h30
              refine lv_aload_n hx hb d_GrantServerModel_check_66 rfl (lv_at hl 1 rfl) ?_
              refine lv_iload_n hx hb d_GrantServerModel_check_67 rfl (lv_at hl 0 rfl) ?_
              refine hm_top (z := nI j9) hF ?_
              refine hm_calli hS hM hA (va_runV (As := [.int (nI j9)]) (rest := []) X (m_c_isActive l D k f16 h ad sk (upd (upd v 28 (nI ((n - 11) * 6 / 8))) 29 (nI x19)) (va_up (va_up c 27 x13) 30 x20) j9 hmo (by omega) (hfam _ (by omega)) H.size) (hm_cwV hts me_GrantServerModel_isActive wl_GrantServerModel_145 rfl rfl ⟨Nat.le_of_ble_eq_true rfl, Nat.le_of_ble_eq_true rfl⟩) (hm_preV hM hK hmo.1 rfl) rfl rfl hl.1 rfl (lv_room (Nat.le_of_ble_eq_true rfl)) d_GrantServerModel_check_68 ⟨Nat.le_of_ble_eq_true rfl, Nat.le_of_ble_eq_true rfl⟩) (fun r33 f31 H locs p32 hM hS => ?_)
              obtain ⟨rfl, rfl⟩ := p32
              refine lv_if_ne (tgt := 77) hx hb d_GrantServerModel_check_71 (by decide) (fun h34 => ?_) (fun h34 => ?_)
              · refine lv_aload_n hx hb d_GrantServerModel_check_77 rfl (lv_at hl 1 rfl) ?_
                refine hm_get X hK hM hmo.1 fl_GrantServerModel_66 (v := .ref (ad 30)) rfl d_GrantServerModel_check_78 ?_
                refine lv_iconst (v := 1) hx hb d_GrantServerModel_check_81 (by decide) ?_
                have g35 : f16 (ad 30) = some (.inl (k 0, 5, .inl x20)) := hmo.arr 30 (by decide) (by decide)
                refine hm_iald X hK hM g35 0 rfl 1 rfl (by decide) (by decide) d_GrantServerModel_check_82 ?_
                refine lv_iload_n hx hb d_GrantServerModel_check_83 rfl (lv_at hl 2 rfl) ?_
                refine lv_icmp_eq (tgt := 90) hx hb d_GrantServerModel_check_84 (by decide) (fun h36 => ?_) (fun h36 => ?_)
                · refine lv_iload_n hx hb d_GrantServerModel_check_90 rfl (lv_at hl 3 rfl) ?_
                  refine lv_bipush (v := 15) hx hb d_GrantServerModel_check_91 (by decide) ?_
                  refine lv_iand hx hb d_GrantServerModel_check_93 ?_
                  refine lv_aload_n hx hb d_GrantServerModel_check_94 rfl (lv_at hl 1 rfl) ?_
                  refine hm_get X hK hM hmo.1 fl_GrantServerModel_66 (v := .ref (ad 30)) rfl d_GrantServerModel_check_95 ?_
                  refine lv_iconst (v := 4) hx hb d_GrantServerModel_check_98 (by decide) ?_
                  have g37 : f16 (ad 30) = some (.inl (k 0, 5, .inl x20)) := hmo.arr 30 (by decide) (by decide)
                  refine hm_iald X hK hM g37 0 rfl 4 rfl (by decide) (by decide) d_GrantServerModel_check_99 ?_
                  refine lv_iconst (v := (-1)) hx hb d_GrantServerModel_check_100 (by decide) ?_
                  refine lv_ixor hx hb d_GrantServerModel_check_101 ?_
                  refine lv_iand hx hb d_GrantServerModel_check_102 ?_
                  refine lv_if_eq (tgt := 111) hx hb d_GrantServerModel_check_103 (by decide) (fun h38 => ?_) (fun h38 => ?_)
                  · refine lv_aload_n hx hb d_GrantServerModel_check_111 rfl (lv_at hl 1 rfl) ?_
                    refine hm_get X hK hM hmo.1 fl_GrantServerModel_66 (v := .ref (ad 30)) rfl d_GrantServerModel_check_112 ?_
                    refine lv_iconst (v := 0) hx hb d_GrantServerModel_check_115 (by decide) ?_
                    have g39 : f16 (ad 30) = some (.inl (k 0, 5, .inl x20)) := hmo.arr 30 (by decide) (by decide)
                    refine hm_iald X hK hM g39 0 rfl 0 rfl (by decide) (by decide) d_GrantServerModel_check_116 ?_
                    exact hm_iret X hQ hr hlk hK hM hS d_GrantServerModel_check_117 ⟨x13, x19, x20, h14, (Or.inl ⟨by simp [a_ck, h5, h10, h23, h25, Int32.not_le.mpr h25, h30, Int32.not_lt.mp h30, h34, h36, h38, z_wi_1 h38, m_dead_a (v := v) (c := c) hF (by omega) h34], hrd⟩), hmo.cv rfl rfl, hfr⟩
                  · refine lv_bipush (v := (-4)) hx hb d_GrantServerModel_check_106 (by decide) ?_
                    refine lv_goto (tgt := 117) hx hb d_GrantServerModel_check_108 (by decide) ?_
                    exact hm_iret X hQ hr hlk hK hM hS d_GrantServerModel_check_117 ⟨x13, x19, x20, h14, (Or.inl ⟨by simp [a_ck, h5, h10, h23, h25, Int32.not_le.mpr h25, h30, Int32.not_lt.mp h30, h34, h36, h38, z_wi_0 h38, m_dead_a (v := v) (c := c) hF (by omega) h34], hrd⟩), hmo.cv rfl rfl, hfr⟩
                · refine lv_bipush (v := (-12)) hx hb d_GrantServerModel_check_87 (by decide) ?_
                  exact hm_iret X hQ hr hlk hK hM hS d_GrantServerModel_check_89 ⟨x13, x19, x20, h14, (Or.inl ⟨by simp [a_ck, h5, h10, h23, h25, Int32.not_le.mpr h25, h30, Int32.not_lt.mp h30, h34, h36, m_dead_a (v := v) (c := c) hF (by omega) h34], hrd⟩), hmo.cv rfl rfl, hfr⟩
              · refine lv_bipush (v := (-11)) hx hb d_GrantServerModel_check_74 (by decide) ?_
                exact hm_iret X hQ hr hlk hK hM hS d_GrantServerModel_check_76 ⟨x13, x19, x20, h14, (Or.inl ⟨by simp [a_ck, h5, h10, h23, h25, Int32.not_le.mpr h25, h30, Int32.not_lt.mp h30, h34, m_dead_b (v := v) (c := c) hF (by omega) h34], hrd⟩), hmo.cv rfl rfl, hfr⟩
          · refine lv_bipush (v := (-10)) hx hb d_GrantServerModel_check_47 (by decide) ?_
            exact hm_iret X hQ hr hlk hK hM hS d_GrantServerModel_check_49 ⟨x13, x19, x20, h14, (Or.inl ⟨by simp [a_ck, h5, h10, h23, h25, Int32.not_lt.mp h25], hrd⟩), hmo.cv rfl rfl, hfr⟩
        · exact absurd h23 (by decide)
      · refine hm_top (z := 0) hr1 ?_
        refine lv_if_ne (tgt := 34) hx hb d_GrantServerModel_check_28 (by decide) (fun h23 => ?_) (fun h23 => ?_)
        · exact absurd h23 (by decide)
        · refine lv_bipush (v := (-9)) hx hb d_GrantServerModel_check_31 (by decide) ?_
          exact hm_iret X hQ hr hlk hK hM hS d_GrantServerModel_check_33 ⟨x13, x19, x20, h14, (Or.inr ⟨rfl, hrd⟩), hmo.cv rfl rfl, hfr⟩
    · exact absurd h10 (by decide)
  · exact absurd h5 (by decide)
