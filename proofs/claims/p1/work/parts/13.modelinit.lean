theorem d_GrantServerModel_init_0 : decode b_GrantServerModel_init 0 = .ok (.aload_n 0, 1) := by decide +kernel
theorem d_GrantServerModel_init_1 : decode b_GrantServerModel_init 1 = .ok (.invokespecial 1, 3) := by decide +kernel
theorem d_GrantServerModel_init_4 : decode b_GrantServerModel_init 4 = .ok (.aload_n 0, 1) := by decide +kernel
theorem d_GrantServerModel_init_5 : decode b_GrantServerModel_init 5 = .ok (.iconst 4, 1) := by decide +kernel
theorem d_GrantServerModel_init_6 : decode b_GrantServerModel_init 6 = .ok (.newarray .int, 2) := by decide +kernel
theorem d_GrantServerModel_init_8 : decode b_GrantServerModel_init 8 = .ok (.putfield 7, 3) := by decide +kernel
theorem d_GrantServerModel_init_11 : decode b_GrantServerModel_init 11 = .ok (.aload_n 0, 1) := by decide +kernel
theorem d_GrantServerModel_init_12 : decode b_GrantServerModel_init 12 = .ok (.iconst 4, 1) := by decide +kernel
theorem d_GrantServerModel_init_13 : decode b_GrantServerModel_init 13 = .ok (.newarray .int, 2) := by decide +kernel
theorem d_GrantServerModel_init_15 : decode b_GrantServerModel_init 15 = .ok (.putfield 13, 3) := by decide +kernel
theorem d_GrantServerModel_init_18 : decode b_GrantServerModel_init 18 = .ok (.aload_n 0, 1) := by decide +kernel
theorem d_GrantServerModel_init_19 : decode b_GrantServerModel_init 19 = .ok (.iconst 4, 1) := by decide +kernel
theorem d_GrantServerModel_init_20 : decode b_GrantServerModel_init 20 = .ok (.newarray .int, 2) := by decide +kernel
theorem d_GrantServerModel_init_22 : decode b_GrantServerModel_init 22 = .ok (.putfield 16, 3) := by decide +kernel
theorem d_GrantServerModel_init_25 : decode b_GrantServerModel_init 25 = .ok (.aload_n 0, 1) := by decide +kernel
theorem d_GrantServerModel_init_26 : decode b_GrantServerModel_init 26 = .ok (.iconst (-1), 1) := by decide +kernel
theorem d_GrantServerModel_init_27 : decode b_GrantServerModel_init 27 = .ok (.putfield 19, 3) := by decide +kernel
theorem d_GrantServerModel_init_30 : decode b_GrantServerModel_init 30 = .ok (.aload_n 0, 1) := by decide +kernel
theorem d_GrantServerModel_init_31 : decode b_GrantServerModel_init 31 = .ok (.bipush 64, 2) := by decide +kernel
theorem d_GrantServerModel_init_33 : decode b_GrantServerModel_init 33 = .ok (.newarray .int, 2) := by decide +kernel
theorem d_GrantServerModel_init_35 : decode b_GrantServerModel_init 35 = .ok (.putfield 23, 3) := by decide +kernel
theorem d_GrantServerModel_init_38 : decode b_GrantServerModel_init 38 = .ok (.aload_n 0, 1) := by decide +kernel
theorem d_GrantServerModel_init_39 : decode b_GrantServerModel_init 39 = .ok (.bipush 64, 2) := by decide +kernel
theorem d_GrantServerModel_init_41 : decode b_GrantServerModel_init 41 = .ok (.newarray .int, 2) := by decide +kernel
theorem d_GrantServerModel_init_43 : decode b_GrantServerModel_init 43 = .ok (.putfield 26, 3) := by decide +kernel
theorem d_GrantServerModel_init_46 : decode b_GrantServerModel_init 46 = .ok (.aload_n 0, 1) := by decide +kernel
theorem d_GrantServerModel_init_47 : decode b_GrantServerModel_init 47 = .ok (.bipush 64, 2) := by decide +kernel
theorem d_GrantServerModel_init_49 : decode b_GrantServerModel_init 49 = .ok (.newarray .int, 2) := by decide +kernel
theorem d_GrantServerModel_init_51 : decode b_GrantServerModel_init 51 = .ok (.putfield 29, 3) := by decide +kernel
theorem d_GrantServerModel_init_54 : decode b_GrantServerModel_init 54 = .ok (.aload_n 0, 1) := by decide +kernel
theorem d_GrantServerModel_init_55 : decode b_GrantServerModel_init 55 = .ok (.bipush 64, 2) := by decide +kernel
theorem d_GrantServerModel_init_57 : decode b_GrantServerModel_init 57 = .ok (.newarray .int, 2) := by decide +kernel
theorem d_GrantServerModel_init_59 : decode b_GrantServerModel_init 59 = .ok (.putfield 32, 3) := by decide +kernel
theorem d_GrantServerModel_init_62 : decode b_GrantServerModel_init 62 = .ok (.aload_n 0, 1) := by decide +kernel
theorem d_GrantServerModel_init_63 : decode b_GrantServerModel_init 63 = .ok (.bipush 64, 2) := by decide +kernel
theorem d_GrantServerModel_init_65 : decode b_GrantServerModel_init 65 = .ok (.newarray .boolean, 2) := by decide +kernel
theorem d_GrantServerModel_init_67 : decode b_GrantServerModel_init 67 = .ok (.putfield 35, 3) := by decide +kernel
theorem d_GrantServerModel_init_70 : decode b_GrantServerModel_init 70 = .ok (.aload_n 0, 1) := by decide +kernel
theorem d_GrantServerModel_init_71 : decode b_GrantServerModel_init 71 = .ok (.bipush 64, 2) := by decide +kernel
theorem d_GrantServerModel_init_73 : decode b_GrantServerModel_init 73 = .ok (.newarray .int, 2) := by decide +kernel
theorem d_GrantServerModel_init_75 : decode b_GrantServerModel_init 75 = .ok (.putfield 39, 3) := by decide +kernel
theorem d_GrantServerModel_init_78 : decode b_GrantServerModel_init 78 = .ok (.aload_n 0, 1) := by decide +kernel
theorem d_GrantServerModel_init_79 : decode b_GrantServerModel_init 79 = .ok (.bipush 16, 2) := by decide +kernel
theorem d_GrantServerModel_init_81 : decode b_GrantServerModel_init 81 = .ok (.newarray .int, 2) := by decide +kernel
theorem d_GrantServerModel_init_83 : decode b_GrantServerModel_init 83 = .ok (.putfield 42, 3) := by decide +kernel
theorem d_GrantServerModel_init_86 : decode b_GrantServerModel_init 86 = .ok (.aload_n 0, 1) := by decide +kernel
theorem d_GrantServerModel_init_87 : decode b_GrantServerModel_init 87 = .ok (.bipush 16, 2) := by decide +kernel
theorem d_GrantServerModel_init_89 : decode b_GrantServerModel_init 89 = .ok (.newarray .int, 2) := by decide +kernel
theorem d_GrantServerModel_init_91 : decode b_GrantServerModel_init 91 = .ok (.putfield 45, 3) := by decide +kernel
theorem d_GrantServerModel_init_94 : decode b_GrantServerModel_init 94 = .ok (.aload_n 0, 1) := by decide +kernel
theorem d_GrantServerModel_init_95 : decode b_GrantServerModel_init 95 = .ok (.sipush 520, 3) := by decide +kernel
theorem d_GrantServerModel_init_98 : decode b_GrantServerModel_init 98 = .ok (.newarray .int, 2) := by decide +kernel
theorem d_GrantServerModel_init_100 : decode b_GrantServerModel_init 100 = .ok (.putfield 48, 3) := by decide +kernel
theorem d_GrantServerModel_init_103 : decode b_GrantServerModel_init 103 = .ok (.aload_n 0, 1) := by decide +kernel
theorem d_GrantServerModel_init_104 : decode b_GrantServerModel_init 104 = .ok (.sipush 520, 3) := by decide +kernel
theorem d_GrantServerModel_init_107 : decode b_GrantServerModel_init 107 = .ok (.newarray .int, 2) := by decide +kernel
theorem d_GrantServerModel_init_109 : decode b_GrantServerModel_init 109 = .ok (.putfield 51, 3) := by decide +kernel
theorem d_GrantServerModel_init_112 : decode b_GrantServerModel_init 112 = .ok (.aload_n 0, 1) := by decide +kernel
theorem d_GrantServerModel_init_113 : decode b_GrantServerModel_init 113 = .ok (.sipush 520, 3) := by decide +kernel
theorem d_GrantServerModel_init_116 : decode b_GrantServerModel_init 116 = .ok (.newarray .boolean, 2) := by decide +kernel
theorem d_GrantServerModel_init_118 : decode b_GrantServerModel_init 118 = .ok (.putfield 54, 3) := by decide +kernel
theorem d_GrantServerModel_init_121 : decode b_GrantServerModel_init 121 = .ok (.aload_n 0, 1) := by decide +kernel
theorem d_GrantServerModel_init_122 : decode b_GrantServerModel_init 122 = .ok (.bipush 120, 2) := by decide +kernel
theorem d_GrantServerModel_init_124 : decode b_GrantServerModel_init 124 = .ok (.newarray .int, 2) := by decide +kernel
theorem d_GrantServerModel_init_126 : decode b_GrantServerModel_init 126 = .ok (.putfield 57, 3) := by decide +kernel
theorem d_GrantServerModel_init_129 : decode b_GrantServerModel_init 129 = .ok (.aload_n 0, 1) := by decide +kernel
theorem d_GrantServerModel_init_130 : decode b_GrantServerModel_init 130 = .ok (.bipush 120, 2) := by decide +kernel
theorem d_GrantServerModel_init_132 : decode b_GrantServerModel_init 132 = .ok (.newarray .int, 2) := by decide +kernel
theorem d_GrantServerModel_init_134 : decode b_GrantServerModel_init 134 = .ok (.putfield 60, 3) := by decide +kernel
theorem d_GrantServerModel_init_137 : decode b_GrantServerModel_init 137 = .ok (.aload_n 0, 1) := by decide +kernel
theorem d_GrantServerModel_init_138 : decode b_GrantServerModel_init 138 = .ok (.sipush 130, 3) := by decide +kernel
theorem d_GrantServerModel_init_141 : decode b_GrantServerModel_init 141 = .ok (.newarray .int, 2) := by decide +kernel
theorem d_GrantServerModel_init_143 : decode b_GrantServerModel_init 143 = .ok (.putfield 63, 3) := by decide +kernel
theorem d_GrantServerModel_init_146 : decode b_GrantServerModel_init 146 = .ok (.aload_n 0, 1) := by decide +kernel
theorem d_GrantServerModel_init_147 : decode b_GrantServerModel_init 147 = .ok (.iconst 5, 1) := by decide +kernel
theorem d_GrantServerModel_init_148 : decode b_GrantServerModel_init 148 = .ok (.newarray .int, 2) := by decide +kernel
theorem d_GrantServerModel_init_150 : decode b_GrantServerModel_init 150 = .ok (.putfield 66, 3) := by decide +kernel
theorem d_GrantServerModel_init_153 : decode b_GrantServerModel_init 153 = .ok (.aload_n 0, 1) := by decide +kernel
theorem d_GrantServerModel_init_154 : decode b_GrantServerModel_init 154 = .ok (.iload_n 1, 1) := by decide +kernel
theorem d_GrantServerModel_init_155 : decode b_GrantServerModel_init 155 = .ok (.i2l, 1) := by decide +kernel
theorem d_GrantServerModel_init_156 : decode b_GrantServerModel_init 156 = .ok (.putfield 69, 3) := by decide +kernel
theorem d_GrantServerModel_init_159 : decode b_GrantServerModel_init 159 = .ok (.aload_n 0, 1) := by decide +kernel
theorem d_GrantServerModel_init_160 : decode b_GrantServerModel_init 160 = .ok (.iload_n 2, 1) := by decide +kernel
theorem d_GrantServerModel_init_161 : decode b_GrantServerModel_init 161 = .ok (.invokestatic 73, 3) := by decide +kernel
theorem d_GrantServerModel_init_164 : decode b_GrantServerModel_init 164 = .ok (.putfield 77, 3) := by decide +kernel
theorem d_GrantServerModel_init_167 : decode b_GrantServerModel_init 167 = .ok (.aload_n 0, 1) := by decide +kernel
theorem d_GrantServerModel_init_168 : decode b_GrantServerModel_init 168 = .ok (.iload_n 3, 1) := by decide +kernel
theorem d_GrantServerModel_init_169 : decode b_GrantServerModel_init 169 = .ok (.invokestatic 73, 3) := by decide +kernel
theorem d_GrantServerModel_init_172 : decode b_GrantServerModel_init 172 = .ok (.putfield 80, 3) := by decide +kernel
theorem d_GrantServerModel_init_175 : decode b_GrantServerModel_init 175 = .ok (.aload_n 0, 1) := by decide +kernel
theorem d_GrantServerModel_init_176 : decode b_GrantServerModel_init 176 = .ok (.iload 4, 2) := by decide +kernel
theorem d_GrantServerModel_init_178 : decode b_GrantServerModel_init 178 = .ok (.invokestatic 73, 3) := by decide +kernel
theorem d_GrantServerModel_init_181 : decode b_GrantServerModel_init 181 = .ok (.putfield 83, 3) := by decide +kernel
theorem d_GrantServerModel_init_184 : decode b_GrantServerModel_init 184 = .ok (.return_, 1) := by decide +kernel
set_option maxRecDepth 20000 in
theorem fF_GrantServerModel_13 : hm_flF vwCl TB R_GrantServerModel 13 8 6 (.array .int) := ⟨_, _, _, _, cl_GrantServerModel, by decide, (TBm 698 (by decide +kernel) rfl), rfl, rfl, rfl⟩
set_option maxRecDepth 20000 in
theorem fF_GrantServerModel_16 : hm_flF vwCl TB R_GrantServerModel 16 8 7 (.array .int) := ⟨_, _, _, _, cl_GrantServerModel, by decide, (TBm 699 (by decide +kernel) rfl), rfl, rfl, rfl⟩
set_option maxRecDepth 20000 in
theorem fF_GrantServerModel_23 : hm_flF vwCl TB R_GrantServerModel 23 8 10 (.array .int) := ⟨_, _, _, _, cl_GrantServerModel, by decide, (TBm 702 (by decide +kernel) rfl), rfl, rfl, rfl⟩
set_option maxRecDepth 20000 in
theorem fF_GrantServerModel_26 : hm_flF vwCl TB R_GrantServerModel 26 8 11 (.array .int) := ⟨_, _, _, _, cl_GrantServerModel, by decide, (TBm 703 (by decide +kernel) rfl), rfl, rfl, rfl⟩
set_option maxRecDepth 20000 in
theorem fF_GrantServerModel_29 : hm_flF vwCl TB R_GrantServerModel 29 8 12 (.array .int) := ⟨_, _, _, _, cl_GrantServerModel, by decide, (TBm 704 (by decide +kernel) rfl), rfl, rfl, rfl⟩
set_option maxRecDepth 20000 in
theorem fF_GrantServerModel_32 : hm_flF vwCl TB R_GrantServerModel 32 8 13 (.array .int) := ⟨_, _, _, _, cl_GrantServerModel, by decide, (TBm 705 (by decide +kernel) rfl), rfl, rfl, rfl⟩
set_option maxRecDepth 20000 in
theorem fF_GrantServerModel_35 : hm_flF vwCl TB R_GrantServerModel 35 8 14 (.array .boolean) := ⟨_, _, _, _, cl_GrantServerModel, by decide, (TBm 706 (by decide +kernel) rfl), rfl, rfl, rfl⟩
set_option maxRecDepth 20000 in
theorem fF_GrantServerModel_39 : hm_flF vwCl TB R_GrantServerModel 39 8 15 (.array .int) := ⟨_, _, _, _, cl_GrantServerModel, by decide, (TBm 707 (by decide +kernel) rfl), rfl, rfl, rfl⟩
set_option maxRecDepth 20000 in
theorem fF_GrantServerModel_42 : hm_flF vwCl TB R_GrantServerModel 42 8 16 (.array .int) := ⟨_, _, _, _, cl_GrantServerModel, by decide, (TBm 708 (by decide +kernel) rfl), rfl, rfl, rfl⟩
set_option maxRecDepth 20000 in
theorem fF_GrantServerModel_45 : hm_flF vwCl TB R_GrantServerModel 45 8 17 (.array .int) := ⟨_, _, _, _, cl_GrantServerModel, by decide, (TBm 709 (by decide +kernel) rfl), rfl, rfl, rfl⟩
set_option maxRecDepth 20000 in
theorem fF_GrantServerModel_48 : hm_flF vwCl TB R_GrantServerModel 48 8 19 (.array .int) := ⟨_, _, _, _, cl_GrantServerModel, by decide, (TBm 711 (by decide +kernel) rfl), rfl, rfl, rfl⟩
set_option maxRecDepth 20000 in
theorem fF_GrantServerModel_51 : hm_flF vwCl TB R_GrantServerModel 51 8 20 (.array .int) := ⟨_, _, _, _, cl_GrantServerModel, by decide, (TBm 712 (by decide +kernel) rfl), rfl, rfl, rfl⟩
set_option maxRecDepth 20000 in
theorem fF_GrantServerModel_54 : hm_flF vwCl TB R_GrantServerModel 54 8 21 (.array .boolean) := ⟨_, _, _, _, cl_GrantServerModel, by decide, (TBm 713 (by decide +kernel) rfl), rfl, rfl, rfl⟩
set_option maxRecDepth 20000 in
theorem fF_GrantServerModel_57 : hm_flF vwCl TB R_GrantServerModel 57 8 23 (.array .int) := ⟨_, _, _, _, cl_GrantServerModel, by decide, (TBm 715 (by decide +kernel) rfl), rfl, rfl, rfl⟩
set_option maxRecDepth 20000 in
theorem fF_GrantServerModel_60 : hm_flF vwCl TB R_GrantServerModel 60 8 25 (.array .int) := ⟨_, _, _, _, cl_GrantServerModel, by decide, (TBm 717 (by decide +kernel) rfl), rfl, rfl, rfl⟩
set_option maxRecDepth 20000 in
theorem fF_GrantServerModel_63 : hm_flF vwCl TB R_GrantServerModel 63 8 27 (.array .int) := ⟨_, _, _, _, cl_GrantServerModel, by decide, (TBm 719 (by decide +kernel) rfl), rfl, rfl, rfl⟩
set_option maxRecDepth 20000 in
theorem fF_GrantServerModel_66 : hm_flF vwCl TB R_GrantServerModel 66 8 30 (.array .int) := ⟨_, _, _, _, cl_GrantServerModel, by decide, (TBm 722 (by decide +kernel) rfl), rfl, rfl, rfl⟩
set_option maxRecDepth 20000 in
theorem fF_GrantServerModel_69 : hm_flF vwCl TB R_GrantServerModel 69 8 0 .long := ⟨_, _, _, _, cl_GrantServerModel, by decide, (TBm 692 (by decide +kernel) rfl), rfl, rfl, rfl⟩
set_option maxRecDepth 20000 in
theorem fF_GrantServerModel_7 : hm_flF vwCl TB R_GrantServerModel 7 8 5 (.array .int) := ⟨_, _, _, _, cl_GrantServerModel, by decide, (TBm 697 (by decide +kernel) rfl), rfl, rfl, rfl⟩
set_option maxRecDepth 20000 in
theorem fF_GrantServerModel_77 : hm_flF vwCl TB R_GrantServerModel 77 8 1 .int := ⟨_, _, _, _, cl_GrantServerModel, by decide, (TBm 693 (by decide +kernel) rfl), rfl, rfl, rfl⟩
set_option maxRecDepth 20000 in
theorem fF_GrantServerModel_80 : hm_flF vwCl TB R_GrantServerModel 80 8 2 .int := ⟨_, _, _, _, cl_GrantServerModel, by decide, (TBm 694 (by decide +kernel) rfl), rfl, rfl, rfl⟩
set_option maxRecDepth 20000 in
theorem fF_GrantServerModel_83 : hm_flF vwCl TB R_GrantServerModel 83 8 3 .int := ⟨_, _, _, _, cl_GrantServerModel, by decide, (TBm 695 (by decide +kernel) rfl), rfl, rfl, rfl⟩
set_option maxRecDepth 20000 in
theorem fl_GrantServerModel_19 : hm_fl vwCl TB R_GrantServerModel 19 8 9 false .int := ⟨_, _, _, _, cl_GrantServerModel, by decide, (TBm 701 (by decide +kernel) rfl), rfl, rfl⟩
set_option maxRecDepth 20000 in
theorem me_GrantServerModel_within : hm_meS y_GrantServerModel_within b_GrantServerModel_within 1 (some .int) 1 := ⟨⟨(TBm 691 rfl rfl), (TBm 47 (by decide +kernel) rfl), by decide +kernel⟩, (TBm 690 (by decide +kernel) rfl)⟩
set_option maxRecDepth 20000 in
theorem wl_GrantServerModel_1 : Cond.methodLink R_GrantServerModel 1 objectInit ∈ TB := TBm 688 (by decide +kernel) rfl
set_option maxRecDepth 20000 in
theorem wl_GrantServerModel_73 : Cond.methodLink R_GrantServerModel 73 y_GrantServerModel_within ∈ TB := TBm 689 (by decide +kernel) rfl
set_option maxHeartbeats 4000000 in
set_option maxRecDepth 100000 in
theorem m_c_init (l : Launch) (D : va_G) (k : Nat → ClassId) (f : hm) (h : Nat) (a : Int32) (b : Int32) (d : Int32) (g : Int32) (hh : f h = some (.inr (8, [.long 0, .int 0, .int 0, .int 0, .int 0, .null, .null, .null, .int 0, .int 0, .null, .null, .null, .null, .null, .null, .null, .null, .int 0, .null, .null, .null, .int 0, .null, .int 0, .null, .int 0, .null, .int 0, .int 0, .null]))) : hm_Mv l D vwCl (tyL k) y_GrantServerModel_init (Cond.code y_GrantServerModel_init b_GrantServerModel_init 5 none :: TB) ({ frames := 1, cells := 18, slots := 2363, locals := 20 }) [.ref h, .int a, .int b, .int d, .int g] f (fun (f1 : hm) => ∃ (ad : Nat → Nat), mo k f1 h ad a.toInt64 (mo_v0 b d g) (fun _ _ => 0) ∧ (∀ i, i < 31 → 0 < mo_n i → f (ad i) = none) ∧ ∀ (q : Nat) (x : va_E), q ≠ h → f q = some x → f1 q = some x) 18 2363 := by
  refine hm_enter (Qc := fun sz => va_Qv _ (hm_R D vwCl (tyL k) f sz) (hm_A f sz)) (by decide) rfl (Nat.le_of_ble_eq_true rfl) ?_
  intro p e s m below meth cd ls X0 hr hlk hin hK hM hS hA hl Q hQ
  have X : CallFix p m cd b_GrantServerModel_init 5 s ([.ref h, .int a, .int b, .int d, .int g] : List Value).toArray TB R_GrantServerModel := ⟨X0.1, X0.2.1, X0.2.2.1, X0.2.2.2.1, fun w h => X0.2.2.2.2 w (List.mem_cons_of_mem _ h)⟩
  have hx := X.1; have hb := X.2.1; have hml := X.2.2.1; have hown := X.2.2.2.1; have hts := X.2.2.2.2
  have hnd : ([] : List Nat).Nodup := List.nodup_nil
  have hpr : ∀ q ∈ ([] : List Nat), f q ≠ none := fun q h => by cases h
  have hl : lv_has ls 5 [(0, .ref h), (1, .int a), (2, .int b), (3, .int d), (4, .int g)] := hl
  refine lv_aload_n hx hb d_GrantServerModel_init_0 rfl (lv_at hl 0 rfl) ?_
  refine W.objInit hx hb hown (hts _ wl_GrantServerModel_1) (hts _ wi_JObject_init) (hts _ wd_JObject_init) rfl (by rw [hml]; exact hl.1) rfl d_GrantServerModel_init_1 (Nat.le_of_ble_eq_true rfl) (Nat.le_of_ble_eq_true rfl) ?_
  refine W.eq (g2 := F0 m 4 ls []) rfl ?_
  refine lv_aload_n hx hb d_GrantServerModel_init_4 rfl (lv_at hl 0 rfl) ?_
  refine lv_iconst (v := 4) hx hb d_GrantServerModel_init_5 (by decide) ?_
  refine hm_newa (atype := .int) (ty := .int) X hK hM hS hA rfl wa_0 0 rfl (N' := 4) (a0 := (4, .inl (fun _ => 0))) (fun _ => rfl) (by decide) (by decide) (by decide) (by decide) (by decide) d_GrantServerModel_init_6 (fun q1 f2 H e3 z4 hM hS => ?_)
  have hnd := hm_nd_new hnd hpr z4; have hpr := hm_pr_new hpr e3
  have g5 : f2 q1 = some (.inl (k 0, 4, .inl (fun _ => 0))) := hm_new1 e3
  have g6 : f2 h = some (.inr (8, [.long 0, .int 0, .int 0, .int 0, .int 0, .null, .null, .null, .int 0, .int 0, .null, .null, .null, .null, .null, .null, .null, .null, .int 0, .null, .null, .null, .int 0, .null, .int 0, .null, .int 0, .null, .int 0, .int 0, .null])) := by rw [e3, hm_up_n (hm_ne0 hh z4)]; exact hh
  refine hm_putF X hK hM hS (fs' := [.long 0, .int 0, .int 0, .int 0, .int 0, .ref q1, .null, .null, .int 0, .int 0, .null, .null, .null, .null, .null, .null, .null, .null, .int 0, .null, .null, .null, .int 0, .null, .int 0, .null, .int 0, .null, .int 0, .int 0, .null]) g6 fF_GrantServerModel_7 hin rfl rfl (Nat.le_of_ble_eq_true rfl) rfl d_GrantServerModel_init_8 (fun f7 H locs e8 hM hS => ?_)
  have hpr := hm_pr_up hpr e8
  refine lv_aload_n hx hb d_GrantServerModel_init_11 rfl (lv_at hl 0 rfl) ?_
  refine lv_iconst (v := 4) hx hb d_GrantServerModel_init_12 (by decide) ?_
  have g13 : f7 h = some (.inr (8, [.long 0, .int 0, .int 0, .int 0, .int 0, .ref q1, .null, .null, .int 0, .int 0, .null, .null, .null, .null, .null, .null, .null, .null, .int 0, .null, .null, .null, .int 0, .null, .int 0, .null, .int 0, .null, .int 0, .int 0, .null])) := by rw [e8, hm_up_s]
  have g14 : f7 q1 = some (.inl (k 0, 4, .inl (fun _ => 0))) := by rw [e8, hm_up_n ((hm_ne0 hh z4).symm)]; exact g5
  refine hm_newa (atype := .int) (ty := .int) X hK hM hS hA rfl wa_0 0 rfl (N' := 4) (a0 := (4, .inl (fun _ => 0))) (fun _ => rfl) (by decide) (by decide) (by decide) (by decide) (by decide) d_GrantServerModel_init_13 (fun q9 f10 H e11 z12 hM hS => ?_)
  have hnd := hm_nd_new hnd hpr z12; have hpr := hm_pr_new hpr e11
  have g15 : f10 q9 = some (.inl (k 0, 4, .inl (fun _ => 0))) := hm_new1 e11
  have g16 : f10 h = some (.inr (8, [.long 0, .int 0, .int 0, .int 0, .int 0, .ref q1, .null, .null, .int 0, .int 0, .null, .null, .null, .null, .null, .null, .null, .null, .int 0, .null, .null, .null, .int 0, .null, .int 0, .null, .int 0, .null, .int 0, .int 0, .null])) := by rw [e11, hm_up_n (hm_ne0 g13 z12)]; exact g13
  refine hm_putF X hK hM hS (fs' := [.long 0, .int 0, .int 0, .int 0, .int 0, .ref q1, .ref q9, .null, .int 0, .int 0, .null, .null, .null, .null, .null, .null, .null, .null, .int 0, .null, .null, .null, .int 0, .null, .int 0, .null, .int 0, .null, .int 0, .int 0, .null]) g16 fF_GrantServerModel_13 hin rfl rfl (Nat.le_of_ble_eq_true rfl) rfl d_GrantServerModel_init_15 (fun f17 H locs e18 hM hS => ?_)
  have hpr := hm_pr_up hpr e18
  refine lv_aload_n hx hb d_GrantServerModel_init_18 rfl (lv_at hl 0 rfl) ?_
  refine lv_iconst (v := 4) hx hb d_GrantServerModel_init_19 (by decide) ?_
  have g23 : f17 h = some (.inr (8, [.long 0, .int 0, .int 0, .int 0, .int 0, .ref q1, .ref q9, .null, .int 0, .int 0, .null, .null, .null, .null, .null, .null, .null, .null, .int 0, .null, .null, .null, .int 0, .null, .int 0, .null, .int 0, .null, .int 0, .int 0, .null])) := by rw [e18, hm_up_s]
  have g24 : f10 q1 = some (.inl (k 0, 4, .inl (fun _ => 0))) := by rw [e11, hm_up_n (hm_ne0 g14 z12)]; exact g14
  have g25 : f17 q1 = some (.inl (k 0, 4, .inl (fun _ => 0))) := by rw [e18, hm_up_n ((hm_ne0 hh z4).symm)]; exact g24
  have g26 : f17 q9 = some (.inl (k 0, 4, .inl (fun _ => 0))) := by rw [e18, hm_up_n ((hm_ne0 g13 z12).symm)]; exact g15
  refine hm_newa (atype := .int) (ty := .int) X hK hM hS hA rfl wa_0 0 rfl (N' := 4) (a0 := (4, .inl (fun _ => 0))) (fun _ => rfl) (by decide) (by decide) (by decide) (by decide) (by decide) d_GrantServerModel_init_20 (fun q19 f20 H e21 z22 hM hS => ?_)
  have hnd := hm_nd_new hnd hpr z22; have hpr := hm_pr_new hpr e21
  have g27 : f20 q19 = some (.inl (k 0, 4, .inl (fun _ => 0))) := hm_new1 e21
  have g28 : f20 h = some (.inr (8, [.long 0, .int 0, .int 0, .int 0, .int 0, .ref q1, .ref q9, .null, .int 0, .int 0, .null, .null, .null, .null, .null, .null, .null, .null, .int 0, .null, .null, .null, .int 0, .null, .int 0, .null, .int 0, .null, .int 0, .int 0, .null])) := by rw [e21, hm_up_n (hm_ne0 g23 z22)]; exact g23
  refine hm_putF X hK hM hS (fs' := [.long 0, .int 0, .int 0, .int 0, .int 0, .ref q1, .ref q9, .ref q19, .int 0, .int 0, .null, .null, .null, .null, .null, .null, .null, .null, .int 0, .null, .null, .null, .int 0, .null, .int 0, .null, .int 0, .null, .int 0, .int 0, .null]) g28 fF_GrantServerModel_16 hin rfl rfl (Nat.le_of_ble_eq_true rfl) rfl d_GrantServerModel_init_22 (fun f29 H locs e30 hM hS => ?_)
  have hpr := hm_pr_up hpr e30
  refine lv_aload_n hx hb d_GrantServerModel_init_25 rfl (lv_at hl 0 rfl) ?_
  refine lv_iconst (v := (-1)) hx hb d_GrantServerModel_init_26 (by decide) ?_
  have g31 : f29 h = some (.inr (8, [.long 0, .int 0, .int 0, .int 0, .int 0, .ref q1, .ref q9, .ref q19, .int 0, .int 0, .null, .null, .null, .null, .null, .null, .null, .null, .int 0, .null, .null, .null, .int 0, .null, .int 0, .null, .int 0, .null, .int 0, .int 0, .null])) := by rw [e30, hm_up_s]
  refine hm_put X hK hM hS (fs' := [.long 0, .int 0, .int 0, .int 0, .int 0, .ref q1, .ref q9, .ref q19, .int 0, .int (-1), .null, .null, .null, .null, .null, .null, .null, .null, .int 0, .null, .null, .null, .int 0, .null, .int 0, .null, .int 0, .null, .int 0, .int 0, .null]) g31 fl_GrantServerModel_19 rfl rfl (Nat.le_of_ble_eq_true rfl) rfl d_GrantServerModel_init_27 (fun f32 H locs e33 hM hS => ?_)
  have hpr := hm_pr_up hpr e33
  refine lv_aload_n hx hb d_GrantServerModel_init_30 rfl (lv_at hl 0 rfl) ?_
  refine lv_bipush (v := 64) hx hb d_GrantServerModel_init_31 (by decide) ?_
  have g38 : f32 h = some (.inr (8, [.long 0, .int 0, .int 0, .int 0, .int 0, .ref q1, .ref q9, .ref q19, .int 0, .int (-1), .null, .null, .null, .null, .null, .null, .null, .null, .int 0, .null, .null, .null, .int 0, .null, .int 0, .null, .int 0, .null, .int 0, .int 0, .null])) := by rw [e33, hm_up_s]
  have g39 : f20 q1 = some (.inl (k 0, 4, .inl (fun _ => 0))) := by rw [e21, hm_up_n (hm_ne0 g25 z22)]; exact g25
  have g40 : f29 q1 = some (.inl (k 0, 4, .inl (fun _ => 0))) := by rw [e30, hm_up_n ((hm_ne0 hh z4).symm)]; exact g39
  have g41 : f32 q1 = some (.inl (k 0, 4, .inl (fun _ => 0))) := by rw [e33, hm_up_n ((hm_ne0 hh z4).symm)]; exact g40
  have g42 : f20 q9 = some (.inl (k 0, 4, .inl (fun _ => 0))) := by rw [e21, hm_up_n (hm_ne0 g26 z22)]; exact g26
  have g43 : f29 q9 = some (.inl (k 0, 4, .inl (fun _ => 0))) := by rw [e30, hm_up_n ((hm_ne0 g13 z12).symm)]; exact g42
  have g44 : f32 q9 = some (.inl (k 0, 4, .inl (fun _ => 0))) := by rw [e33, hm_up_n ((hm_ne0 g13 z12).symm)]; exact g43
  have g45 : f29 q19 = some (.inl (k 0, 4, .inl (fun _ => 0))) := by rw [e30, hm_up_n ((hm_ne0 g23 z22).symm)]; exact g27
  have g46 : f32 q19 = some (.inl (k 0, 4, .inl (fun _ => 0))) := by rw [e33, hm_up_n ((hm_ne0 g23 z22).symm)]; exact g45
  refine hm_newa (atype := .int) (ty := .int) X hK hM hS hA rfl wa_0 0 rfl (N' := 64) (a0 := (64, .inl (fun _ => 0))) (fun _ => rfl) (by decide) (by decide) (by decide) (by decide) (by decide) d_GrantServerModel_init_33 (fun q34 f35 H e36 z37 hM hS => ?_)
  have hnd := hm_nd_new hnd hpr z37; have hpr := hm_pr_new hpr e36
  have g47 : f35 q34 = some (.inl (k 0, 64, .inl (fun _ => 0))) := hm_new1 e36
  have g48 : f35 h = some (.inr (8, [.long 0, .int 0, .int 0, .int 0, .int 0, .ref q1, .ref q9, .ref q19, .int 0, .int (-1), .null, .null, .null, .null, .null, .null, .null, .null, .int 0, .null, .null, .null, .int 0, .null, .int 0, .null, .int 0, .null, .int 0, .int 0, .null])) := by rw [e36, hm_up_n (hm_ne0 g38 z37)]; exact g38
  refine hm_putF X hK hM hS (fs' := [.long 0, .int 0, .int 0, .int 0, .int 0, .ref q1, .ref q9, .ref q19, .int 0, .int (-1), .ref q34, .null, .null, .null, .null, .null, .null, .null, .int 0, .null, .null, .null, .int 0, .null, .int 0, .null, .int 0, .null, .int 0, .int 0, .null]) g48 fF_GrantServerModel_23 hin rfl rfl (Nat.le_of_ble_eq_true rfl) rfl d_GrantServerModel_init_35 (fun f49 H locs e50 hM hS => ?_)
  have hpr := hm_pr_up hpr e50
  refine lv_aload_n hx hb d_GrantServerModel_init_38 rfl (lv_at hl 0 rfl) ?_
  refine lv_bipush (v := 64) hx hb d_GrantServerModel_init_39 (by decide) ?_
  have g55 : f49 h = some (.inr (8, [.long 0, .int 0, .int 0, .int 0, .int 0, .ref q1, .ref q9, .ref q19, .int 0, .int (-1), .ref q34, .null, .null, .null, .null, .null, .null, .null, .int 0, .null, .null, .null, .int 0, .null, .int 0, .null, .int 0, .null, .int 0, .int 0, .null])) := by rw [e50, hm_up_s]
  have g56 : f35 q1 = some (.inl (k 0, 4, .inl (fun _ => 0))) := by rw [e36, hm_up_n (hm_ne0 g41 z37)]; exact g41
  have g57 : f49 q1 = some (.inl (k 0, 4, .inl (fun _ => 0))) := by rw [e50, hm_up_n ((hm_ne0 hh z4).symm)]; exact g56
  have g58 : f35 q9 = some (.inl (k 0, 4, .inl (fun _ => 0))) := by rw [e36, hm_up_n (hm_ne0 g44 z37)]; exact g44
  have g59 : f49 q9 = some (.inl (k 0, 4, .inl (fun _ => 0))) := by rw [e50, hm_up_n ((hm_ne0 g13 z12).symm)]; exact g58
  have g60 : f35 q19 = some (.inl (k 0, 4, .inl (fun _ => 0))) := by rw [e36, hm_up_n (hm_ne0 g46 z37)]; exact g46
  have g61 : f49 q19 = some (.inl (k 0, 4, .inl (fun _ => 0))) := by rw [e50, hm_up_n ((hm_ne0 g23 z22).symm)]; exact g60
  have g62 : f49 q34 = some (.inl (k 0, 64, .inl (fun _ => 0))) := by rw [e50, hm_up_n ((hm_ne0 g38 z37).symm)]; exact g47
  refine hm_newa (atype := .int) (ty := .int) X hK hM hS hA rfl wa_0 0 rfl (N' := 64) (a0 := (64, .inl (fun _ => 0))) (fun _ => rfl) (by decide) (by decide) (by decide) (by decide) (by decide) d_GrantServerModel_init_41 (fun q51 f52 H e53 z54 hM hS => ?_)
  have hnd := hm_nd_new hnd hpr z54; have hpr := hm_pr_new hpr e53
  have g63 : f52 q51 = some (.inl (k 0, 64, .inl (fun _ => 0))) := hm_new1 e53
  have g64 : f52 h = some (.inr (8, [.long 0, .int 0, .int 0, .int 0, .int 0, .ref q1, .ref q9, .ref q19, .int 0, .int (-1), .ref q34, .null, .null, .null, .null, .null, .null, .null, .int 0, .null, .null, .null, .int 0, .null, .int 0, .null, .int 0, .null, .int 0, .int 0, .null])) := by rw [e53, hm_up_n (hm_ne0 g55 z54)]; exact g55
  refine hm_putF X hK hM hS (fs' := [.long 0, .int 0, .int 0, .int 0, .int 0, .ref q1, .ref q9, .ref q19, .int 0, .int (-1), .ref q34, .ref q51, .null, .null, .null, .null, .null, .null, .int 0, .null, .null, .null, .int 0, .null, .int 0, .null, .int 0, .null, .int 0, .int 0, .null]) g64 fF_GrantServerModel_26 hin rfl rfl (Nat.le_of_ble_eq_true rfl) rfl d_GrantServerModel_init_43 (fun f65 H locs e66 hM hS => ?_)
  have hpr := hm_pr_up hpr e66
  refine lv_aload_n hx hb d_GrantServerModel_init_46 rfl (lv_at hl 0 rfl) ?_
  refine lv_bipush (v := 64) hx hb d_GrantServerModel_init_47 (by decide) ?_
  have g71 : f65 h = some (.inr (8, [.long 0, .int 0, .int 0, .int 0, .int 0, .ref q1, .ref q9, .ref q19, .int 0, .int (-1), .ref q34, .ref q51, .null, .null, .null, .null, .null, .null, .int 0, .null, .null, .null, .int 0, .null, .int 0, .null, .int 0, .null, .int 0, .int 0, .null])) := by rw [e66, hm_up_s]
  have g72 : f52 q1 = some (.inl (k 0, 4, .inl (fun _ => 0))) := by rw [e53, hm_up_n (hm_ne0 g57 z54)]; exact g57
  have g73 : f65 q1 = some (.inl (k 0, 4, .inl (fun _ => 0))) := by rw [e66, hm_up_n ((hm_ne0 hh z4).symm)]; exact g72
  have g74 : f52 q9 = some (.inl (k 0, 4, .inl (fun _ => 0))) := by rw [e53, hm_up_n (hm_ne0 g59 z54)]; exact g59
  have g75 : f65 q9 = some (.inl (k 0, 4, .inl (fun _ => 0))) := by rw [e66, hm_up_n ((hm_ne0 g13 z12).symm)]; exact g74
  have g76 : f52 q19 = some (.inl (k 0, 4, .inl (fun _ => 0))) := by rw [e53, hm_up_n (hm_ne0 g61 z54)]; exact g61
  have g77 : f65 q19 = some (.inl (k 0, 4, .inl (fun _ => 0))) := by rw [e66, hm_up_n ((hm_ne0 g23 z22).symm)]; exact g76
  have g78 : f52 q34 = some (.inl (k 0, 64, .inl (fun _ => 0))) := by rw [e53, hm_up_n (hm_ne0 g62 z54)]; exact g62
  have g79 : f65 q34 = some (.inl (k 0, 64, .inl (fun _ => 0))) := by rw [e66, hm_up_n ((hm_ne0 g38 z37).symm)]; exact g78
  have g80 : f65 q51 = some (.inl (k 0, 64, .inl (fun _ => 0))) := by rw [e66, hm_up_n ((hm_ne0 g55 z54).symm)]; exact g63
  refine hm_newa (atype := .int) (ty := .int) X hK hM hS hA rfl wa_0 0 rfl (N' := 64) (a0 := (64, .inl (fun _ => 0))) (fun _ => rfl) (by decide) (by decide) (by decide) (by decide) (by decide) d_GrantServerModel_init_49 (fun q67 f68 H e69 z70 hM hS => ?_)
  have hnd := hm_nd_new hnd hpr z70; have hpr := hm_pr_new hpr e69
  have g81 : f68 q67 = some (.inl (k 0, 64, .inl (fun _ => 0))) := hm_new1 e69
  have g82 : f68 h = some (.inr (8, [.long 0, .int 0, .int 0, .int 0, .int 0, .ref q1, .ref q9, .ref q19, .int 0, .int (-1), .ref q34, .ref q51, .null, .null, .null, .null, .null, .null, .int 0, .null, .null, .null, .int 0, .null, .int 0, .null, .int 0, .null, .int 0, .int 0, .null])) := by rw [e69, hm_up_n (hm_ne0 g71 z70)]; exact g71
  refine hm_putF X hK hM hS (fs' := [.long 0, .int 0, .int 0, .int 0, .int 0, .ref q1, .ref q9, .ref q19, .int 0, .int (-1), .ref q34, .ref q51, .ref q67, .null, .null, .null, .null, .null, .int 0, .null, .null, .null, .int 0, .null, .int 0, .null, .int 0, .null, .int 0, .int 0, .null]) g82 fF_GrantServerModel_29 hin rfl rfl (Nat.le_of_ble_eq_true rfl) rfl d_GrantServerModel_init_51 (fun f83 H locs e84 hM hS => ?_)
  have hpr := hm_pr_up hpr e84
  refine lv_aload_n hx hb d_GrantServerModel_init_54 rfl (lv_at hl 0 rfl) ?_
  refine lv_bipush (v := 64) hx hb d_GrantServerModel_init_55 (by decide) ?_
  have g89 : f83 h = some (.inr (8, [.long 0, .int 0, .int 0, .int 0, .int 0, .ref q1, .ref q9, .ref q19, .int 0, .int (-1), .ref q34, .ref q51, .ref q67, .null, .null, .null, .null, .null, .int 0, .null, .null, .null, .int 0, .null, .int 0, .null, .int 0, .null, .int 0, .int 0, .null])) := by rw [e84, hm_up_s]
  have g90 : f68 q1 = some (.inl (k 0, 4, .inl (fun _ => 0))) := by rw [e69, hm_up_n (hm_ne0 g73 z70)]; exact g73
  have g91 : f83 q1 = some (.inl (k 0, 4, .inl (fun _ => 0))) := by rw [e84, hm_up_n ((hm_ne0 hh z4).symm)]; exact g90
  have g92 : f68 q9 = some (.inl (k 0, 4, .inl (fun _ => 0))) := by rw [e69, hm_up_n (hm_ne0 g75 z70)]; exact g75
  have g93 : f83 q9 = some (.inl (k 0, 4, .inl (fun _ => 0))) := by rw [e84, hm_up_n ((hm_ne0 g13 z12).symm)]; exact g92
  have g94 : f68 q19 = some (.inl (k 0, 4, .inl (fun _ => 0))) := by rw [e69, hm_up_n (hm_ne0 g77 z70)]; exact g77
  have g95 : f83 q19 = some (.inl (k 0, 4, .inl (fun _ => 0))) := by rw [e84, hm_up_n ((hm_ne0 g23 z22).symm)]; exact g94
  have g96 : f68 q34 = some (.inl (k 0, 64, .inl (fun _ => 0))) := by rw [e69, hm_up_n (hm_ne0 g79 z70)]; exact g79
  have g97 : f83 q34 = some (.inl (k 0, 64, .inl (fun _ => 0))) := by rw [e84, hm_up_n ((hm_ne0 g38 z37).symm)]; exact g96
  have g98 : f68 q51 = some (.inl (k 0, 64, .inl (fun _ => 0))) := by rw [e69, hm_up_n (hm_ne0 g80 z70)]; exact g80
  have g99 : f83 q51 = some (.inl (k 0, 64, .inl (fun _ => 0))) := by rw [e84, hm_up_n ((hm_ne0 g55 z54).symm)]; exact g98
  have g100 : f83 q67 = some (.inl (k 0, 64, .inl (fun _ => 0))) := by rw [e84, hm_up_n ((hm_ne0 g71 z70).symm)]; exact g81
  refine hm_newa (atype := .int) (ty := .int) X hK hM hS hA rfl wa_0 0 rfl (N' := 64) (a0 := (64, .inl (fun _ => 0))) (fun _ => rfl) (by decide) (by decide) (by decide) (by decide) (by decide) d_GrantServerModel_init_57 (fun q85 f86 H e87 z88 hM hS => ?_)
  have hnd := hm_nd_new hnd hpr z88; have hpr := hm_pr_new hpr e87
  have g101 : f86 q85 = some (.inl (k 0, 64, .inl (fun _ => 0))) := hm_new1 e87
  have g102 : f86 h = some (.inr (8, [.long 0, .int 0, .int 0, .int 0, .int 0, .ref q1, .ref q9, .ref q19, .int 0, .int (-1), .ref q34, .ref q51, .ref q67, .null, .null, .null, .null, .null, .int 0, .null, .null, .null, .int 0, .null, .int 0, .null, .int 0, .null, .int 0, .int 0, .null])) := by rw [e87, hm_up_n (hm_ne0 g89 z88)]; exact g89
  refine hm_putF X hK hM hS (fs' := [.long 0, .int 0, .int 0, .int 0, .int 0, .ref q1, .ref q9, .ref q19, .int 0, .int (-1), .ref q34, .ref q51, .ref q67, .ref q85, .null, .null, .null, .null, .int 0, .null, .null, .null, .int 0, .null, .int 0, .null, .int 0, .null, .int 0, .int 0, .null]) g102 fF_GrantServerModel_32 hin rfl rfl (Nat.le_of_ble_eq_true rfl) rfl d_GrantServerModel_init_59 (fun f103 H locs e104 hM hS => ?_)
  have hpr := hm_pr_up hpr e104
  refine lv_aload_n hx hb d_GrantServerModel_init_62 rfl (lv_at hl 0 rfl) ?_
  refine lv_bipush (v := 64) hx hb d_GrantServerModel_init_63 (by decide) ?_
  have g109 : f103 h = some (.inr (8, [.long 0, .int 0, .int 0, .int 0, .int 0, .ref q1, .ref q9, .ref q19, .int 0, .int (-1), .ref q34, .ref q51, .ref q67, .ref q85, .null, .null, .null, .null, .int 0, .null, .null, .null, .int 0, .null, .int 0, .null, .int 0, .null, .int 0, .int 0, .null])) := by rw [e104, hm_up_s]
  have g110 : f86 q1 = some (.inl (k 0, 4, .inl (fun _ => 0))) := by rw [e87, hm_up_n (hm_ne0 g91 z88)]; exact g91
  have g111 : f103 q1 = some (.inl (k 0, 4, .inl (fun _ => 0))) := by rw [e104, hm_up_n ((hm_ne0 hh z4).symm)]; exact g110
  have g112 : f86 q9 = some (.inl (k 0, 4, .inl (fun _ => 0))) := by rw [e87, hm_up_n (hm_ne0 g93 z88)]; exact g93
  have g113 : f103 q9 = some (.inl (k 0, 4, .inl (fun _ => 0))) := by rw [e104, hm_up_n ((hm_ne0 g13 z12).symm)]; exact g112
  have g114 : f86 q19 = some (.inl (k 0, 4, .inl (fun _ => 0))) := by rw [e87, hm_up_n (hm_ne0 g95 z88)]; exact g95
  have g115 : f103 q19 = some (.inl (k 0, 4, .inl (fun _ => 0))) := by rw [e104, hm_up_n ((hm_ne0 g23 z22).symm)]; exact g114
  have g116 : f86 q34 = some (.inl (k 0, 64, .inl (fun _ => 0))) := by rw [e87, hm_up_n (hm_ne0 g97 z88)]; exact g97
  have g117 : f103 q34 = some (.inl (k 0, 64, .inl (fun _ => 0))) := by rw [e104, hm_up_n ((hm_ne0 g38 z37).symm)]; exact g116
  have g118 : f86 q51 = some (.inl (k 0, 64, .inl (fun _ => 0))) := by rw [e87, hm_up_n (hm_ne0 g99 z88)]; exact g99
  have g119 : f103 q51 = some (.inl (k 0, 64, .inl (fun _ => 0))) := by rw [e104, hm_up_n ((hm_ne0 g55 z54).symm)]; exact g118
  have g120 : f86 q67 = some (.inl (k 0, 64, .inl (fun _ => 0))) := by rw [e87, hm_up_n (hm_ne0 g100 z88)]; exact g100
  have g121 : f103 q67 = some (.inl (k 0, 64, .inl (fun _ => 0))) := by rw [e104, hm_up_n ((hm_ne0 g71 z70).symm)]; exact g120
  have g122 : f103 q85 = some (.inl (k 0, 64, .inl (fun _ => 0))) := by rw [e104, hm_up_n ((hm_ne0 g89 z88).symm)]; exact g101
  refine hm_newa (atype := .boolean) (ty := .boolean) X hK hM hS hA rfl wa_1 1 rfl (N' := 64) (a0 := (64, .inl (fun _ => 0))) (fun _ => rfl) (by decide) (by decide) (by decide) (by decide) (by decide) d_GrantServerModel_init_65 (fun q105 f106 H e107 z108 hM hS => ?_)
  have hnd := hm_nd_new hnd hpr z108; have hpr := hm_pr_new hpr e107
  have g123 : f106 q105 = some (.inl (k 1, 64, .inl (fun _ => 0))) := hm_new1 e107
  have g124 : f106 h = some (.inr (8, [.long 0, .int 0, .int 0, .int 0, .int 0, .ref q1, .ref q9, .ref q19, .int 0, .int (-1), .ref q34, .ref q51, .ref q67, .ref q85, .null, .null, .null, .null, .int 0, .null, .null, .null, .int 0, .null, .int 0, .null, .int 0, .null, .int 0, .int 0, .null])) := by rw [e107, hm_up_n (hm_ne0 g109 z108)]; exact g109
  refine hm_putF X hK hM hS (fs' := [.long 0, .int 0, .int 0, .int 0, .int 0, .ref q1, .ref q9, .ref q19, .int 0, .int (-1), .ref q34, .ref q51, .ref q67, .ref q85, .ref q105, .null, .null, .null, .int 0, .null, .null, .null, .int 0, .null, .int 0, .null, .int 0, .null, .int 0, .int 0, .null]) g124 fF_GrantServerModel_35 hin rfl rfl (Nat.le_of_ble_eq_true rfl) rfl d_GrantServerModel_init_67 (fun f125 H locs e126 hM hS => ?_)
  have hpr := hm_pr_up hpr e126
  refine lv_aload_n hx hb d_GrantServerModel_init_70 rfl (lv_at hl 0 rfl) ?_
  refine lv_bipush (v := 64) hx hb d_GrantServerModel_init_71 (by decide) ?_
  have g131 : f125 h = some (.inr (8, [.long 0, .int 0, .int 0, .int 0, .int 0, .ref q1, .ref q9, .ref q19, .int 0, .int (-1), .ref q34, .ref q51, .ref q67, .ref q85, .ref q105, .null, .null, .null, .int 0, .null, .null, .null, .int 0, .null, .int 0, .null, .int 0, .null, .int 0, .int 0, .null])) := by rw [e126, hm_up_s]
  have g132 : f106 q1 = some (.inl (k 0, 4, .inl (fun _ => 0))) := by rw [e107, hm_up_n (hm_ne0 g111 z108)]; exact g111
  have g133 : f125 q1 = some (.inl (k 0, 4, .inl (fun _ => 0))) := by rw [e126, hm_up_n ((hm_ne0 hh z4).symm)]; exact g132
  have g134 : f106 q9 = some (.inl (k 0, 4, .inl (fun _ => 0))) := by rw [e107, hm_up_n (hm_ne0 g113 z108)]; exact g113
  have g135 : f125 q9 = some (.inl (k 0, 4, .inl (fun _ => 0))) := by rw [e126, hm_up_n ((hm_ne0 g13 z12).symm)]; exact g134
  have g136 : f106 q19 = some (.inl (k 0, 4, .inl (fun _ => 0))) := by rw [e107, hm_up_n (hm_ne0 g115 z108)]; exact g115
  have g137 : f125 q19 = some (.inl (k 0, 4, .inl (fun _ => 0))) := by rw [e126, hm_up_n ((hm_ne0 g23 z22).symm)]; exact g136
  have g138 : f106 q34 = some (.inl (k 0, 64, .inl (fun _ => 0))) := by rw [e107, hm_up_n (hm_ne0 g117 z108)]; exact g117
  have g139 : f125 q34 = some (.inl (k 0, 64, .inl (fun _ => 0))) := by rw [e126, hm_up_n ((hm_ne0 g38 z37).symm)]; exact g138
  have g140 : f106 q51 = some (.inl (k 0, 64, .inl (fun _ => 0))) := by rw [e107, hm_up_n (hm_ne0 g119 z108)]; exact g119
  have g141 : f125 q51 = some (.inl (k 0, 64, .inl (fun _ => 0))) := by rw [e126, hm_up_n ((hm_ne0 g55 z54).symm)]; exact g140
  have g142 : f106 q67 = some (.inl (k 0, 64, .inl (fun _ => 0))) := by rw [e107, hm_up_n (hm_ne0 g121 z108)]; exact g121
  have g143 : f125 q67 = some (.inl (k 0, 64, .inl (fun _ => 0))) := by rw [e126, hm_up_n ((hm_ne0 g71 z70).symm)]; exact g142
  have g144 : f106 q85 = some (.inl (k 0, 64, .inl (fun _ => 0))) := by rw [e107, hm_up_n (hm_ne0 g122 z108)]; exact g122
  have g145 : f125 q85 = some (.inl (k 0, 64, .inl (fun _ => 0))) := by rw [e126, hm_up_n ((hm_ne0 g89 z88).symm)]; exact g144
  have g146 : f125 q105 = some (.inl (k 1, 64, .inl (fun _ => 0))) := by rw [e126, hm_up_n ((hm_ne0 g109 z108).symm)]; exact g123
  refine hm_newa (atype := .int) (ty := .int) X hK hM hS hA rfl wa_0 0 rfl (N' := 64) (a0 := (64, .inl (fun _ => 0))) (fun _ => rfl) (by decide) (by decide) (by decide) (by decide) (by decide) d_GrantServerModel_init_73 (fun q127 f128 H e129 z130 hM hS => ?_)
  have hnd := hm_nd_new hnd hpr z130; have hpr := hm_pr_new hpr e129
  have g147 : f128 q127 = some (.inl (k 0, 64, .inl (fun _ => 0))) := hm_new1 e129
  have g148 : f128 h = some (.inr (8, [.long 0, .int 0, .int 0, .int 0, .int 0, .ref q1, .ref q9, .ref q19, .int 0, .int (-1), .ref q34, .ref q51, .ref q67, .ref q85, .ref q105, .null, .null, .null, .int 0, .null, .null, .null, .int 0, .null, .int 0, .null, .int 0, .null, .int 0, .int 0, .null])) := by rw [e129, hm_up_n (hm_ne0 g131 z130)]; exact g131
  refine hm_putF X hK hM hS (fs' := [.long 0, .int 0, .int 0, .int 0, .int 0, .ref q1, .ref q9, .ref q19, .int 0, .int (-1), .ref q34, .ref q51, .ref q67, .ref q85, .ref q105, .ref q127, .null, .null, .int 0, .null, .null, .null, .int 0, .null, .int 0, .null, .int 0, .null, .int 0, .int 0, .null]) g148 fF_GrantServerModel_39 hin rfl rfl (Nat.le_of_ble_eq_true rfl) rfl d_GrantServerModel_init_75 (fun f149 H locs e150 hM hS => ?_)
  have hpr := hm_pr_up hpr e150
  refine lv_aload_n hx hb d_GrantServerModel_init_78 rfl (lv_at hl 0 rfl) ?_
  refine lv_bipush (v := 16) hx hb d_GrantServerModel_init_79 (by decide) ?_
  have g155 : f149 h = some (.inr (8, [.long 0, .int 0, .int 0, .int 0, .int 0, .ref q1, .ref q9, .ref q19, .int 0, .int (-1), .ref q34, .ref q51, .ref q67, .ref q85, .ref q105, .ref q127, .null, .null, .int 0, .null, .null, .null, .int 0, .null, .int 0, .null, .int 0, .null, .int 0, .int 0, .null])) := by rw [e150, hm_up_s]
  have g156 : f128 q1 = some (.inl (k 0, 4, .inl (fun _ => 0))) := by rw [e129, hm_up_n (hm_ne0 g133 z130)]; exact g133
  have g157 : f149 q1 = some (.inl (k 0, 4, .inl (fun _ => 0))) := by rw [e150, hm_up_n ((hm_ne0 hh z4).symm)]; exact g156
  have g158 : f128 q9 = some (.inl (k 0, 4, .inl (fun _ => 0))) := by rw [e129, hm_up_n (hm_ne0 g135 z130)]; exact g135
  have g159 : f149 q9 = some (.inl (k 0, 4, .inl (fun _ => 0))) := by rw [e150, hm_up_n ((hm_ne0 g13 z12).symm)]; exact g158
  have g160 : f128 q19 = some (.inl (k 0, 4, .inl (fun _ => 0))) := by rw [e129, hm_up_n (hm_ne0 g137 z130)]; exact g137
  have g161 : f149 q19 = some (.inl (k 0, 4, .inl (fun _ => 0))) := by rw [e150, hm_up_n ((hm_ne0 g23 z22).symm)]; exact g160
  have g162 : f128 q34 = some (.inl (k 0, 64, .inl (fun _ => 0))) := by rw [e129, hm_up_n (hm_ne0 g139 z130)]; exact g139
  have g163 : f149 q34 = some (.inl (k 0, 64, .inl (fun _ => 0))) := by rw [e150, hm_up_n ((hm_ne0 g38 z37).symm)]; exact g162
  have g164 : f128 q51 = some (.inl (k 0, 64, .inl (fun _ => 0))) := by rw [e129, hm_up_n (hm_ne0 g141 z130)]; exact g141
  have g165 : f149 q51 = some (.inl (k 0, 64, .inl (fun _ => 0))) := by rw [e150, hm_up_n ((hm_ne0 g55 z54).symm)]; exact g164
  have g166 : f128 q67 = some (.inl (k 0, 64, .inl (fun _ => 0))) := by rw [e129, hm_up_n (hm_ne0 g143 z130)]; exact g143
  have g167 : f149 q67 = some (.inl (k 0, 64, .inl (fun _ => 0))) := by rw [e150, hm_up_n ((hm_ne0 g71 z70).symm)]; exact g166
  have g168 : f128 q85 = some (.inl (k 0, 64, .inl (fun _ => 0))) := by rw [e129, hm_up_n (hm_ne0 g145 z130)]; exact g145
  have g169 : f149 q85 = some (.inl (k 0, 64, .inl (fun _ => 0))) := by rw [e150, hm_up_n ((hm_ne0 g89 z88).symm)]; exact g168
  have g170 : f128 q105 = some (.inl (k 1, 64, .inl (fun _ => 0))) := by rw [e129, hm_up_n (hm_ne0 g146 z130)]; exact g146
  have g171 : f149 q105 = some (.inl (k 1, 64, .inl (fun _ => 0))) := by rw [e150, hm_up_n ((hm_ne0 g109 z108).symm)]; exact g170
  have g172 : f149 q127 = some (.inl (k 0, 64, .inl (fun _ => 0))) := by rw [e150, hm_up_n ((hm_ne0 g131 z130).symm)]; exact g147
  refine hm_newa (atype := .int) (ty := .int) X hK hM hS hA rfl wa_0 0 rfl (N' := 16) (a0 := (16, .inl (fun _ => 0))) (fun _ => rfl) (by decide) (by decide) (by decide) (by decide) (by decide) d_GrantServerModel_init_81 (fun q151 f152 H e153 z154 hM hS => ?_)
  have hnd := hm_nd_new hnd hpr z154; have hpr := hm_pr_new hpr e153
  have g173 : f152 q151 = some (.inl (k 0, 16, .inl (fun _ => 0))) := hm_new1 e153
  have g174 : f152 h = some (.inr (8, [.long 0, .int 0, .int 0, .int 0, .int 0, .ref q1, .ref q9, .ref q19, .int 0, .int (-1), .ref q34, .ref q51, .ref q67, .ref q85, .ref q105, .ref q127, .null, .null, .int 0, .null, .null, .null, .int 0, .null, .int 0, .null, .int 0, .null, .int 0, .int 0, .null])) := by rw [e153, hm_up_n (hm_ne0 g155 z154)]; exact g155
  refine hm_putF X hK hM hS (fs' := [.long 0, .int 0, .int 0, .int 0, .int 0, .ref q1, .ref q9, .ref q19, .int 0, .int (-1), .ref q34, .ref q51, .ref q67, .ref q85, .ref q105, .ref q127, .ref q151, .null, .int 0, .null, .null, .null, .int 0, .null, .int 0, .null, .int 0, .null, .int 0, .int 0, .null]) g174 fF_GrantServerModel_42 hin rfl rfl (Nat.le_of_ble_eq_true rfl) rfl d_GrantServerModel_init_83 (fun f175 H locs e176 hM hS => ?_)
  have hpr := hm_pr_up hpr e176
  refine lv_aload_n hx hb d_GrantServerModel_init_86 rfl (lv_at hl 0 rfl) ?_
  refine lv_bipush (v := 16) hx hb d_GrantServerModel_init_87 (by decide) ?_
  have g181 : f175 h = some (.inr (8, [.long 0, .int 0, .int 0, .int 0, .int 0, .ref q1, .ref q9, .ref q19, .int 0, .int (-1), .ref q34, .ref q51, .ref q67, .ref q85, .ref q105, .ref q127, .ref q151, .null, .int 0, .null, .null, .null, .int 0, .null, .int 0, .null, .int 0, .null, .int 0, .int 0, .null])) := by rw [e176, hm_up_s]
  have g182 : f152 q1 = some (.inl (k 0, 4, .inl (fun _ => 0))) := by rw [e153, hm_up_n (hm_ne0 g157 z154)]; exact g157
  have g183 : f175 q1 = some (.inl (k 0, 4, .inl (fun _ => 0))) := by rw [e176, hm_up_n ((hm_ne0 hh z4).symm)]; exact g182
  have g184 : f152 q9 = some (.inl (k 0, 4, .inl (fun _ => 0))) := by rw [e153, hm_up_n (hm_ne0 g159 z154)]; exact g159
  have g185 : f175 q9 = some (.inl (k 0, 4, .inl (fun _ => 0))) := by rw [e176, hm_up_n ((hm_ne0 g13 z12).symm)]; exact g184
  have g186 : f152 q19 = some (.inl (k 0, 4, .inl (fun _ => 0))) := by rw [e153, hm_up_n (hm_ne0 g161 z154)]; exact g161
  have g187 : f175 q19 = some (.inl (k 0, 4, .inl (fun _ => 0))) := by rw [e176, hm_up_n ((hm_ne0 g23 z22).symm)]; exact g186
  have g188 : f152 q34 = some (.inl (k 0, 64, .inl (fun _ => 0))) := by rw [e153, hm_up_n (hm_ne0 g163 z154)]; exact g163
  have g189 : f175 q34 = some (.inl (k 0, 64, .inl (fun _ => 0))) := by rw [e176, hm_up_n ((hm_ne0 g38 z37).symm)]; exact g188
  have g190 : f152 q51 = some (.inl (k 0, 64, .inl (fun _ => 0))) := by rw [e153, hm_up_n (hm_ne0 g165 z154)]; exact g165
  have g191 : f175 q51 = some (.inl (k 0, 64, .inl (fun _ => 0))) := by rw [e176, hm_up_n ((hm_ne0 g55 z54).symm)]; exact g190
  have g192 : f152 q67 = some (.inl (k 0, 64, .inl (fun _ => 0))) := by rw [e153, hm_up_n (hm_ne0 g167 z154)]; exact g167
  have g193 : f175 q67 = some (.inl (k 0, 64, .inl (fun _ => 0))) := by rw [e176, hm_up_n ((hm_ne0 g71 z70).symm)]; exact g192
  have g194 : f152 q85 = some (.inl (k 0, 64, .inl (fun _ => 0))) := by rw [e153, hm_up_n (hm_ne0 g169 z154)]; exact g169
  have g195 : f175 q85 = some (.inl (k 0, 64, .inl (fun _ => 0))) := by rw [e176, hm_up_n ((hm_ne0 g89 z88).symm)]; exact g194
  have g196 : f152 q105 = some (.inl (k 1, 64, .inl (fun _ => 0))) := by rw [e153, hm_up_n (hm_ne0 g171 z154)]; exact g171
  have g197 : f175 q105 = some (.inl (k 1, 64, .inl (fun _ => 0))) := by rw [e176, hm_up_n ((hm_ne0 g109 z108).symm)]; exact g196
  have g198 : f152 q127 = some (.inl (k 0, 64, .inl (fun _ => 0))) := by rw [e153, hm_up_n (hm_ne0 g172 z154)]; exact g172
  have g199 : f175 q127 = some (.inl (k 0, 64, .inl (fun _ => 0))) := by rw [e176, hm_up_n ((hm_ne0 g131 z130).symm)]; exact g198
  have g200 : f175 q151 = some (.inl (k 0, 16, .inl (fun _ => 0))) := by rw [e176, hm_up_n ((hm_ne0 g155 z154).symm)]; exact g173
  refine hm_newa (atype := .int) (ty := .int) X hK hM hS hA rfl wa_0 0 rfl (N' := 16) (a0 := (16, .inl (fun _ => 0))) (fun _ => rfl) (by decide) (by decide) (by decide) (by decide) (by decide) d_GrantServerModel_init_89 (fun q177 f178 H e179 z180 hM hS => ?_)
  have hnd := hm_nd_new hnd hpr z180; have hpr := hm_pr_new hpr e179
  have g201 : f178 q177 = some (.inl (k 0, 16, .inl (fun _ => 0))) := hm_new1 e179
  have g202 : f178 h = some (.inr (8, [.long 0, .int 0, .int 0, .int 0, .int 0, .ref q1, .ref q9, .ref q19, .int 0, .int (-1), .ref q34, .ref q51, .ref q67, .ref q85, .ref q105, .ref q127, .ref q151, .null, .int 0, .null, .null, .null, .int 0, .null, .int 0, .null, .int 0, .null, .int 0, .int 0, .null])) := by rw [e179, hm_up_n (hm_ne0 g181 z180)]; exact g181
  refine hm_putF X hK hM hS (fs' := [.long 0, .int 0, .int 0, .int 0, .int 0, .ref q1, .ref q9, .ref q19, .int 0, .int (-1), .ref q34, .ref q51, .ref q67, .ref q85, .ref q105, .ref q127, .ref q151, .ref q177, .int 0, .null, .null, .null, .int 0, .null, .int 0, .null, .int 0, .null, .int 0, .int 0, .null]) g202 fF_GrantServerModel_45 hin rfl rfl (Nat.le_of_ble_eq_true rfl) rfl d_GrantServerModel_init_91 (fun f203 H locs e204 hM hS => ?_)
  have hpr := hm_pr_up hpr e204
  refine lv_aload_n hx hb d_GrantServerModel_init_94 rfl (lv_at hl 0 rfl) ?_
  refine lv_sipush (v := 520) hx hb d_GrantServerModel_init_95 (by decide) ?_
  have g209 : f203 h = some (.inr (8, [.long 0, .int 0, .int 0, .int 0, .int 0, .ref q1, .ref q9, .ref q19, .int 0, .int (-1), .ref q34, .ref q51, .ref q67, .ref q85, .ref q105, .ref q127, .ref q151, .ref q177, .int 0, .null, .null, .null, .int 0, .null, .int 0, .null, .int 0, .null, .int 0, .int 0, .null])) := by rw [e204, hm_up_s]
  have g210 : f178 q1 = some (.inl (k 0, 4, .inl (fun _ => 0))) := by rw [e179, hm_up_n (hm_ne0 g183 z180)]; exact g183
  have g211 : f203 q1 = some (.inl (k 0, 4, .inl (fun _ => 0))) := by rw [e204, hm_up_n ((hm_ne0 hh z4).symm)]; exact g210
  have g212 : f178 q9 = some (.inl (k 0, 4, .inl (fun _ => 0))) := by rw [e179, hm_up_n (hm_ne0 g185 z180)]; exact g185
  have g213 : f203 q9 = some (.inl (k 0, 4, .inl (fun _ => 0))) := by rw [e204, hm_up_n ((hm_ne0 g13 z12).symm)]; exact g212
  have g214 : f178 q19 = some (.inl (k 0, 4, .inl (fun _ => 0))) := by rw [e179, hm_up_n (hm_ne0 g187 z180)]; exact g187
  have g215 : f203 q19 = some (.inl (k 0, 4, .inl (fun _ => 0))) := by rw [e204, hm_up_n ((hm_ne0 g23 z22).symm)]; exact g214
  have g216 : f178 q34 = some (.inl (k 0, 64, .inl (fun _ => 0))) := by rw [e179, hm_up_n (hm_ne0 g189 z180)]; exact g189
  have g217 : f203 q34 = some (.inl (k 0, 64, .inl (fun _ => 0))) := by rw [e204, hm_up_n ((hm_ne0 g38 z37).symm)]; exact g216
  have g218 : f178 q51 = some (.inl (k 0, 64, .inl (fun _ => 0))) := by rw [e179, hm_up_n (hm_ne0 g191 z180)]; exact g191
  have g219 : f203 q51 = some (.inl (k 0, 64, .inl (fun _ => 0))) := by rw [e204, hm_up_n ((hm_ne0 g55 z54).symm)]; exact g218
  have g220 : f178 q67 = some (.inl (k 0, 64, .inl (fun _ => 0))) := by rw [e179, hm_up_n (hm_ne0 g193 z180)]; exact g193
  have g221 : f203 q67 = some (.inl (k 0, 64, .inl (fun _ => 0))) := by rw [e204, hm_up_n ((hm_ne0 g71 z70).symm)]; exact g220
  have g222 : f178 q85 = some (.inl (k 0, 64, .inl (fun _ => 0))) := by rw [e179, hm_up_n (hm_ne0 g195 z180)]; exact g195
  have g223 : f203 q85 = some (.inl (k 0, 64, .inl (fun _ => 0))) := by rw [e204, hm_up_n ((hm_ne0 g89 z88).symm)]; exact g222
  have g224 : f178 q105 = some (.inl (k 1, 64, .inl (fun _ => 0))) := by rw [e179, hm_up_n (hm_ne0 g197 z180)]; exact g197
  have g225 : f203 q105 = some (.inl (k 1, 64, .inl (fun _ => 0))) := by rw [e204, hm_up_n ((hm_ne0 g109 z108).symm)]; exact g224
  have g226 : f178 q127 = some (.inl (k 0, 64, .inl (fun _ => 0))) := by rw [e179, hm_up_n (hm_ne0 g199 z180)]; exact g199
  have g227 : f203 q127 = some (.inl (k 0, 64, .inl (fun _ => 0))) := by rw [e204, hm_up_n ((hm_ne0 g131 z130).symm)]; exact g226
  have g228 : f178 q151 = some (.inl (k 0, 16, .inl (fun _ => 0))) := by rw [e179, hm_up_n (hm_ne0 g200 z180)]; exact g200
  have g229 : f203 q151 = some (.inl (k 0, 16, .inl (fun _ => 0))) := by rw [e204, hm_up_n ((hm_ne0 g155 z154).symm)]; exact g228
  have g230 : f203 q177 = some (.inl (k 0, 16, .inl (fun _ => 0))) := by rw [e204, hm_up_n ((hm_ne0 g181 z180).symm)]; exact g201
  refine hm_newa (atype := .int) (ty := .int) X hK hM hS hA rfl wa_0 0 rfl (N' := 520) (a0 := (520, .inl (fun _ => 0))) (fun _ => rfl) (by decide) (by decide) (by decide) (by decide) (by decide) d_GrantServerModel_init_98 (fun q205 f206 H e207 z208 hM hS => ?_)
  have hnd := hm_nd_new hnd hpr z208; have hpr := hm_pr_new hpr e207
  have g231 : f206 q205 = some (.inl (k 0, 520, .inl (fun _ => 0))) := hm_new1 e207
  have g232 : f206 h = some (.inr (8, [.long 0, .int 0, .int 0, .int 0, .int 0, .ref q1, .ref q9, .ref q19, .int 0, .int (-1), .ref q34, .ref q51, .ref q67, .ref q85, .ref q105, .ref q127, .ref q151, .ref q177, .int 0, .null, .null, .null, .int 0, .null, .int 0, .null, .int 0, .null, .int 0, .int 0, .null])) := by rw [e207, hm_up_n (hm_ne0 g209 z208)]; exact g209
  refine hm_putF X hK hM hS (fs' := [.long 0, .int 0, .int 0, .int 0, .int 0, .ref q1, .ref q9, .ref q19, .int 0, .int (-1), .ref q34, .ref q51, .ref q67, .ref q85, .ref q105, .ref q127, .ref q151, .ref q177, .int 0, .ref q205, .null, .null, .int 0, .null, .int 0, .null, .int 0, .null, .int 0, .int 0, .null]) g232 fF_GrantServerModel_48 hin rfl rfl (Nat.le_of_ble_eq_true rfl) rfl d_GrantServerModel_init_100 (fun f233 H locs e234 hM hS => ?_)
  have hpr := hm_pr_up hpr e234
  refine lv_aload_n hx hb d_GrantServerModel_init_103 rfl (lv_at hl 0 rfl) ?_
  refine lv_sipush (v := 520) hx hb d_GrantServerModel_init_104 (by decide) ?_
  have g239 : f233 h = some (.inr (8, [.long 0, .int 0, .int 0, .int 0, .int 0, .ref q1, .ref q9, .ref q19, .int 0, .int (-1), .ref q34, .ref q51, .ref q67, .ref q85, .ref q105, .ref q127, .ref q151, .ref q177, .int 0, .ref q205, .null, .null, .int 0, .null, .int 0, .null, .int 0, .null, .int 0, .int 0, .null])) := by rw [e234, hm_up_s]
  have g240 : f206 q1 = some (.inl (k 0, 4, .inl (fun _ => 0))) := by rw [e207, hm_up_n (hm_ne0 g211 z208)]; exact g211
  have g241 : f233 q1 = some (.inl (k 0, 4, .inl (fun _ => 0))) := by rw [e234, hm_up_n ((hm_ne0 hh z4).symm)]; exact g240
  have g242 : f206 q9 = some (.inl (k 0, 4, .inl (fun _ => 0))) := by rw [e207, hm_up_n (hm_ne0 g213 z208)]; exact g213
  have g243 : f233 q9 = some (.inl (k 0, 4, .inl (fun _ => 0))) := by rw [e234, hm_up_n ((hm_ne0 g13 z12).symm)]; exact g242
  have g244 : f206 q19 = some (.inl (k 0, 4, .inl (fun _ => 0))) := by rw [e207, hm_up_n (hm_ne0 g215 z208)]; exact g215
  have g245 : f233 q19 = some (.inl (k 0, 4, .inl (fun _ => 0))) := by rw [e234, hm_up_n ((hm_ne0 g23 z22).symm)]; exact g244
  have g246 : f206 q34 = some (.inl (k 0, 64, .inl (fun _ => 0))) := by rw [e207, hm_up_n (hm_ne0 g217 z208)]; exact g217
  have g247 : f233 q34 = some (.inl (k 0, 64, .inl (fun _ => 0))) := by rw [e234, hm_up_n ((hm_ne0 g38 z37).symm)]; exact g246
  have g248 : f206 q51 = some (.inl (k 0, 64, .inl (fun _ => 0))) := by rw [e207, hm_up_n (hm_ne0 g219 z208)]; exact g219
  have g249 : f233 q51 = some (.inl (k 0, 64, .inl (fun _ => 0))) := by rw [e234, hm_up_n ((hm_ne0 g55 z54).symm)]; exact g248
  have g250 : f206 q67 = some (.inl (k 0, 64, .inl (fun _ => 0))) := by rw [e207, hm_up_n (hm_ne0 g221 z208)]; exact g221
  have g251 : f233 q67 = some (.inl (k 0, 64, .inl (fun _ => 0))) := by rw [e234, hm_up_n ((hm_ne0 g71 z70).symm)]; exact g250
  have g252 : f206 q85 = some (.inl (k 0, 64, .inl (fun _ => 0))) := by rw [e207, hm_up_n (hm_ne0 g223 z208)]; exact g223
  have g253 : f233 q85 = some (.inl (k 0, 64, .inl (fun _ => 0))) := by rw [e234, hm_up_n ((hm_ne0 g89 z88).symm)]; exact g252
  have g254 : f206 q105 = some (.inl (k 1, 64, .inl (fun _ => 0))) := by rw [e207, hm_up_n (hm_ne0 g225 z208)]; exact g225
  have g255 : f233 q105 = some (.inl (k 1, 64, .inl (fun _ => 0))) := by rw [e234, hm_up_n ((hm_ne0 g109 z108).symm)]; exact g254
  have g256 : f206 q127 = some (.inl (k 0, 64, .inl (fun _ => 0))) := by rw [e207, hm_up_n (hm_ne0 g227 z208)]; exact g227
  have g257 : f233 q127 = some (.inl (k 0, 64, .inl (fun _ => 0))) := by rw [e234, hm_up_n ((hm_ne0 g131 z130).symm)]; exact g256
  have g258 : f206 q151 = some (.inl (k 0, 16, .inl (fun _ => 0))) := by rw [e207, hm_up_n (hm_ne0 g229 z208)]; exact g229
  have g259 : f233 q151 = some (.inl (k 0, 16, .inl (fun _ => 0))) := by rw [e234, hm_up_n ((hm_ne0 g155 z154).symm)]; exact g258
  have g260 : f206 q177 = some (.inl (k 0, 16, .inl (fun _ => 0))) := by rw [e207, hm_up_n (hm_ne0 g230 z208)]; exact g230
  have g261 : f233 q177 = some (.inl (k 0, 16, .inl (fun _ => 0))) := by rw [e234, hm_up_n ((hm_ne0 g181 z180).symm)]; exact g260
  have g262 : f233 q205 = some (.inl (k 0, 520, .inl (fun _ => 0))) := by rw [e234, hm_up_n ((hm_ne0 g209 z208).symm)]; exact g231
  refine hm_newa (atype := .int) (ty := .int) X hK hM hS hA rfl wa_0 0 rfl (N' := 520) (a0 := (520, .inl (fun _ => 0))) (fun _ => rfl) (by decide) (by decide) (by decide) (by decide) (by decide) d_GrantServerModel_init_107 (fun q235 f236 H e237 z238 hM hS => ?_)
  have hnd := hm_nd_new hnd hpr z238; have hpr := hm_pr_new hpr e237
  have g263 : f236 q235 = some (.inl (k 0, 520, .inl (fun _ => 0))) := hm_new1 e237
  have g264 : f236 h = some (.inr (8, [.long 0, .int 0, .int 0, .int 0, .int 0, .ref q1, .ref q9, .ref q19, .int 0, .int (-1), .ref q34, .ref q51, .ref q67, .ref q85, .ref q105, .ref q127, .ref q151, .ref q177, .int 0, .ref q205, .null, .null, .int 0, .null, .int 0, .null, .int 0, .null, .int 0, .int 0, .null])) := by rw [e237, hm_up_n (hm_ne0 g239 z238)]; exact g239
  refine hm_putF X hK hM hS (fs' := [.long 0, .int 0, .int 0, .int 0, .int 0, .ref q1, .ref q9, .ref q19, .int 0, .int (-1), .ref q34, .ref q51, .ref q67, .ref q85, .ref q105, .ref q127, .ref q151, .ref q177, .int 0, .ref q205, .ref q235, .null, .int 0, .null, .int 0, .null, .int 0, .null, .int 0, .int 0, .null]) g264 fF_GrantServerModel_51 hin rfl rfl (Nat.le_of_ble_eq_true rfl) rfl d_GrantServerModel_init_109 (fun f265 H locs e266 hM hS => ?_)
  have hpr := hm_pr_up hpr e266
  refine lv_aload_n hx hb d_GrantServerModel_init_112 rfl (lv_at hl 0 rfl) ?_
  refine lv_sipush (v := 520) hx hb d_GrantServerModel_init_113 (by decide) ?_
  have g271 : f265 h = some (.inr (8, [.long 0, .int 0, .int 0, .int 0, .int 0, .ref q1, .ref q9, .ref q19, .int 0, .int (-1), .ref q34, .ref q51, .ref q67, .ref q85, .ref q105, .ref q127, .ref q151, .ref q177, .int 0, .ref q205, .ref q235, .null, .int 0, .null, .int 0, .null, .int 0, .null, .int 0, .int 0, .null])) := by rw [e266, hm_up_s]
  have g272 : f236 q1 = some (.inl (k 0, 4, .inl (fun _ => 0))) := by rw [e237, hm_up_n (hm_ne0 g241 z238)]; exact g241
  have g273 : f265 q1 = some (.inl (k 0, 4, .inl (fun _ => 0))) := by rw [e266, hm_up_n ((hm_ne0 hh z4).symm)]; exact g272
  have g274 : f236 q9 = some (.inl (k 0, 4, .inl (fun _ => 0))) := by rw [e237, hm_up_n (hm_ne0 g243 z238)]; exact g243
  have g275 : f265 q9 = some (.inl (k 0, 4, .inl (fun _ => 0))) := by rw [e266, hm_up_n ((hm_ne0 g13 z12).symm)]; exact g274
  have g276 : f236 q19 = some (.inl (k 0, 4, .inl (fun _ => 0))) := by rw [e237, hm_up_n (hm_ne0 g245 z238)]; exact g245
  have g277 : f265 q19 = some (.inl (k 0, 4, .inl (fun _ => 0))) := by rw [e266, hm_up_n ((hm_ne0 g23 z22).symm)]; exact g276
  have g278 : f236 q34 = some (.inl (k 0, 64, .inl (fun _ => 0))) := by rw [e237, hm_up_n (hm_ne0 g247 z238)]; exact g247
  have g279 : f265 q34 = some (.inl (k 0, 64, .inl (fun _ => 0))) := by rw [e266, hm_up_n ((hm_ne0 g38 z37).symm)]; exact g278
  have g280 : f236 q51 = some (.inl (k 0, 64, .inl (fun _ => 0))) := by rw [e237, hm_up_n (hm_ne0 g249 z238)]; exact g249
  have g281 : f265 q51 = some (.inl (k 0, 64, .inl (fun _ => 0))) := by rw [e266, hm_up_n ((hm_ne0 g55 z54).symm)]; exact g280
  have g282 : f236 q67 = some (.inl (k 0, 64, .inl (fun _ => 0))) := by rw [e237, hm_up_n (hm_ne0 g251 z238)]; exact g251
  have g283 : f265 q67 = some (.inl (k 0, 64, .inl (fun _ => 0))) := by rw [e266, hm_up_n ((hm_ne0 g71 z70).symm)]; exact g282
  have g284 : f236 q85 = some (.inl (k 0, 64, .inl (fun _ => 0))) := by rw [e237, hm_up_n (hm_ne0 g253 z238)]; exact g253
  have g285 : f265 q85 = some (.inl (k 0, 64, .inl (fun _ => 0))) := by rw [e266, hm_up_n ((hm_ne0 g89 z88).symm)]; exact g284
  have g286 : f236 q105 = some (.inl (k 1, 64, .inl (fun _ => 0))) := by rw [e237, hm_up_n (hm_ne0 g255 z238)]; exact g255
  have g287 : f265 q105 = some (.inl (k 1, 64, .inl (fun _ => 0))) := by rw [e266, hm_up_n ((hm_ne0 g109 z108).symm)]; exact g286
  have g288 : f236 q127 = some (.inl (k 0, 64, .inl (fun _ => 0))) := by rw [e237, hm_up_n (hm_ne0 g257 z238)]; exact g257
  have g289 : f265 q127 = some (.inl (k 0, 64, .inl (fun _ => 0))) := by rw [e266, hm_up_n ((hm_ne0 g131 z130).symm)]; exact g288
  have g290 : f236 q151 = some (.inl (k 0, 16, .inl (fun _ => 0))) := by rw [e237, hm_up_n (hm_ne0 g259 z238)]; exact g259
  have g291 : f265 q151 = some (.inl (k 0, 16, .inl (fun _ => 0))) := by rw [e266, hm_up_n ((hm_ne0 g155 z154).symm)]; exact g290
  have g292 : f236 q177 = some (.inl (k 0, 16, .inl (fun _ => 0))) := by rw [e237, hm_up_n (hm_ne0 g261 z238)]; exact g261
  have g293 : f265 q177 = some (.inl (k 0, 16, .inl (fun _ => 0))) := by rw [e266, hm_up_n ((hm_ne0 g181 z180).symm)]; exact g292
  have g294 : f236 q205 = some (.inl (k 0, 520, .inl (fun _ => 0))) := by rw [e237, hm_up_n (hm_ne0 g262 z238)]; exact g262
  have g295 : f265 q205 = some (.inl (k 0, 520, .inl (fun _ => 0))) := by rw [e266, hm_up_n ((hm_ne0 g209 z208).symm)]; exact g294
  have g296 : f265 q235 = some (.inl (k 0, 520, .inl (fun _ => 0))) := by rw [e266, hm_up_n ((hm_ne0 g239 z238).symm)]; exact g263
  refine hm_newa (atype := .boolean) (ty := .boolean) X hK hM hS hA rfl wa_1 1 rfl (N' := 520) (a0 := (520, .inl (fun _ => 0))) (fun _ => rfl) (by decide) (by decide) (by decide) (by decide) (by decide) d_GrantServerModel_init_116 (fun q267 f268 H e269 z270 hM hS => ?_)
  have hnd := hm_nd_new hnd hpr z270; have hpr := hm_pr_new hpr e269
  have g297 : f268 q267 = some (.inl (k 1, 520, .inl (fun _ => 0))) := hm_new1 e269
  have g298 : f268 h = some (.inr (8, [.long 0, .int 0, .int 0, .int 0, .int 0, .ref q1, .ref q9, .ref q19, .int 0, .int (-1), .ref q34, .ref q51, .ref q67, .ref q85, .ref q105, .ref q127, .ref q151, .ref q177, .int 0, .ref q205, .ref q235, .null, .int 0, .null, .int 0, .null, .int 0, .null, .int 0, .int 0, .null])) := by rw [e269, hm_up_n (hm_ne0 g271 z270)]; exact g271
  refine hm_putF X hK hM hS (fs' := [.long 0, .int 0, .int 0, .int 0, .int 0, .ref q1, .ref q9, .ref q19, .int 0, .int (-1), .ref q34, .ref q51, .ref q67, .ref q85, .ref q105, .ref q127, .ref q151, .ref q177, .int 0, .ref q205, .ref q235, .ref q267, .int 0, .null, .int 0, .null, .int 0, .null, .int 0, .int 0, .null]) g298 fF_GrantServerModel_54 hin rfl rfl (Nat.le_of_ble_eq_true rfl) rfl d_GrantServerModel_init_118 (fun f299 H locs e300 hM hS => ?_)
  have hpr := hm_pr_up hpr e300
  refine lv_aload_n hx hb d_GrantServerModel_init_121 rfl (lv_at hl 0 rfl) ?_
  refine lv_bipush (v := 120) hx hb d_GrantServerModel_init_122 (by decide) ?_
  have g305 : f299 h = some (.inr (8, [.long 0, .int 0, .int 0, .int 0, .int 0, .ref q1, .ref q9, .ref q19, .int 0, .int (-1), .ref q34, .ref q51, .ref q67, .ref q85, .ref q105, .ref q127, .ref q151, .ref q177, .int 0, .ref q205, .ref q235, .ref q267, .int 0, .null, .int 0, .null, .int 0, .null, .int 0, .int 0, .null])) := by rw [e300, hm_up_s]
  have g306 : f268 q1 = some (.inl (k 0, 4, .inl (fun _ => 0))) := by rw [e269, hm_up_n (hm_ne0 g273 z270)]; exact g273
  have g307 : f299 q1 = some (.inl (k 0, 4, .inl (fun _ => 0))) := by rw [e300, hm_up_n ((hm_ne0 hh z4).symm)]; exact g306
  have g308 : f268 q9 = some (.inl (k 0, 4, .inl (fun _ => 0))) := by rw [e269, hm_up_n (hm_ne0 g275 z270)]; exact g275
  have g309 : f299 q9 = some (.inl (k 0, 4, .inl (fun _ => 0))) := by rw [e300, hm_up_n ((hm_ne0 g13 z12).symm)]; exact g308
  have g310 : f268 q19 = some (.inl (k 0, 4, .inl (fun _ => 0))) := by rw [e269, hm_up_n (hm_ne0 g277 z270)]; exact g277
  have g311 : f299 q19 = some (.inl (k 0, 4, .inl (fun _ => 0))) := by rw [e300, hm_up_n ((hm_ne0 g23 z22).symm)]; exact g310
  have g312 : f268 q34 = some (.inl (k 0, 64, .inl (fun _ => 0))) := by rw [e269, hm_up_n (hm_ne0 g279 z270)]; exact g279
  have g313 : f299 q34 = some (.inl (k 0, 64, .inl (fun _ => 0))) := by rw [e300, hm_up_n ((hm_ne0 g38 z37).symm)]; exact g312
  have g314 : f268 q51 = some (.inl (k 0, 64, .inl (fun _ => 0))) := by rw [e269, hm_up_n (hm_ne0 g281 z270)]; exact g281
  have g315 : f299 q51 = some (.inl (k 0, 64, .inl (fun _ => 0))) := by rw [e300, hm_up_n ((hm_ne0 g55 z54).symm)]; exact g314
  have g316 : f268 q67 = some (.inl (k 0, 64, .inl (fun _ => 0))) := by rw [e269, hm_up_n (hm_ne0 g283 z270)]; exact g283
  have g317 : f299 q67 = some (.inl (k 0, 64, .inl (fun _ => 0))) := by rw [e300, hm_up_n ((hm_ne0 g71 z70).symm)]; exact g316
  have g318 : f268 q85 = some (.inl (k 0, 64, .inl (fun _ => 0))) := by rw [e269, hm_up_n (hm_ne0 g285 z270)]; exact g285
  have g319 : f299 q85 = some (.inl (k 0, 64, .inl (fun _ => 0))) := by rw [e300, hm_up_n ((hm_ne0 g89 z88).symm)]; exact g318
  have g320 : f268 q105 = some (.inl (k 1, 64, .inl (fun _ => 0))) := by rw [e269, hm_up_n (hm_ne0 g287 z270)]; exact g287
  have g321 : f299 q105 = some (.inl (k 1, 64, .inl (fun _ => 0))) := by rw [e300, hm_up_n ((hm_ne0 g109 z108).symm)]; exact g320
  have g322 : f268 q127 = some (.inl (k 0, 64, .inl (fun _ => 0))) := by rw [e269, hm_up_n (hm_ne0 g289 z270)]; exact g289
  have g323 : f299 q127 = some (.inl (k 0, 64, .inl (fun _ => 0))) := by rw [e300, hm_up_n ((hm_ne0 g131 z130).symm)]; exact g322
  have g324 : f268 q151 = some (.inl (k 0, 16, .inl (fun _ => 0))) := by rw [e269, hm_up_n (hm_ne0 g291 z270)]; exact g291
  have g325 : f299 q151 = some (.inl (k 0, 16, .inl (fun _ => 0))) := by rw [e300, hm_up_n ((hm_ne0 g155 z154).symm)]; exact g324
  have g326 : f268 q177 = some (.inl (k 0, 16, .inl (fun _ => 0))) := by rw [e269, hm_up_n (hm_ne0 g293 z270)]; exact g293
  have g327 : f299 q177 = some (.inl (k 0, 16, .inl (fun _ => 0))) := by rw [e300, hm_up_n ((hm_ne0 g181 z180).symm)]; exact g326
  have g328 : f268 q205 = some (.inl (k 0, 520, .inl (fun _ => 0))) := by rw [e269, hm_up_n (hm_ne0 g295 z270)]; exact g295
  have g329 : f299 q205 = some (.inl (k 0, 520, .inl (fun _ => 0))) := by rw [e300, hm_up_n ((hm_ne0 g209 z208).symm)]; exact g328
  have g330 : f268 q235 = some (.inl (k 0, 520, .inl (fun _ => 0))) := by rw [e269, hm_up_n (hm_ne0 g296 z270)]; exact g296
  have g331 : f299 q235 = some (.inl (k 0, 520, .inl (fun _ => 0))) := by rw [e300, hm_up_n ((hm_ne0 g239 z238).symm)]; exact g330
  have g332 : f299 q267 = some (.inl (k 1, 520, .inl (fun _ => 0))) := by rw [e300, hm_up_n ((hm_ne0 g271 z270).symm)]; exact g297
  refine hm_newa (atype := .int) (ty := .int) X hK hM hS hA rfl wa_0 0 rfl (N' := 120) (a0 := (120, .inl (fun _ => 0))) (fun _ => rfl) (by decide) (by decide) (by decide) (by decide) (by decide) d_GrantServerModel_init_124 (fun q301 f302 H e303 z304 hM hS => ?_)
  have hnd := hm_nd_new hnd hpr z304; have hpr := hm_pr_new hpr e303
  have g333 : f302 q301 = some (.inl (k 0, 120, .inl (fun _ => 0))) := hm_new1 e303
  have g334 : f302 h = some (.inr (8, [.long 0, .int 0, .int 0, .int 0, .int 0, .ref q1, .ref q9, .ref q19, .int 0, .int (-1), .ref q34, .ref q51, .ref q67, .ref q85, .ref q105, .ref q127, .ref q151, .ref q177, .int 0, .ref q205, .ref q235, .ref q267, .int 0, .null, .int 0, .null, .int 0, .null, .int 0, .int 0, .null])) := by rw [e303, hm_up_n (hm_ne0 g305 z304)]; exact g305
  refine hm_putF X hK hM hS (fs' := [.long 0, .int 0, .int 0, .int 0, .int 0, .ref q1, .ref q9, .ref q19, .int 0, .int (-1), .ref q34, .ref q51, .ref q67, .ref q85, .ref q105, .ref q127, .ref q151, .ref q177, .int 0, .ref q205, .ref q235, .ref q267, .int 0, .ref q301, .int 0, .null, .int 0, .null, .int 0, .int 0, .null]) g334 fF_GrantServerModel_57 hin rfl rfl (Nat.le_of_ble_eq_true rfl) rfl d_GrantServerModel_init_126 (fun f335 H locs e336 hM hS => ?_)
  have hpr := hm_pr_up hpr e336
  refine lv_aload_n hx hb d_GrantServerModel_init_129 rfl (lv_at hl 0 rfl) ?_
  refine lv_bipush (v := 120) hx hb d_GrantServerModel_init_130 (by decide) ?_
  have g341 : f335 h = some (.inr (8, [.long 0, .int 0, .int 0, .int 0, .int 0, .ref q1, .ref q9, .ref q19, .int 0, .int (-1), .ref q34, .ref q51, .ref q67, .ref q85, .ref q105, .ref q127, .ref q151, .ref q177, .int 0, .ref q205, .ref q235, .ref q267, .int 0, .ref q301, .int 0, .null, .int 0, .null, .int 0, .int 0, .null])) := by rw [e336, hm_up_s]
  have g342 : f302 q1 = some (.inl (k 0, 4, .inl (fun _ => 0))) := by rw [e303, hm_up_n (hm_ne0 g307 z304)]; exact g307
  have g343 : f335 q1 = some (.inl (k 0, 4, .inl (fun _ => 0))) := by rw [e336, hm_up_n ((hm_ne0 hh z4).symm)]; exact g342
  have g344 : f302 q9 = some (.inl (k 0, 4, .inl (fun _ => 0))) := by rw [e303, hm_up_n (hm_ne0 g309 z304)]; exact g309
  have g345 : f335 q9 = some (.inl (k 0, 4, .inl (fun _ => 0))) := by rw [e336, hm_up_n ((hm_ne0 g13 z12).symm)]; exact g344
  have g346 : f302 q19 = some (.inl (k 0, 4, .inl (fun _ => 0))) := by rw [e303, hm_up_n (hm_ne0 g311 z304)]; exact g311
  have g347 : f335 q19 = some (.inl (k 0, 4, .inl (fun _ => 0))) := by rw [e336, hm_up_n ((hm_ne0 g23 z22).symm)]; exact g346
  have g348 : f302 q34 = some (.inl (k 0, 64, .inl (fun _ => 0))) := by rw [e303, hm_up_n (hm_ne0 g313 z304)]; exact g313
  have g349 : f335 q34 = some (.inl (k 0, 64, .inl (fun _ => 0))) := by rw [e336, hm_up_n ((hm_ne0 g38 z37).symm)]; exact g348
  have g350 : f302 q51 = some (.inl (k 0, 64, .inl (fun _ => 0))) := by rw [e303, hm_up_n (hm_ne0 g315 z304)]; exact g315
  have g351 : f335 q51 = some (.inl (k 0, 64, .inl (fun _ => 0))) := by rw [e336, hm_up_n ((hm_ne0 g55 z54).symm)]; exact g350
  have g352 : f302 q67 = some (.inl (k 0, 64, .inl (fun _ => 0))) := by rw [e303, hm_up_n (hm_ne0 g317 z304)]; exact g317
  have g353 : f335 q67 = some (.inl (k 0, 64, .inl (fun _ => 0))) := by rw [e336, hm_up_n ((hm_ne0 g71 z70).symm)]; exact g352
  have g354 : f302 q85 = some (.inl (k 0, 64, .inl (fun _ => 0))) := by rw [e303, hm_up_n (hm_ne0 g319 z304)]; exact g319
  have g355 : f335 q85 = some (.inl (k 0, 64, .inl (fun _ => 0))) := by rw [e336, hm_up_n ((hm_ne0 g89 z88).symm)]; exact g354
  have g356 : f302 q105 = some (.inl (k 1, 64, .inl (fun _ => 0))) := by rw [e303, hm_up_n (hm_ne0 g321 z304)]; exact g321
  have g357 : f335 q105 = some (.inl (k 1, 64, .inl (fun _ => 0))) := by rw [e336, hm_up_n ((hm_ne0 g109 z108).symm)]; exact g356
  have g358 : f302 q127 = some (.inl (k 0, 64, .inl (fun _ => 0))) := by rw [e303, hm_up_n (hm_ne0 g323 z304)]; exact g323
  have g359 : f335 q127 = some (.inl (k 0, 64, .inl (fun _ => 0))) := by rw [e336, hm_up_n ((hm_ne0 g131 z130).symm)]; exact g358
  have g360 : f302 q151 = some (.inl (k 0, 16, .inl (fun _ => 0))) := by rw [e303, hm_up_n (hm_ne0 g325 z304)]; exact g325
  have g361 : f335 q151 = some (.inl (k 0, 16, .inl (fun _ => 0))) := by rw [e336, hm_up_n ((hm_ne0 g155 z154).symm)]; exact g360
  have g362 : f302 q177 = some (.inl (k 0, 16, .inl (fun _ => 0))) := by rw [e303, hm_up_n (hm_ne0 g327 z304)]; exact g327
  have g363 : f335 q177 = some (.inl (k 0, 16, .inl (fun _ => 0))) := by rw [e336, hm_up_n ((hm_ne0 g181 z180).symm)]; exact g362
  have g364 : f302 q205 = some (.inl (k 0, 520, .inl (fun _ => 0))) := by rw [e303, hm_up_n (hm_ne0 g329 z304)]; exact g329
  have g365 : f335 q205 = some (.inl (k 0, 520, .inl (fun _ => 0))) := by rw [e336, hm_up_n ((hm_ne0 g209 z208).symm)]; exact g364
  have g366 : f302 q235 = some (.inl (k 0, 520, .inl (fun _ => 0))) := by rw [e303, hm_up_n (hm_ne0 g331 z304)]; exact g331
  have g367 : f335 q235 = some (.inl (k 0, 520, .inl (fun _ => 0))) := by rw [e336, hm_up_n ((hm_ne0 g239 z238).symm)]; exact g366
  have g368 : f302 q267 = some (.inl (k 1, 520, .inl (fun _ => 0))) := by rw [e303, hm_up_n (hm_ne0 g332 z304)]; exact g332
  have g369 : f335 q267 = some (.inl (k 1, 520, .inl (fun _ => 0))) := by rw [e336, hm_up_n ((hm_ne0 g271 z270).symm)]; exact g368
  have g370 : f335 q301 = some (.inl (k 0, 120, .inl (fun _ => 0))) := by rw [e336, hm_up_n ((hm_ne0 g305 z304).symm)]; exact g333
  refine hm_newa (atype := .int) (ty := .int) X hK hM hS hA rfl wa_0 0 rfl (N' := 120) (a0 := (120, .inl (fun _ => 0))) (fun _ => rfl) (by decide) (by decide) (by decide) (by decide) (by decide) d_GrantServerModel_init_132 (fun q337 f338 H e339 z340 hM hS => ?_)
  have hnd := hm_nd_new hnd hpr z340; have hpr := hm_pr_new hpr e339
  have g371 : f338 q337 = some (.inl (k 0, 120, .inl (fun _ => 0))) := hm_new1 e339
  have g372 : f338 h = some (.inr (8, [.long 0, .int 0, .int 0, .int 0, .int 0, .ref q1, .ref q9, .ref q19, .int 0, .int (-1), .ref q34, .ref q51, .ref q67, .ref q85, .ref q105, .ref q127, .ref q151, .ref q177, .int 0, .ref q205, .ref q235, .ref q267, .int 0, .ref q301, .int 0, .null, .int 0, .null, .int 0, .int 0, .null])) := by rw [e339, hm_up_n (hm_ne0 g341 z340)]; exact g341
  refine hm_putF X hK hM hS (fs' := [.long 0, .int 0, .int 0, .int 0, .int 0, .ref q1, .ref q9, .ref q19, .int 0, .int (-1), .ref q34, .ref q51, .ref q67, .ref q85, .ref q105, .ref q127, .ref q151, .ref q177, .int 0, .ref q205, .ref q235, .ref q267, .int 0, .ref q301, .int 0, .ref q337, .int 0, .null, .int 0, .int 0, .null]) g372 fF_GrantServerModel_60 hin rfl rfl (Nat.le_of_ble_eq_true rfl) rfl d_GrantServerModel_init_134 (fun f373 H locs e374 hM hS => ?_)
  have hpr := hm_pr_up hpr e374
  refine lv_aload_n hx hb d_GrantServerModel_init_137 rfl (lv_at hl 0 rfl) ?_
  refine lv_sipush (v := 130) hx hb d_GrantServerModel_init_138 (by decide) ?_
  have g379 : f373 h = some (.inr (8, [.long 0, .int 0, .int 0, .int 0, .int 0, .ref q1, .ref q9, .ref q19, .int 0, .int (-1), .ref q34, .ref q51, .ref q67, .ref q85, .ref q105, .ref q127, .ref q151, .ref q177, .int 0, .ref q205, .ref q235, .ref q267, .int 0, .ref q301, .int 0, .ref q337, .int 0, .null, .int 0, .int 0, .null])) := by rw [e374, hm_up_s]
  have g380 : f338 q1 = some (.inl (k 0, 4, .inl (fun _ => 0))) := by rw [e339, hm_up_n (hm_ne0 g343 z340)]; exact g343
  have g381 : f373 q1 = some (.inl (k 0, 4, .inl (fun _ => 0))) := by rw [e374, hm_up_n ((hm_ne0 hh z4).symm)]; exact g380
  have g382 : f338 q9 = some (.inl (k 0, 4, .inl (fun _ => 0))) := by rw [e339, hm_up_n (hm_ne0 g345 z340)]; exact g345
  have g383 : f373 q9 = some (.inl (k 0, 4, .inl (fun _ => 0))) := by rw [e374, hm_up_n ((hm_ne0 g13 z12).symm)]; exact g382
  have g384 : f338 q19 = some (.inl (k 0, 4, .inl (fun _ => 0))) := by rw [e339, hm_up_n (hm_ne0 g347 z340)]; exact g347
  have g385 : f373 q19 = some (.inl (k 0, 4, .inl (fun _ => 0))) := by rw [e374, hm_up_n ((hm_ne0 g23 z22).symm)]; exact g384
  have g386 : f338 q34 = some (.inl (k 0, 64, .inl (fun _ => 0))) := by rw [e339, hm_up_n (hm_ne0 g349 z340)]; exact g349
  have g387 : f373 q34 = some (.inl (k 0, 64, .inl (fun _ => 0))) := by rw [e374, hm_up_n ((hm_ne0 g38 z37).symm)]; exact g386
  have g388 : f338 q51 = some (.inl (k 0, 64, .inl (fun _ => 0))) := by rw [e339, hm_up_n (hm_ne0 g351 z340)]; exact g351
  have g389 : f373 q51 = some (.inl (k 0, 64, .inl (fun _ => 0))) := by rw [e374, hm_up_n ((hm_ne0 g55 z54).symm)]; exact g388
  have g390 : f338 q67 = some (.inl (k 0, 64, .inl (fun _ => 0))) := by rw [e339, hm_up_n (hm_ne0 g353 z340)]; exact g353
  have g391 : f373 q67 = some (.inl (k 0, 64, .inl (fun _ => 0))) := by rw [e374, hm_up_n ((hm_ne0 g71 z70).symm)]; exact g390
  have g392 : f338 q85 = some (.inl (k 0, 64, .inl (fun _ => 0))) := by rw [e339, hm_up_n (hm_ne0 g355 z340)]; exact g355
  have g393 : f373 q85 = some (.inl (k 0, 64, .inl (fun _ => 0))) := by rw [e374, hm_up_n ((hm_ne0 g89 z88).symm)]; exact g392
  have g394 : f338 q105 = some (.inl (k 1, 64, .inl (fun _ => 0))) := by rw [e339, hm_up_n (hm_ne0 g357 z340)]; exact g357
  have g395 : f373 q105 = some (.inl (k 1, 64, .inl (fun _ => 0))) := by rw [e374, hm_up_n ((hm_ne0 g109 z108).symm)]; exact g394
  have g396 : f338 q127 = some (.inl (k 0, 64, .inl (fun _ => 0))) := by rw [e339, hm_up_n (hm_ne0 g359 z340)]; exact g359
  have g397 : f373 q127 = some (.inl (k 0, 64, .inl (fun _ => 0))) := by rw [e374, hm_up_n ((hm_ne0 g131 z130).symm)]; exact g396
  have g398 : f338 q151 = some (.inl (k 0, 16, .inl (fun _ => 0))) := by rw [e339, hm_up_n (hm_ne0 g361 z340)]; exact g361
  have g399 : f373 q151 = some (.inl (k 0, 16, .inl (fun _ => 0))) := by rw [e374, hm_up_n ((hm_ne0 g155 z154).symm)]; exact g398
  have g400 : f338 q177 = some (.inl (k 0, 16, .inl (fun _ => 0))) := by rw [e339, hm_up_n (hm_ne0 g363 z340)]; exact g363
  have g401 : f373 q177 = some (.inl (k 0, 16, .inl (fun _ => 0))) := by rw [e374, hm_up_n ((hm_ne0 g181 z180).symm)]; exact g400
  have g402 : f338 q205 = some (.inl (k 0, 520, .inl (fun _ => 0))) := by rw [e339, hm_up_n (hm_ne0 g365 z340)]; exact g365
  have g403 : f373 q205 = some (.inl (k 0, 520, .inl (fun _ => 0))) := by rw [e374, hm_up_n ((hm_ne0 g209 z208).symm)]; exact g402
  have g404 : f338 q235 = some (.inl (k 0, 520, .inl (fun _ => 0))) := by rw [e339, hm_up_n (hm_ne0 g367 z340)]; exact g367
  have g405 : f373 q235 = some (.inl (k 0, 520, .inl (fun _ => 0))) := by rw [e374, hm_up_n ((hm_ne0 g239 z238).symm)]; exact g404
  have g406 : f338 q267 = some (.inl (k 1, 520, .inl (fun _ => 0))) := by rw [e339, hm_up_n (hm_ne0 g369 z340)]; exact g369
  have g407 : f373 q267 = some (.inl (k 1, 520, .inl (fun _ => 0))) := by rw [e374, hm_up_n ((hm_ne0 g271 z270).symm)]; exact g406
  have g408 : f338 q301 = some (.inl (k 0, 120, .inl (fun _ => 0))) := by rw [e339, hm_up_n (hm_ne0 g370 z340)]; exact g370
  have g409 : f373 q301 = some (.inl (k 0, 120, .inl (fun _ => 0))) := by rw [e374, hm_up_n ((hm_ne0 g305 z304).symm)]; exact g408
  have g410 : f373 q337 = some (.inl (k 0, 120, .inl (fun _ => 0))) := by rw [e374, hm_up_n ((hm_ne0 g341 z340).symm)]; exact g371
  refine hm_newa (atype := .int) (ty := .int) X hK hM hS hA rfl wa_0 0 rfl (N' := 130) (a0 := (130, .inl (fun _ => 0))) (fun _ => rfl) (by decide) (by decide) (by decide) (by decide) (by decide) d_GrantServerModel_init_141 (fun q375 f376 H e377 z378 hM hS => ?_)
  have hnd := hm_nd_new hnd hpr z378; have hpr := hm_pr_new hpr e377
  have g411 : f376 q375 = some (.inl (k 0, 130, .inl (fun _ => 0))) := hm_new1 e377
  have g412 : f376 h = some (.inr (8, [.long 0, .int 0, .int 0, .int 0, .int 0, .ref q1, .ref q9, .ref q19, .int 0, .int (-1), .ref q34, .ref q51, .ref q67, .ref q85, .ref q105, .ref q127, .ref q151, .ref q177, .int 0, .ref q205, .ref q235, .ref q267, .int 0, .ref q301, .int 0, .ref q337, .int 0, .null, .int 0, .int 0, .null])) := by rw [e377, hm_up_n (hm_ne0 g379 z378)]; exact g379
  refine hm_putF X hK hM hS (fs' := [.long 0, .int 0, .int 0, .int 0, .int 0, .ref q1, .ref q9, .ref q19, .int 0, .int (-1), .ref q34, .ref q51, .ref q67, .ref q85, .ref q105, .ref q127, .ref q151, .ref q177, .int 0, .ref q205, .ref q235, .ref q267, .int 0, .ref q301, .int 0, .ref q337, .int 0, .ref q375, .int 0, .int 0, .null]) g412 fF_GrantServerModel_63 hin rfl rfl (Nat.le_of_ble_eq_true rfl) rfl d_GrantServerModel_init_143 (fun f413 H locs e414 hM hS => ?_)
  have hpr := hm_pr_up hpr e414
  refine lv_aload_n hx hb d_GrantServerModel_init_146 rfl (lv_at hl 0 rfl) ?_
  refine lv_iconst (v := 5) hx hb d_GrantServerModel_init_147 (by decide) ?_
  have g419 : f413 h = some (.inr (8, [.long 0, .int 0, .int 0, .int 0, .int 0, .ref q1, .ref q9, .ref q19, .int 0, .int (-1), .ref q34, .ref q51, .ref q67, .ref q85, .ref q105, .ref q127, .ref q151, .ref q177, .int 0, .ref q205, .ref q235, .ref q267, .int 0, .ref q301, .int 0, .ref q337, .int 0, .ref q375, .int 0, .int 0, .null])) := by rw [e414, hm_up_s]
  have g420 : f376 q1 = some (.inl (k 0, 4, .inl (fun _ => 0))) := by rw [e377, hm_up_n (hm_ne0 g381 z378)]; exact g381
  have g421 : f413 q1 = some (.inl (k 0, 4, .inl (fun _ => 0))) := by rw [e414, hm_up_n ((hm_ne0 hh z4).symm)]; exact g420
  have g422 : f376 q9 = some (.inl (k 0, 4, .inl (fun _ => 0))) := by rw [e377, hm_up_n (hm_ne0 g383 z378)]; exact g383
  have g423 : f413 q9 = some (.inl (k 0, 4, .inl (fun _ => 0))) := by rw [e414, hm_up_n ((hm_ne0 g13 z12).symm)]; exact g422
  have g424 : f376 q19 = some (.inl (k 0, 4, .inl (fun _ => 0))) := by rw [e377, hm_up_n (hm_ne0 g385 z378)]; exact g385
  have g425 : f413 q19 = some (.inl (k 0, 4, .inl (fun _ => 0))) := by rw [e414, hm_up_n ((hm_ne0 g23 z22).symm)]; exact g424
  have g426 : f376 q34 = some (.inl (k 0, 64, .inl (fun _ => 0))) := by rw [e377, hm_up_n (hm_ne0 g387 z378)]; exact g387
  have g427 : f413 q34 = some (.inl (k 0, 64, .inl (fun _ => 0))) := by rw [e414, hm_up_n ((hm_ne0 g38 z37).symm)]; exact g426
  have g428 : f376 q51 = some (.inl (k 0, 64, .inl (fun _ => 0))) := by rw [e377, hm_up_n (hm_ne0 g389 z378)]; exact g389
  have g429 : f413 q51 = some (.inl (k 0, 64, .inl (fun _ => 0))) := by rw [e414, hm_up_n ((hm_ne0 g55 z54).symm)]; exact g428
  have g430 : f376 q67 = some (.inl (k 0, 64, .inl (fun _ => 0))) := by rw [e377, hm_up_n (hm_ne0 g391 z378)]; exact g391
  have g431 : f413 q67 = some (.inl (k 0, 64, .inl (fun _ => 0))) := by rw [e414, hm_up_n ((hm_ne0 g71 z70).symm)]; exact g430
  have g432 : f376 q85 = some (.inl (k 0, 64, .inl (fun _ => 0))) := by rw [e377, hm_up_n (hm_ne0 g393 z378)]; exact g393
  have g433 : f413 q85 = some (.inl (k 0, 64, .inl (fun _ => 0))) := by rw [e414, hm_up_n ((hm_ne0 g89 z88).symm)]; exact g432
  have g434 : f376 q105 = some (.inl (k 1, 64, .inl (fun _ => 0))) := by rw [e377, hm_up_n (hm_ne0 g395 z378)]; exact g395
  have g435 : f413 q105 = some (.inl (k 1, 64, .inl (fun _ => 0))) := by rw [e414, hm_up_n ((hm_ne0 g109 z108).symm)]; exact g434
  have g436 : f376 q127 = some (.inl (k 0, 64, .inl (fun _ => 0))) := by rw [e377, hm_up_n (hm_ne0 g397 z378)]; exact g397
  have g437 : f413 q127 = some (.inl (k 0, 64, .inl (fun _ => 0))) := by rw [e414, hm_up_n ((hm_ne0 g131 z130).symm)]; exact g436
  have g438 : f376 q151 = some (.inl (k 0, 16, .inl (fun _ => 0))) := by rw [e377, hm_up_n (hm_ne0 g399 z378)]; exact g399
  have g439 : f413 q151 = some (.inl (k 0, 16, .inl (fun _ => 0))) := by rw [e414, hm_up_n ((hm_ne0 g155 z154).symm)]; exact g438
  have g440 : f376 q177 = some (.inl (k 0, 16, .inl (fun _ => 0))) := by rw [e377, hm_up_n (hm_ne0 g401 z378)]; exact g401
  have g441 : f413 q177 = some (.inl (k 0, 16, .inl (fun _ => 0))) := by rw [e414, hm_up_n ((hm_ne0 g181 z180).symm)]; exact g440
  have g442 : f376 q205 = some (.inl (k 0, 520, .inl (fun _ => 0))) := by rw [e377, hm_up_n (hm_ne0 g403 z378)]; exact g403
  have g443 : f413 q205 = some (.inl (k 0, 520, .inl (fun _ => 0))) := by rw [e414, hm_up_n ((hm_ne0 g209 z208).symm)]; exact g442
  have g444 : f376 q235 = some (.inl (k 0, 520, .inl (fun _ => 0))) := by rw [e377, hm_up_n (hm_ne0 g405 z378)]; exact g405
  have g445 : f413 q235 = some (.inl (k 0, 520, .inl (fun _ => 0))) := by rw [e414, hm_up_n ((hm_ne0 g239 z238).symm)]; exact g444
  have g446 : f376 q267 = some (.inl (k 1, 520, .inl (fun _ => 0))) := by rw [e377, hm_up_n (hm_ne0 g407 z378)]; exact g407
  have g447 : f413 q267 = some (.inl (k 1, 520, .inl (fun _ => 0))) := by rw [e414, hm_up_n ((hm_ne0 g271 z270).symm)]; exact g446
  have g448 : f376 q301 = some (.inl (k 0, 120, .inl (fun _ => 0))) := by rw [e377, hm_up_n (hm_ne0 g409 z378)]; exact g409
  have g449 : f413 q301 = some (.inl (k 0, 120, .inl (fun _ => 0))) := by rw [e414, hm_up_n ((hm_ne0 g305 z304).symm)]; exact g448
  have g450 : f376 q337 = some (.inl (k 0, 120, .inl (fun _ => 0))) := by rw [e377, hm_up_n (hm_ne0 g410 z378)]; exact g410
  have g451 : f413 q337 = some (.inl (k 0, 120, .inl (fun _ => 0))) := by rw [e414, hm_up_n ((hm_ne0 g341 z340).symm)]; exact g450
  have g452 : f413 q375 = some (.inl (k 0, 130, .inl (fun _ => 0))) := by rw [e414, hm_up_n ((hm_ne0 g379 z378).symm)]; exact g411
  refine hm_newa (atype := .int) (ty := .int) X hK hM hS hA rfl wa_0 0 rfl (N' := 5) (a0 := (5, .inl (fun _ => 0))) (fun _ => rfl) (by decide) (by decide) (by decide) (by decide) (by decide) d_GrantServerModel_init_148 (fun q415 f416 H e417 z418 hM hS => ?_)
  have hnd := hm_nd_new hnd hpr z418; have hpr := hm_pr_new hpr e417
  have g453 : f416 q415 = some (.inl (k 0, 5, .inl (fun _ => 0))) := hm_new1 e417
  have g454 : f416 h = some (.inr (8, [.long 0, .int 0, .int 0, .int 0, .int 0, .ref q1, .ref q9, .ref q19, .int 0, .int (-1), .ref q34, .ref q51, .ref q67, .ref q85, .ref q105, .ref q127, .ref q151, .ref q177, .int 0, .ref q205, .ref q235, .ref q267, .int 0, .ref q301, .int 0, .ref q337, .int 0, .ref q375, .int 0, .int 0, .null])) := by rw [e417, hm_up_n (hm_ne0 g419 z418)]; exact g419
  refine hm_putF X hK hM hS (fs' := [.long 0, .int 0, .int 0, .int 0, .int 0, .ref q1, .ref q9, .ref q19, .int 0, .int (-1), .ref q34, .ref q51, .ref q67, .ref q85, .ref q105, .ref q127, .ref q151, .ref q177, .int 0, .ref q205, .ref q235, .ref q267, .int 0, .ref q301, .int 0, .ref q337, .int 0, .ref q375, .int 0, .int 0, .ref q415]) g454 fF_GrantServerModel_66 hin rfl rfl (Nat.le_of_ble_eq_true rfl) rfl d_GrantServerModel_init_150 (fun f455 H locs e456 hM hS => ?_)
  have hpr := hm_pr_up hpr e456
  refine lv_aload_n hx hb d_GrantServerModel_init_153 rfl (lv_at hl 0 rfl) ?_
  refine lv_iload_n hx hb d_GrantServerModel_init_154 rfl (lv_at hl 1 rfl) ?_
  refine lv_i2l hx hb d_GrantServerModel_init_155 rfl ?_
  have g457 : f455 h = some (.inr (8, [.long 0, .int 0, .int 0, .int 0, .int 0, .ref q1, .ref q9, .ref q19, .int 0, .int (-1), .ref q34, .ref q51, .ref q67, .ref q85, .ref q105, .ref q127, .ref q151, .ref q177, .int 0, .ref q205, .ref q235, .ref q267, .int 0, .ref q301, .int 0, .ref q337, .int 0, .ref q375, .int 0, .int 0, .ref q415])) := by rw [e456, hm_up_s]
  refine hm_putF X hK hM hS (fs' := [.long a.toInt64, .int 0, .int 0, .int 0, .int 0, .ref q1, .ref q9, .ref q19, .int 0, .int (-1), .ref q34, .ref q51, .ref q67, .ref q85, .ref q105, .ref q127, .ref q151, .ref q177, .int 0, .ref q205, .ref q235, .ref q267, .int 0, .ref q301, .int 0, .ref q337, .int 0, .ref q375, .int 0, .int 0, .ref q415]) g457 fF_GrantServerModel_69 hin rfl rfl (Nat.le_of_ble_eq_true rfl) rfl d_GrantServerModel_init_156 (fun f458 H locs e459 hM hS => ?_)
  have hpr := hm_pr_up hpr e459
  refine lv_aload_n hx hb d_GrantServerModel_init_159 rfl (lv_at hl 0 rfl) ?_
  refine lv_iload_n hx hb d_GrantServerModel_init_160 rfl (lv_at hl 2 rfl) ?_
  refine hm_calli hS hM hA (va_runS (As := [.int b]) (rest := [.ref h]) X (m_c_within l D k f458 b  H.size) (hm_cwS hts me_GrantServerModel_within wl_GrantServerModel_73 rfl rfl ⟨Nat.le_of_ble_eq_true rfl, Nat.le_of_ble_eq_true rfl⟩) (hm_preS hM hK) rfl rfl hl.1 rfl (lv_room (Nat.le_of_ble_eq_true rfl)) d_GrantServerModel_init_161 ⟨Nat.le_of_ble_eq_true rfl, Nat.le_of_ble_eq_true rfl⟩) (fun r462 f460 H locs p461 hM hS => ?_)
  obtain ⟨rfl, rfl⟩ := p461
  have g463 : f458 h = some (.inr (8, [.long a.toInt64, .int 0, .int 0, .int 0, .int 0, .ref q1, .ref q9, .ref q19, .int 0, .int (-1), .ref q34, .ref q51, .ref q67, .ref q85, .ref q105, .ref q127, .ref q151, .ref q177, .int 0, .ref q205, .ref q235, .ref q267, .int 0, .ref q301, .int 0, .ref q337, .int 0, .ref q375, .int 0, .int 0, .ref q415])) := by rw [e459, hm_up_s]
  refine hm_putF X hK hM hS (fs' := [.long a.toInt64, .int (m_kept b), .int 0, .int 0, .int 0, .ref q1, .ref q9, .ref q19, .int 0, .int (-1), .ref q34, .ref q51, .ref q67, .ref q85, .ref q105, .ref q127, .ref q151, .ref q177, .int 0, .ref q205, .ref q235, .ref q267, .int 0, .ref q301, .int 0, .ref q337, .int 0, .ref q375, .int 0, .int 0, .ref q415]) g463 fF_GrantServerModel_77 hin rfl rfl (Nat.le_of_ble_eq_true rfl) rfl d_GrantServerModel_init_164 (fun f464 H locs e465 hM hS => ?_)
  have hpr := hm_pr_up hpr e465
  refine lv_aload_n hx hb d_GrantServerModel_init_167 rfl (lv_at hl 0 rfl) ?_
  refine lv_iload_n hx hb d_GrantServerModel_init_168 rfl (lv_at hl 3 rfl) ?_
  refine hm_calli hS hM hA (va_runS (As := [.int d]) (rest := [.ref h]) X (m_c_within l D k f464 d  H.size) (hm_cwS hts me_GrantServerModel_within wl_GrantServerModel_73 rfl rfl ⟨Nat.le_of_ble_eq_true rfl, Nat.le_of_ble_eq_true rfl⟩) (hm_preS hM hK) rfl rfl hl.1 rfl (lv_room (Nat.le_of_ble_eq_true rfl)) d_GrantServerModel_init_169 ⟨Nat.le_of_ble_eq_true rfl, Nat.le_of_ble_eq_true rfl⟩) (fun r468 f466 H locs p467 hM hS => ?_)
  obtain ⟨rfl, rfl⟩ := p467
  have g469 : f464 h = some (.inr (8, [.long a.toInt64, .int (m_kept b), .int 0, .int 0, .int 0, .ref q1, .ref q9, .ref q19, .int 0, .int (-1), .ref q34, .ref q51, .ref q67, .ref q85, .ref q105, .ref q127, .ref q151, .ref q177, .int 0, .ref q205, .ref q235, .ref q267, .int 0, .ref q301, .int 0, .ref q337, .int 0, .ref q375, .int 0, .int 0, .ref q415])) := by rw [e465, hm_up_s]
  refine hm_putF X hK hM hS (fs' := [.long a.toInt64, .int (m_kept b), .int (m_kept d), .int 0, .int 0, .ref q1, .ref q9, .ref q19, .int 0, .int (-1), .ref q34, .ref q51, .ref q67, .ref q85, .ref q105, .ref q127, .ref q151, .ref q177, .int 0, .ref q205, .ref q235, .ref q267, .int 0, .ref q301, .int 0, .ref q337, .int 0, .ref q375, .int 0, .int 0, .ref q415]) g469 fF_GrantServerModel_80 hin rfl rfl (Nat.le_of_ble_eq_true rfl) rfl d_GrantServerModel_init_172 (fun f470 H locs e471 hM hS => ?_)
  have hpr := hm_pr_up hpr e471
  refine lv_aload_n hx hb d_GrantServerModel_init_175 rfl (lv_at hl 0 rfl) ?_
  refine lv_iload hx hb d_GrantServerModel_init_176 (lv_at hl 4 rfl) ?_
  refine hm_calli hS hM hA (va_runS (As := [.int g]) (rest := [.ref h]) X (m_c_within l D k f470 g  H.size) (hm_cwS hts me_GrantServerModel_within wl_GrantServerModel_73 rfl rfl ⟨Nat.le_of_ble_eq_true rfl, Nat.le_of_ble_eq_true rfl⟩) (hm_preS hM hK) rfl rfl hl.1 rfl (lv_room (Nat.le_of_ble_eq_true rfl)) d_GrantServerModel_init_178 ⟨Nat.le_of_ble_eq_true rfl, Nat.le_of_ble_eq_true rfl⟩) (fun r474 f472 H locs p473 hM hS => ?_)
  obtain ⟨rfl, rfl⟩ := p473
  have g475 : f470 h = some (.inr (8, [.long a.toInt64, .int (m_kept b), .int (m_kept d), .int 0, .int 0, .ref q1, .ref q9, .ref q19, .int 0, .int (-1), .ref q34, .ref q51, .ref q67, .ref q85, .ref q105, .ref q127, .ref q151, .ref q177, .int 0, .ref q205, .ref q235, .ref q267, .int 0, .ref q301, .int 0, .ref q337, .int 0, .ref q375, .int 0, .int 0, .ref q415])) := by rw [e471, hm_up_s]
  refine hm_putF X hK hM hS (fs' := [.long a.toInt64, .int (m_kept b), .int (m_kept d), .int (m_kept g), .int 0, .ref q1, .ref q9, .ref q19, .int 0, .int (-1), .ref q34, .ref q51, .ref q67, .ref q85, .ref q105, .ref q127, .ref q151, .ref q177, .int 0, .ref q205, .ref q235, .ref q267, .int 0, .ref q301, .int 0, .ref q337, .int 0, .ref q375, .int 0, .int 0, .ref q415]) g475 fF_GrantServerModel_83 hin rfl rfl (Nat.le_of_ble_eq_true rfl) rfl d_GrantServerModel_init_181 (fun f476 H locs e477 hM hS => ?_)
  have hpr := hm_pr_up hpr e477
  have g478 : f476 h = some (.inr (8, [.long a.toInt64, .int (m_kept b), .int (m_kept d), .int (m_kept g), .int 0, .ref q1, .ref q9, .ref q19, .int 0, .int (-1), .ref q34, .ref q51, .ref q67, .ref q85, .ref q105, .ref q127, .ref q151, .ref q177, .int 0, .ref q205, .ref q235, .ref q267, .int 0, .ref q301, .int 0, .ref q337, .int 0, .ref q375, .int 0, .int 0, .ref q415])) := by rw [e477, hm_up_s]
  have g479 : f416 q1 = some (.inl (k 0, 4, .inl (fun _ => 0))) := by rw [e417, hm_up_n (hm_ne0 g421 z418)]; exact g421
  have g480 : f455 q1 = some (.inl (k 0, 4, .inl (fun _ => 0))) := by rw [e456, hm_up_n ((hm_ne0 hh z4).symm)]; exact g479
  have g481 : f458 q1 = some (.inl (k 0, 4, .inl (fun _ => 0))) := by rw [e459, hm_up_n ((hm_ne0 hh z4).symm)]; exact g480
  have g482 : f464 q1 = some (.inl (k 0, 4, .inl (fun _ => 0))) := by rw [e465, hm_up_n ((hm_ne0 hh z4).symm)]; exact g481
  have g483 : f470 q1 = some (.inl (k 0, 4, .inl (fun _ => 0))) := by rw [e471, hm_up_n ((hm_ne0 hh z4).symm)]; exact g482
  have g484 : f476 q1 = some (.inl (k 0, 4, .inl (fun _ => 0))) := by rw [e477, hm_up_n ((hm_ne0 hh z4).symm)]; exact g483
  have g485 : f416 q9 = some (.inl (k 0, 4, .inl (fun _ => 0))) := by rw [e417, hm_up_n (hm_ne0 g423 z418)]; exact g423
  have g486 : f455 q9 = some (.inl (k 0, 4, .inl (fun _ => 0))) := by rw [e456, hm_up_n ((hm_ne0 g13 z12).symm)]; exact g485
  have g487 : f458 q9 = some (.inl (k 0, 4, .inl (fun _ => 0))) := by rw [e459, hm_up_n ((hm_ne0 g13 z12).symm)]; exact g486
  have g488 : f464 q9 = some (.inl (k 0, 4, .inl (fun _ => 0))) := by rw [e465, hm_up_n ((hm_ne0 g13 z12).symm)]; exact g487
  have g489 : f470 q9 = some (.inl (k 0, 4, .inl (fun _ => 0))) := by rw [e471, hm_up_n ((hm_ne0 g13 z12).symm)]; exact g488
  have g490 : f476 q9 = some (.inl (k 0, 4, .inl (fun _ => 0))) := by rw [e477, hm_up_n ((hm_ne0 g13 z12).symm)]; exact g489
  have g491 : f416 q19 = some (.inl (k 0, 4, .inl (fun _ => 0))) := by rw [e417, hm_up_n (hm_ne0 g425 z418)]; exact g425
  have g492 : f455 q19 = some (.inl (k 0, 4, .inl (fun _ => 0))) := by rw [e456, hm_up_n ((hm_ne0 g23 z22).symm)]; exact g491
  have g493 : f458 q19 = some (.inl (k 0, 4, .inl (fun _ => 0))) := by rw [e459, hm_up_n ((hm_ne0 g23 z22).symm)]; exact g492
  have g494 : f464 q19 = some (.inl (k 0, 4, .inl (fun _ => 0))) := by rw [e465, hm_up_n ((hm_ne0 g23 z22).symm)]; exact g493
  have g495 : f470 q19 = some (.inl (k 0, 4, .inl (fun _ => 0))) := by rw [e471, hm_up_n ((hm_ne0 g23 z22).symm)]; exact g494
  have g496 : f476 q19 = some (.inl (k 0, 4, .inl (fun _ => 0))) := by rw [e477, hm_up_n ((hm_ne0 g23 z22).symm)]; exact g495
  have g497 : f416 q34 = some (.inl (k 0, 64, .inl (fun _ => 0))) := by rw [e417, hm_up_n (hm_ne0 g427 z418)]; exact g427
  have g498 : f455 q34 = some (.inl (k 0, 64, .inl (fun _ => 0))) := by rw [e456, hm_up_n ((hm_ne0 g38 z37).symm)]; exact g497
  have g499 : f458 q34 = some (.inl (k 0, 64, .inl (fun _ => 0))) := by rw [e459, hm_up_n ((hm_ne0 g38 z37).symm)]; exact g498
  have g500 : f464 q34 = some (.inl (k 0, 64, .inl (fun _ => 0))) := by rw [e465, hm_up_n ((hm_ne0 g38 z37).symm)]; exact g499
  have g501 : f470 q34 = some (.inl (k 0, 64, .inl (fun _ => 0))) := by rw [e471, hm_up_n ((hm_ne0 g38 z37).symm)]; exact g500
  have g502 : f476 q34 = some (.inl (k 0, 64, .inl (fun _ => 0))) := by rw [e477, hm_up_n ((hm_ne0 g38 z37).symm)]; exact g501
  have g503 : f416 q51 = some (.inl (k 0, 64, .inl (fun _ => 0))) := by rw [e417, hm_up_n (hm_ne0 g429 z418)]; exact g429
  have g504 : f455 q51 = some (.inl (k 0, 64, .inl (fun _ => 0))) := by rw [e456, hm_up_n ((hm_ne0 g55 z54).symm)]; exact g503
  have g505 : f458 q51 = some (.inl (k 0, 64, .inl (fun _ => 0))) := by rw [e459, hm_up_n ((hm_ne0 g55 z54).symm)]; exact g504
  have g506 : f464 q51 = some (.inl (k 0, 64, .inl (fun _ => 0))) := by rw [e465, hm_up_n ((hm_ne0 g55 z54).symm)]; exact g505
  have g507 : f470 q51 = some (.inl (k 0, 64, .inl (fun _ => 0))) := by rw [e471, hm_up_n ((hm_ne0 g55 z54).symm)]; exact g506
  have g508 : f476 q51 = some (.inl (k 0, 64, .inl (fun _ => 0))) := by rw [e477, hm_up_n ((hm_ne0 g55 z54).symm)]; exact g507
  have g509 : f416 q67 = some (.inl (k 0, 64, .inl (fun _ => 0))) := by rw [e417, hm_up_n (hm_ne0 g431 z418)]; exact g431
  have g510 : f455 q67 = some (.inl (k 0, 64, .inl (fun _ => 0))) := by rw [e456, hm_up_n ((hm_ne0 g71 z70).symm)]; exact g509
  have g511 : f458 q67 = some (.inl (k 0, 64, .inl (fun _ => 0))) := by rw [e459, hm_up_n ((hm_ne0 g71 z70).symm)]; exact g510
  have g512 : f464 q67 = some (.inl (k 0, 64, .inl (fun _ => 0))) := by rw [e465, hm_up_n ((hm_ne0 g71 z70).symm)]; exact g511
  have g513 : f470 q67 = some (.inl (k 0, 64, .inl (fun _ => 0))) := by rw [e471, hm_up_n ((hm_ne0 g71 z70).symm)]; exact g512
  have g514 : f476 q67 = some (.inl (k 0, 64, .inl (fun _ => 0))) := by rw [e477, hm_up_n ((hm_ne0 g71 z70).symm)]; exact g513
  have g515 : f416 q85 = some (.inl (k 0, 64, .inl (fun _ => 0))) := by rw [e417, hm_up_n (hm_ne0 g433 z418)]; exact g433
  have g516 : f455 q85 = some (.inl (k 0, 64, .inl (fun _ => 0))) := by rw [e456, hm_up_n ((hm_ne0 g89 z88).symm)]; exact g515
  have g517 : f458 q85 = some (.inl (k 0, 64, .inl (fun _ => 0))) := by rw [e459, hm_up_n ((hm_ne0 g89 z88).symm)]; exact g516
  have g518 : f464 q85 = some (.inl (k 0, 64, .inl (fun _ => 0))) := by rw [e465, hm_up_n ((hm_ne0 g89 z88).symm)]; exact g517
  have g519 : f470 q85 = some (.inl (k 0, 64, .inl (fun _ => 0))) := by rw [e471, hm_up_n ((hm_ne0 g89 z88).symm)]; exact g518
  have g520 : f476 q85 = some (.inl (k 0, 64, .inl (fun _ => 0))) := by rw [e477, hm_up_n ((hm_ne0 g89 z88).symm)]; exact g519
  have g521 : f416 q105 = some (.inl (k 1, 64, .inl (fun _ => 0))) := by rw [e417, hm_up_n (hm_ne0 g435 z418)]; exact g435
  have g522 : f455 q105 = some (.inl (k 1, 64, .inl (fun _ => 0))) := by rw [e456, hm_up_n ((hm_ne0 g109 z108).symm)]; exact g521
  have g523 : f458 q105 = some (.inl (k 1, 64, .inl (fun _ => 0))) := by rw [e459, hm_up_n ((hm_ne0 g109 z108).symm)]; exact g522
  have g524 : f464 q105 = some (.inl (k 1, 64, .inl (fun _ => 0))) := by rw [e465, hm_up_n ((hm_ne0 g109 z108).symm)]; exact g523
  have g525 : f470 q105 = some (.inl (k 1, 64, .inl (fun _ => 0))) := by rw [e471, hm_up_n ((hm_ne0 g109 z108).symm)]; exact g524
  have g526 : f476 q105 = some (.inl (k 1, 64, .inl (fun _ => 0))) := by rw [e477, hm_up_n ((hm_ne0 g109 z108).symm)]; exact g525
  have g527 : f416 q127 = some (.inl (k 0, 64, .inl (fun _ => 0))) := by rw [e417, hm_up_n (hm_ne0 g437 z418)]; exact g437
  have g528 : f455 q127 = some (.inl (k 0, 64, .inl (fun _ => 0))) := by rw [e456, hm_up_n ((hm_ne0 g131 z130).symm)]; exact g527
  have g529 : f458 q127 = some (.inl (k 0, 64, .inl (fun _ => 0))) := by rw [e459, hm_up_n ((hm_ne0 g131 z130).symm)]; exact g528
  have g530 : f464 q127 = some (.inl (k 0, 64, .inl (fun _ => 0))) := by rw [e465, hm_up_n ((hm_ne0 g131 z130).symm)]; exact g529
  have g531 : f470 q127 = some (.inl (k 0, 64, .inl (fun _ => 0))) := by rw [e471, hm_up_n ((hm_ne0 g131 z130).symm)]; exact g530
  have g532 : f476 q127 = some (.inl (k 0, 64, .inl (fun _ => 0))) := by rw [e477, hm_up_n ((hm_ne0 g131 z130).symm)]; exact g531
  have g533 : f416 q151 = some (.inl (k 0, 16, .inl (fun _ => 0))) := by rw [e417, hm_up_n (hm_ne0 g439 z418)]; exact g439
  have g534 : f455 q151 = some (.inl (k 0, 16, .inl (fun _ => 0))) := by rw [e456, hm_up_n ((hm_ne0 g155 z154).symm)]; exact g533
  have g535 : f458 q151 = some (.inl (k 0, 16, .inl (fun _ => 0))) := by rw [e459, hm_up_n ((hm_ne0 g155 z154).symm)]; exact g534
  have g536 : f464 q151 = some (.inl (k 0, 16, .inl (fun _ => 0))) := by rw [e465, hm_up_n ((hm_ne0 g155 z154).symm)]; exact g535
  have g537 : f470 q151 = some (.inl (k 0, 16, .inl (fun _ => 0))) := by rw [e471, hm_up_n ((hm_ne0 g155 z154).symm)]; exact g536
  have g538 : f476 q151 = some (.inl (k 0, 16, .inl (fun _ => 0))) := by rw [e477, hm_up_n ((hm_ne0 g155 z154).symm)]; exact g537
  have g539 : f416 q177 = some (.inl (k 0, 16, .inl (fun _ => 0))) := by rw [e417, hm_up_n (hm_ne0 g441 z418)]; exact g441
  have g540 : f455 q177 = some (.inl (k 0, 16, .inl (fun _ => 0))) := by rw [e456, hm_up_n ((hm_ne0 g181 z180).symm)]; exact g539
  have g541 : f458 q177 = some (.inl (k 0, 16, .inl (fun _ => 0))) := by rw [e459, hm_up_n ((hm_ne0 g181 z180).symm)]; exact g540
  have g542 : f464 q177 = some (.inl (k 0, 16, .inl (fun _ => 0))) := by rw [e465, hm_up_n ((hm_ne0 g181 z180).symm)]; exact g541
  have g543 : f470 q177 = some (.inl (k 0, 16, .inl (fun _ => 0))) := by rw [e471, hm_up_n ((hm_ne0 g181 z180).symm)]; exact g542
  have g544 : f476 q177 = some (.inl (k 0, 16, .inl (fun _ => 0))) := by rw [e477, hm_up_n ((hm_ne0 g181 z180).symm)]; exact g543
  have g545 : f416 q205 = some (.inl (k 0, 520, .inl (fun _ => 0))) := by rw [e417, hm_up_n (hm_ne0 g443 z418)]; exact g443
  have g546 : f455 q205 = some (.inl (k 0, 520, .inl (fun _ => 0))) := by rw [e456, hm_up_n ((hm_ne0 g209 z208).symm)]; exact g545
  have g547 : f458 q205 = some (.inl (k 0, 520, .inl (fun _ => 0))) := by rw [e459, hm_up_n ((hm_ne0 g209 z208).symm)]; exact g546
  have g548 : f464 q205 = some (.inl (k 0, 520, .inl (fun _ => 0))) := by rw [e465, hm_up_n ((hm_ne0 g209 z208).symm)]; exact g547
  have g549 : f470 q205 = some (.inl (k 0, 520, .inl (fun _ => 0))) := by rw [e471, hm_up_n ((hm_ne0 g209 z208).symm)]; exact g548
  have g550 : f476 q205 = some (.inl (k 0, 520, .inl (fun _ => 0))) := by rw [e477, hm_up_n ((hm_ne0 g209 z208).symm)]; exact g549
  have g551 : f416 q235 = some (.inl (k 0, 520, .inl (fun _ => 0))) := by rw [e417, hm_up_n (hm_ne0 g445 z418)]; exact g445
  have g552 : f455 q235 = some (.inl (k 0, 520, .inl (fun _ => 0))) := by rw [e456, hm_up_n ((hm_ne0 g239 z238).symm)]; exact g551
  have g553 : f458 q235 = some (.inl (k 0, 520, .inl (fun _ => 0))) := by rw [e459, hm_up_n ((hm_ne0 g239 z238).symm)]; exact g552
  have g554 : f464 q235 = some (.inl (k 0, 520, .inl (fun _ => 0))) := by rw [e465, hm_up_n ((hm_ne0 g239 z238).symm)]; exact g553
  have g555 : f470 q235 = some (.inl (k 0, 520, .inl (fun _ => 0))) := by rw [e471, hm_up_n ((hm_ne0 g239 z238).symm)]; exact g554
  have g556 : f476 q235 = some (.inl (k 0, 520, .inl (fun _ => 0))) := by rw [e477, hm_up_n ((hm_ne0 g239 z238).symm)]; exact g555
  have g557 : f416 q267 = some (.inl (k 1, 520, .inl (fun _ => 0))) := by rw [e417, hm_up_n (hm_ne0 g447 z418)]; exact g447
  have g558 : f455 q267 = some (.inl (k 1, 520, .inl (fun _ => 0))) := by rw [e456, hm_up_n ((hm_ne0 g271 z270).symm)]; exact g557
  have g559 : f458 q267 = some (.inl (k 1, 520, .inl (fun _ => 0))) := by rw [e459, hm_up_n ((hm_ne0 g271 z270).symm)]; exact g558
  have g560 : f464 q267 = some (.inl (k 1, 520, .inl (fun _ => 0))) := by rw [e465, hm_up_n ((hm_ne0 g271 z270).symm)]; exact g559
  have g561 : f470 q267 = some (.inl (k 1, 520, .inl (fun _ => 0))) := by rw [e471, hm_up_n ((hm_ne0 g271 z270).symm)]; exact g560
  have g562 : f476 q267 = some (.inl (k 1, 520, .inl (fun _ => 0))) := by rw [e477, hm_up_n ((hm_ne0 g271 z270).symm)]; exact g561
  have g563 : f416 q301 = some (.inl (k 0, 120, .inl (fun _ => 0))) := by rw [e417, hm_up_n (hm_ne0 g449 z418)]; exact g449
  have g564 : f455 q301 = some (.inl (k 0, 120, .inl (fun _ => 0))) := by rw [e456, hm_up_n ((hm_ne0 g305 z304).symm)]; exact g563
  have g565 : f458 q301 = some (.inl (k 0, 120, .inl (fun _ => 0))) := by rw [e459, hm_up_n ((hm_ne0 g305 z304).symm)]; exact g564
  have g566 : f464 q301 = some (.inl (k 0, 120, .inl (fun _ => 0))) := by rw [e465, hm_up_n ((hm_ne0 g305 z304).symm)]; exact g565
  have g567 : f470 q301 = some (.inl (k 0, 120, .inl (fun _ => 0))) := by rw [e471, hm_up_n ((hm_ne0 g305 z304).symm)]; exact g566
  have g568 : f476 q301 = some (.inl (k 0, 120, .inl (fun _ => 0))) := by rw [e477, hm_up_n ((hm_ne0 g305 z304).symm)]; exact g567
  have g569 : f416 q337 = some (.inl (k 0, 120, .inl (fun _ => 0))) := by rw [e417, hm_up_n (hm_ne0 g451 z418)]; exact g451
  have g570 : f455 q337 = some (.inl (k 0, 120, .inl (fun _ => 0))) := by rw [e456, hm_up_n ((hm_ne0 g341 z340).symm)]; exact g569
  have g571 : f458 q337 = some (.inl (k 0, 120, .inl (fun _ => 0))) := by rw [e459, hm_up_n ((hm_ne0 g341 z340).symm)]; exact g570
  have g572 : f464 q337 = some (.inl (k 0, 120, .inl (fun _ => 0))) := by rw [e465, hm_up_n ((hm_ne0 g341 z340).symm)]; exact g571
  have g573 : f470 q337 = some (.inl (k 0, 120, .inl (fun _ => 0))) := by rw [e471, hm_up_n ((hm_ne0 g341 z340).symm)]; exact g572
  have g574 : f476 q337 = some (.inl (k 0, 120, .inl (fun _ => 0))) := by rw [e477, hm_up_n ((hm_ne0 g341 z340).symm)]; exact g573
  have g575 : f416 q375 = some (.inl (k 0, 130, .inl (fun _ => 0))) := by rw [e417, hm_up_n (hm_ne0 g452 z418)]; exact g452
  have g576 : f455 q375 = some (.inl (k 0, 130, .inl (fun _ => 0))) := by rw [e456, hm_up_n ((hm_ne0 g379 z378).symm)]; exact g575
  have g577 : f458 q375 = some (.inl (k 0, 130, .inl (fun _ => 0))) := by rw [e459, hm_up_n ((hm_ne0 g379 z378).symm)]; exact g576
  have g578 : f464 q375 = some (.inl (k 0, 130, .inl (fun _ => 0))) := by rw [e465, hm_up_n ((hm_ne0 g379 z378).symm)]; exact g577
  have g579 : f470 q375 = some (.inl (k 0, 130, .inl (fun _ => 0))) := by rw [e471, hm_up_n ((hm_ne0 g379 z378).symm)]; exact g578
  have g580 : f476 q375 = some (.inl (k 0, 130, .inl (fun _ => 0))) := by rw [e477, hm_up_n ((hm_ne0 g379 z378).symm)]; exact g579
  have g581 : f455 q415 = some (.inl (k 0, 5, .inl (fun _ => 0))) := by rw [e456, hm_up_n ((hm_ne0 g419 z418).symm)]; exact g453
  have g582 : f458 q415 = some (.inl (k 0, 5, .inl (fun _ => 0))) := by rw [e459, hm_up_n ((hm_ne0 g419 z418).symm)]; exact g581
  have g583 : f464 q415 = some (.inl (k 0, 5, .inl (fun _ => 0))) := by rw [e465, hm_up_n ((hm_ne0 g419 z418).symm)]; exact g582
  have g584 : f470 q415 = some (.inl (k 0, 5, .inl (fun _ => 0))) := by rw [e471, hm_up_n ((hm_ne0 g419 z418).symm)]; exact g583
  have g585 : f476 q415 = some (.inl (k 0, 5, .inl (fun _ => 0))) := by rw [e477, hm_up_n ((hm_ne0 g419 z418).symm)]; exact g584
  have har : ∀ i, i < 31 → 0 < mo_n i → f476 (([q415, q375, q337, q301, q267, q235, q205, q177, q151, q127, q105, q85, q67, q51, q34, q19, q9, q1] : List Nat).getD (mo_p i) 0) = some (.inl (k (mo_t i), mo_n i, .inl (fun _ => 0))) := fun i hi hn => match i, hi, hn with | 0, _, h9 => absurd h9 (by decide) | 1, _, h9 => absurd h9 (by decide) | 2, _, h9 => absurd h9 (by decide) | 3, _, h9 => absurd h9 (by decide) | 4, _, h9 => absurd h9 (by decide) | 5, _, h9 => g484 | 6, _, h9 => g490 | 7, _, h9 => g496 | 8, _, h9 => absurd h9 (by decide) | 9, _, h9 => absurd h9 (by decide) | 10, _, h9 => g502 | 11, _, h9 => g508 | 12, _, h9 => g514 | 13, _, h9 => g520 | 14, _, h9 => g526 | 15, _, h9 => g532 | 16, _, h9 => g538 | 17, _, h9 => g544 | 18, _, h9 => absurd h9 (by decide) | 19, _, h9 => g550 | 20, _, h9 => g556 | 21, _, h9 => g562 | 22, _, h9 => absurd h9 (by decide) | 23, _, h9 => g568 | 24, _, h9 => absurd h9 (by decide) | 25, _, h9 => g574 | 26, _, h9 => absurd h9 (by decide) | 27, _, h9 => g580 | 28, _, h9 => absurd h9 (by decide) | 29, _, h9 => absurd h9 (by decide) | 30, _, h9 => g585 | n + 31, h9, _ => absurd h9 (by omega)
  have hno : ∀ i, i < 31 → 0 < mo_n i → f (([q415, q375, q337, q301, q267, q235, q205, q177, q151, q127, q105, q85, q67, q51, q34, q19, q9, q1] : List Nat).getD (mo_p i) 0) = none := fun i hi hn => match i, hi, hn with | 0, _, h9 => absurd h9 (by decide) | 1, _, h9 => absurd h9 (by decide) | 2, _, h9 => absurd h9 (by decide) | 3, _, h9 => absurd h9 (by decide) | 4, _, h9 => absurd h9 (by decide) | 5, _, h9 => z4 | 6, _, h9 => (hm_none e3 (hm_none e8 z12)) | 7, _, h9 => (hm_none e3 (hm_none e8 (hm_none e11 (hm_none e18 z22)))) | 8, _, h9 => absurd h9 (by decide) | 9, _, h9 => absurd h9 (by decide) | 10, _, h9 => (hm_none e3 (hm_none e8 (hm_none e11 (hm_none e18 (hm_none e21 (hm_none e30 (hm_none e33 z37))))))) | 11, _, h9 => (hm_none e3 (hm_none e8 (hm_none e11 (hm_none e18 (hm_none e21 (hm_none e30 (hm_none e33 (hm_none e36 (hm_none e50 z54))))))))) | 12, _, h9 => (hm_none e3 (hm_none e8 (hm_none e11 (hm_none e18 (hm_none e21 (hm_none e30 (hm_none e33 (hm_none e36 (hm_none e50 (hm_none e53 (hm_none e66 z70))))))))))) | 13, _, h9 => (hm_none e3 (hm_none e8 (hm_none e11 (hm_none e18 (hm_none e21 (hm_none e30 (hm_none e33 (hm_none e36 (hm_none e50 (hm_none e53 (hm_none e66 (hm_none e69 (hm_none e84 z88))))))))))))) | 14, _, h9 => (hm_none e3 (hm_none e8 (hm_none e11 (hm_none e18 (hm_none e21 (hm_none e30 (hm_none e33 (hm_none e36 (hm_none e50 (hm_none e53 (hm_none e66 (hm_none e69 (hm_none e84 (hm_none e87 (hm_none e104 z108))))))))))))))) | 15, _, h9 => (hm_none e3 (hm_none e8 (hm_none e11 (hm_none e18 (hm_none e21 (hm_none e30 (hm_none e33 (hm_none e36 (hm_none e50 (hm_none e53 (hm_none e66 (hm_none e69 (hm_none e84 (hm_none e87 (hm_none e104 (hm_none e107 (hm_none e126 z130))))))))))))))))) | 16, _, h9 => (hm_none e3 (hm_none e8 (hm_none e11 (hm_none e18 (hm_none e21 (hm_none e30 (hm_none e33 (hm_none e36 (hm_none e50 (hm_none e53 (hm_none e66 (hm_none e69 (hm_none e84 (hm_none e87 (hm_none e104 (hm_none e107 (hm_none e126 (hm_none e129 (hm_none e150 z154))))))))))))))))))) | 17, _, h9 => (hm_none e3 (hm_none e8 (hm_none e11 (hm_none e18 (hm_none e21 (hm_none e30 (hm_none e33 (hm_none e36 (hm_none e50 (hm_none e53 (hm_none e66 (hm_none e69 (hm_none e84 (hm_none e87 (hm_none e104 (hm_none e107 (hm_none e126 (hm_none e129 (hm_none e150 (hm_none e153 (hm_none e176 z180))))))))))))))))))))) | 18, _, h9 => absurd h9 (by decide) | 19, _, h9 => (hm_none e3 (hm_none e8 (hm_none e11 (hm_none e18 (hm_none e21 (hm_none e30 (hm_none e33 (hm_none e36 (hm_none e50 (hm_none e53 (hm_none e66 (hm_none e69 (hm_none e84 (hm_none e87 (hm_none e104 (hm_none e107 (hm_none e126 (hm_none e129 (hm_none e150 (hm_none e153 (hm_none e176 (hm_none e179 (hm_none e204 z208))))))))))))))))))))))) | 20, _, h9 => (hm_none e3 (hm_none e8 (hm_none e11 (hm_none e18 (hm_none e21 (hm_none e30 (hm_none e33 (hm_none e36 (hm_none e50 (hm_none e53 (hm_none e66 (hm_none e69 (hm_none e84 (hm_none e87 (hm_none e104 (hm_none e107 (hm_none e126 (hm_none e129 (hm_none e150 (hm_none e153 (hm_none e176 (hm_none e179 (hm_none e204 (hm_none e207 (hm_none e234 z238))))))))))))))))))))))))) | 21, _, h9 => (hm_none e3 (hm_none e8 (hm_none e11 (hm_none e18 (hm_none e21 (hm_none e30 (hm_none e33 (hm_none e36 (hm_none e50 (hm_none e53 (hm_none e66 (hm_none e69 (hm_none e84 (hm_none e87 (hm_none e104 (hm_none e107 (hm_none e126 (hm_none e129 (hm_none e150 (hm_none e153 (hm_none e176 (hm_none e179 (hm_none e204 (hm_none e207 (hm_none e234 (hm_none e237 (hm_none e266 z270))))))))))))))))))))))))))) | 22, _, h9 => absurd h9 (by decide) | 23, _, h9 => (hm_none e3 (hm_none e8 (hm_none e11 (hm_none e18 (hm_none e21 (hm_none e30 (hm_none e33 (hm_none e36 (hm_none e50 (hm_none e53 (hm_none e66 (hm_none e69 (hm_none e84 (hm_none e87 (hm_none e104 (hm_none e107 (hm_none e126 (hm_none e129 (hm_none e150 (hm_none e153 (hm_none e176 (hm_none e179 (hm_none e204 (hm_none e207 (hm_none e234 (hm_none e237 (hm_none e266 (hm_none e269 (hm_none e300 z304))))))))))))))))))))))))))))) | 24, _, h9 => absurd h9 (by decide) | 25, _, h9 => (hm_none e3 (hm_none e8 (hm_none e11 (hm_none e18 (hm_none e21 (hm_none e30 (hm_none e33 (hm_none e36 (hm_none e50 (hm_none e53 (hm_none e66 (hm_none e69 (hm_none e84 (hm_none e87 (hm_none e104 (hm_none e107 (hm_none e126 (hm_none e129 (hm_none e150 (hm_none e153 (hm_none e176 (hm_none e179 (hm_none e204 (hm_none e207 (hm_none e234 (hm_none e237 (hm_none e266 (hm_none e269 (hm_none e300 (hm_none e303 (hm_none e336 z340))))))))))))))))))))))))))))))) | 26, _, h9 => absurd h9 (by decide) | 27, _, h9 => (hm_none e3 (hm_none e8 (hm_none e11 (hm_none e18 (hm_none e21 (hm_none e30 (hm_none e33 (hm_none e36 (hm_none e50 (hm_none e53 (hm_none e66 (hm_none e69 (hm_none e84 (hm_none e87 (hm_none e104 (hm_none e107 (hm_none e126 (hm_none e129 (hm_none e150 (hm_none e153 (hm_none e176 (hm_none e179 (hm_none e204 (hm_none e207 (hm_none e234 (hm_none e237 (hm_none e266 (hm_none e269 (hm_none e300 (hm_none e303 (hm_none e336 (hm_none e339 (hm_none e374 z378))))))))))))))))))))))))))))))))) | 28, _, h9 => absurd h9 (by decide) | 29, _, h9 => absurd h9 (by decide) | 30, _, h9 => (hm_none e3 (hm_none e8 (hm_none e11 (hm_none e18 (hm_none e21 (hm_none e30 (hm_none e33 (hm_none e36 (hm_none e50 (hm_none e53 (hm_none e66 (hm_none e69 (hm_none e84 (hm_none e87 (hm_none e104 (hm_none e107 (hm_none e126 (hm_none e129 (hm_none e150 (hm_none e153 (hm_none e176 (hm_none e179 (hm_none e204 (hm_none e207 (hm_none e234 (hm_none e237 (hm_none e266 (hm_none e269 (hm_none e300 (hm_none e303 (hm_none e336 (hm_none e339 (hm_none e374 (hm_none e377 (hm_none e414 z418))))))))))))))))))))))))))))))))))) | n + 31, h9, _ => absurd h9 (by omega)
  exact hm_vret X hQ hr hlk hK hM hS d_GrantServerModel_init_184 ⟨fun i => ([q415, q375, q337, q301, q267, q235, q205, q177, q151, q127, q105, q85, q67, q51, q34, q19, q9, q1] : List Nat).getD (mo_p i) 0, ⟨g478, har, mo_inj hnd rfl⟩, hno, (fun zq zx n0 hq => by have t0 := hq; have u1 := hm_ne0 t0 z4; have t1 := hm_keep e3 u1 t0; have t2 := hm_keep e8 n0 t1; have u2 := hm_ne0 t2 z12; have t3 := hm_keep e11 u2 t2; have t4 := hm_keep e18 n0 t3; have u3 := hm_ne0 t4 z22; have t5 := hm_keep e21 u3 t4; have t6 := hm_keep e30 n0 t5; have t7 := hm_keep e33 n0 t6; have u4 := hm_ne0 t7 z37; have t8 := hm_keep e36 u4 t7; have t9 := hm_keep e50 n0 t8; have u5 := hm_ne0 t9 z54; have t10 := hm_keep e53 u5 t9; have t11 := hm_keep e66 n0 t10; have u6 := hm_ne0 t11 z70; have t12 := hm_keep e69 u6 t11; have t13 := hm_keep e84 n0 t12; have u7 := hm_ne0 t13 z88; have t14 := hm_keep e87 u7 t13; have t15 := hm_keep e104 n0 t14; have u8 := hm_ne0 t15 z108; have t16 := hm_keep e107 u8 t15; have t17 := hm_keep e126 n0 t16; have u9 := hm_ne0 t17 z130; have t18 := hm_keep e129 u9 t17; have t19 := hm_keep e150 n0 t18; have u10 := hm_ne0 t19 z154; have t20 := hm_keep e153 u10 t19; have t21 := hm_keep e176 n0 t20; have u11 := hm_ne0 t21 z180; have t22 := hm_keep e179 u11 t21; have t23 := hm_keep e204 n0 t22; have u12 := hm_ne0 t23 z208; have t24 := hm_keep e207 u12 t23; have t25 := hm_keep e234 n0 t24; have u13 := hm_ne0 t25 z238; have t26 := hm_keep e237 u13 t25; have t27 := hm_keep e266 n0 t26; have u14 := hm_ne0 t27 z270; have t28 := hm_keep e269 u14 t27; have t29 := hm_keep e300 n0 t28; have u15 := hm_ne0 t29 z304; have t30 := hm_keep e303 u15 t29; have t31 := hm_keep e336 n0 t30; have u16 := hm_ne0 t31 z340; have t32 := hm_keep e339 u16 t31; have t33 := hm_keep e374 n0 t32; have u17 := hm_ne0 t33 z378; have t34 := hm_keep e377 u17 t33; have t35 := hm_keep e414 n0 t34; have u18 := hm_ne0 t35 z418; have t36 := hm_keep e417 u18 t35; have t37 := hm_keep e456 n0 t36; have t38 := hm_keep e459 n0 t37; have t39 := hm_keep e465 n0 t38; have t40 := hm_keep e471 n0 t39; have t41 := hm_keep e477 n0 t40; exact t41)⟩
