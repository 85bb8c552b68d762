theorem d_GrantServer_revokeFamilyOf_0 : decode b_GrantServer_revokeFamilyOf 0 = .ok (.aload_n 0, 1) := by decide +kernel
theorem d_GrantServer_revokeFamilyOf_1 : decode b_GrantServer_revokeFamilyOf 1 = .ok (.ifnull 7, 3) := by decide +kernel
theorem d_GrantServer_revokeFamilyOf_4 : decode b_GrantServer_revokeFamilyOf 4 = .ok (.aload_n 0, 1) := by decide +kernel
theorem d_GrantServer_revokeFamilyOf_5 : decode b_GrantServer_revokeFamilyOf 5 = .ok (.invokevirtual 137, 3) := by decide +kernel
theorem d_GrantServer_revokeFamilyOf_8 : decode b_GrantServer_revokeFamilyOf 8 = .ok (.return_, 1) := by decide +kernel
theorem d_GrantServer_revokeAlone_0 : decode b_GrantServer_revokeAlone 0 = .ok (.aload_n 0, 1) := by decide +kernel
theorem d_GrantServer_revokeAlone_1 : decode b_GrantServer_revokeAlone 1 = .ok (.ifnull 8, 3) := by decide +kernel
theorem d_GrantServer_revokeAlone_4 : decode b_GrantServer_revokeAlone 4 = .ok (.aload_n 0, 1) := by decide +kernel
theorem d_GrantServer_revokeAlone_5 : decode b_GrantServer_revokeAlone 5 = .ok (.iconst 1, 1) := by decide +kernel
theorem d_GrantServer_revokeAlone_6 : decode b_GrantServer_revokeAlone 6 = .ok (.putfield 291, 3) := by decide +kernel
theorem d_GrantServer_revokeAlone_9 : decode b_GrantServer_revokeAlone 9 = .ok (.return_, 1) := by decide +kernel
theorem d_Grant_revokeFamily_0 : decode b_Grant_revokeFamily 0 = .ok (.aload_n 0, 1) := by decide +kernel
theorem d_Grant_revokeFamily_1 : decode b_Grant_revokeFamily 1 = .ok (.getfield 22, 3) := by decide +kernel
theorem d_Grant_revokeFamily_4 : decode b_Grant_revokeFamily 4 = .ok (.ifnull 11, 3) := by decide +kernel
theorem d_Grant_revokeFamily_7 : decode b_Grant_revokeFamily 7 = .ok (.aload_n 0, 1) := by decide +kernel
theorem d_Grant_revokeFamily_8 : decode b_Grant_revokeFamily 8 = .ok (.getfield 22, 3) := by decide +kernel
theorem d_Grant_revokeFamily_11 : decode b_Grant_revokeFamily 11 = .ok (.iconst 1, 1) := by decide +kernel
theorem d_Grant_revokeFamily_12 : decode b_Grant_revokeFamily 12 = .ok (.putfield 33, 3) := by decide +kernel
theorem d_Grant_revokeFamily_15 : decode b_Grant_revokeFamily 15 = .ok (.return_, 1) := by decide +kernel
theorem d_Shelf_nextRow_0 : decode b_Shelf_nextRow 0 = .ok (.aload_n 0, 1) := by decide +kernel
theorem d_Shelf_nextRow_1 : decode b_Shelf_nextRow 1 = .ok (.invokevirtual 20, 3) := by decide +kernel
theorem d_Shelf_nextRow_4 : decode b_Shelf_nextRow 4 = .ok (.ifCond .ne 13, 3) := by decide +kernel
theorem d_Shelf_nextRow_7 : decode b_Shelf_nextRow 7 = .ok (.aload_n 0, 1) := by decide +kernel
theorem d_Shelf_nextRow_8 : decode b_Shelf_nextRow 8 = .ok (.dup, 1) := by decide +kernel
theorem d_Shelf_nextRow_9 : decode b_Shelf_nextRow 9 = .ok (.getfield 7, 3) := by decide +kernel
theorem d_Shelf_nextRow_12 : decode b_Shelf_nextRow 12 = .ok (.iconst 1, 1) := by decide +kernel
theorem d_Shelf_nextRow_13 : decode b_Shelf_nextRow 13 = .ok (.iadd, 1) := by decide +kernel
theorem d_Shelf_nextRow_14 : decode b_Shelf_nextRow 14 = .ok (.putfield 7, 3) := by decide +kernel
theorem d_Shelf_nextRow_17 : decode b_Shelf_nextRow 17 = .ok (.aload_n 0, 1) := by decide +kernel
theorem d_Shelf_nextRow_18 : decode b_Shelf_nextRow 18 = .ok (.getfield 15, 3) := by decide +kernel
theorem d_Shelf_nextRow_21 : decode b_Shelf_nextRow 21 = .ok (.aload_n 0, 1) := by decide +kernel
theorem d_Shelf_nextRow_22 : decode b_Shelf_nextRow 22 = .ok (.getfield 7, 3) := by decide +kernel
theorem d_Shelf_nextRow_25 : decode b_Shelf_nextRow 25 = .ok (.iconst 1, 1) := by decide +kernel
theorem d_Shelf_nextRow_26 : decode b_Shelf_nextRow 26 = .ok (.isub, 1) := by decide +kernel
theorem d_Shelf_nextRow_27 : decode b_Shelf_nextRow 27 = .ok (.aaload, 1) := by decide +kernel
theorem d_Shelf_nextRow_28 : decode b_Shelf_nextRow 28 = .ok (.areturn, 1) := by decide +kernel
theorem d_Shelf_dropEnded_0 : decode b_Shelf_dropEnded 0 = .ok (.iconst 0, 1) := by decide +kernel
theorem d_Shelf_dropEnded_1 : decode b_Shelf_dropEnded 1 = .ok (.istore_n 2, 1) := by decide +kernel
theorem d_Shelf_dropEnded_2 : decode b_Shelf_dropEnded 2 = .ok (.iconst 0, 1) := by decide +kernel
theorem d_Shelf_dropEnded_3 : decode b_Shelf_dropEnded 3 = .ok (.istore_n 3, 1) := by decide +kernel
theorem d_Shelf_dropEnded_4 : decode b_Shelf_dropEnded 4 = .ok (.iload_n 3, 1) := by decide +kernel
theorem d_Shelf_dropEnded_5 : decode b_Shelf_dropEnded 5 = .ok (.aload_n 0, 1) := by decide +kernel
theorem d_Shelf_dropEnded_6 : decode b_Shelf_dropEnded 6 = .ok (.getfield 7, 3) := by decide +kernel
theorem d_Shelf_dropEnded_9 : decode b_Shelf_dropEnded 9 = .ok (.if_icmp .ge 31, 3) := by decide +kernel
theorem d_Shelf_dropEnded_12 : decode b_Shelf_dropEnded 12 = .ok (.aload_n 0, 1) := by decide +kernel
theorem d_Shelf_dropEnded_13 : decode b_Shelf_dropEnded 13 = .ok (.getfield 15, 3) := by decide +kernel
theorem d_Shelf_dropEnded_16 : decode b_Shelf_dropEnded 16 = .ok (.iload_n 3, 1) := by decide +kernel
theorem d_Shelf_dropEnded_17 : decode b_Shelf_dropEnded 17 = .ok (.aaload, 1) := by decide +kernel
theorem d_Shelf_dropEnded_18 : decode b_Shelf_dropEnded 18 = .ok (.getfield 38, 3) := by decide +kernel
theorem d_Shelf_dropEnded_21 : decode b_Shelf_dropEnded 21 = .ok (.iload_n 1, 1) := by decide +kernel
theorem d_Shelf_dropEnded_22 : decode b_Shelf_dropEnded 22 = .ok (.if_icmp .le 12, 3) := by decide +kernel
theorem d_Shelf_dropEnded_25 : decode b_Shelf_dropEnded 25 = .ok (.aload_n 0, 1) := by decide +kernel
theorem d_Shelf_dropEnded_26 : decode b_Shelf_dropEnded 26 = .ok (.iload_n 2, 1) := by decide +kernel
theorem d_Shelf_dropEnded_27 : decode b_Shelf_dropEnded 27 = .ok (.iload_n 3, 1) := by decide +kernel
theorem d_Shelf_dropEnded_28 : decode b_Shelf_dropEnded 28 = .ok (.invokevirtual 41, 3) := by decide +kernel
theorem d_Shelf_dropEnded_31 : decode b_Shelf_dropEnded 31 = .ok (.iinc 2 1, 3) := by decide +kernel
theorem d_Shelf_dropEnded_34 : decode b_Shelf_dropEnded 34 = .ok (.iinc 3 1, 3) := by decide +kernel
theorem d_Shelf_dropEnded_37 : decode b_Shelf_dropEnded 37 = .ok (.goto (-33), 3) := by decide +kernel
theorem d_Shelf_dropEnded_40 : decode b_Shelf_dropEnded 40 = .ok (.aload_n 0, 1) := by decide +kernel
theorem d_Shelf_dropEnded_41 : decode b_Shelf_dropEnded 41 = .ok (.getfield 7, 3) := by decide +kernel
theorem d_Shelf_dropEnded_44 : decode b_Shelf_dropEnded 44 = .ok (.iload_n 2, 1) := by decide +kernel
theorem d_Shelf_dropEnded_45 : decode b_Shelf_dropEnded 45 = .ok (.isub, 1) := by decide +kernel
theorem d_Shelf_dropEnded_46 : decode b_Shelf_dropEnded 46 = .ok (.istore_n 3, 1) := by decide +kernel
theorem d_Shelf_dropEnded_47 : decode b_Shelf_dropEnded 47 = .ok (.aload_n 0, 1) := by decide +kernel
theorem d_Shelf_dropEnded_48 : decode b_Shelf_dropEnded 48 = .ok (.iload_n 2, 1) := by decide +kernel
theorem d_Shelf_dropEnded_49 : decode b_Shelf_dropEnded 49 = .ok (.putfield 7, 3) := by decide +kernel
theorem d_Shelf_dropEnded_52 : decode b_Shelf_dropEnded 52 = .ok (.iload_n 3, 1) := by decide +kernel
theorem d_Shelf_dropEnded_53 : decode b_Shelf_dropEnded 53 = .ok (.ireturn, 1) := by decide +kernel
theorem d_Shelf_swap_0 : decode b_Shelf_swap 0 = .ok (.aload_n 0, 1) := by decide +kernel
theorem d_Shelf_swap_1 : decode b_Shelf_swap 1 = .ok (.getfield 15, 3) := by decide +kernel
theorem d_Shelf_swap_4 : decode b_Shelf_swap 4 = .ok (.iload_n 1, 1) := by decide +kernel
theorem d_Shelf_swap_5 : decode b_Shelf_swap 5 = .ok (.aaload, 1) := by decide +kernel
theorem d_Shelf_swap_6 : decode b_Shelf_swap 6 = .ok (.astore_n 3, 1) := by decide +kernel
theorem d_Shelf_swap_7 : decode b_Shelf_swap 7 = .ok (.aload_n 0, 1) := by decide +kernel
theorem d_Shelf_swap_8 : decode b_Shelf_swap 8 = .ok (.getfield 15, 3) := by decide +kernel
theorem d_Shelf_swap_11 : decode b_Shelf_swap 11 = .ok (.iload_n 1, 1) := by decide +kernel
theorem d_Shelf_swap_12 : decode b_Shelf_swap 12 = .ok (.aload_n 0, 1) := by decide +kernel
theorem d_Shelf_swap_13 : decode b_Shelf_swap 13 = .ok (.getfield 15, 3) := by decide +kernel
theorem d_Shelf_swap_16 : decode b_Shelf_swap 16 = .ok (.iload_n 2, 1) := by decide +kernel
theorem d_Shelf_swap_17 : decode b_Shelf_swap 17 = .ok (.aaload, 1) := by decide +kernel
theorem d_Shelf_swap_18 : decode b_Shelf_swap 18 = .ok (.aastore, 1) := by decide +kernel
theorem d_Shelf_swap_19 : decode b_Shelf_swap 19 = .ok (.aload_n 0, 1) := by decide +kernel
theorem d_Shelf_swap_20 : decode b_Shelf_swap 20 = .ok (.getfield 15, 3) := by decide +kernel
theorem d_Shelf_swap_23 : decode b_Shelf_swap 23 = .ok (.iload_n 2, 1) := by decide +kernel
theorem d_Shelf_swap_24 : decode b_Shelf_swap 24 = .ok (.aload_n 3, 1) := by decide +kernel
theorem d_Shelf_swap_25 : decode b_Shelf_swap 25 = .ok (.aastore, 1) := by decide +kernel
theorem d_Shelf_swap_26 : decode b_Shelf_swap 26 = .ok (.return_, 1) := by decide +kernel
set_option maxRecDepth 20000 in
theorem fl_GrantServer_291 : hm_fl vwCl TB R_GrantServer 291 3 7 false .boolean := ⟨_, _, _, _, cl_Grant, by decide, (TBm 95 (by decide +kernel) rfl), rfl, rfl⟩
set_option maxRecDepth 20000 in
theorem fl_Shelf_38 : hm_fl vwCl TB R_Shelf 38 3 3 false .int := ⟨_, _, _, _, cl_Grant, by decide, (TBm 88 (by decide +kernel) rfl), rfl, rfl⟩
set_option maxRecDepth 20000 in
theorem me_Grant_revokeFamily : hm_meV y_Grant_revokeFamily b_Grant_revokeFamily 1 none 0 := ⟨⟨(TBm 299 rfl rfl), (TBm 42 (by decide +kernel) rfl), by decide +kernel⟩, (TBm 297 (by decide +kernel) rfl), (TBm 298 (by decide +kernel) rfl)⟩
set_option maxRecDepth 20000 in
theorem me_Shelf_isFull : hm_meV y_Shelf_isFull b_Shelf_isFull 1 (some .boolean) 0 := ⟨⟨(TBm 277 rfl rfl), (TBm 41 (by decide +kernel) rfl), by decide +kernel⟩, (TBm 275 (by decide +kernel) rfl), (TBm 276 (by decide +kernel) rfl)⟩
set_option maxRecDepth 20000 in
theorem me_Shelf_swap : hm_meV y_Shelf_swap b_Shelf_swap 4 none 2 := ⟨⟨(TBm 671 rfl rfl), (TBm 41 (by decide +kernel) rfl), by decide +kernel⟩, (TBm 670 (by decide +kernel) rfl), (TBm 16 (by decide +kernel) rfl)⟩
set_option maxRecDepth 20000 in
theorem wl_GrantServer_137 : Cond.methodLink R_GrantServer 137 y_Grant_revokeFamily ∈ TB := TBm 296 (by decide +kernel) rfl
set_option maxRecDepth 20000 in
theorem wl_Shelf_20 : Cond.methodLink R_Shelf 20 y_Shelf_isFull ∈ TB := TBm 282 (by decide +kernel) rfl
set_option maxRecDepth 20000 in
theorem wl_Shelf_41 : Cond.methodLink R_Shelf 41 y_Shelf_swap ∈ TB := TBm 668 (by decide +kernel) rfl
set_option maxHeartbeats 4000000 in
set_option maxRecDepth 100000 in
theorem c_revokeFamily (l : Launch) (D : va_G) (k : Nat → ClassId) (f : hm) (h : Nat) (w : Nat → Int32) (m1 : Option Nat) (q : Nat) (fs : Int32) (fa : Int32) (fv : Int32) (hh : f h = some (.inr (3, gV w m1))) (hq : f q = some (.inr (2, [.int fs, .int fa, .int fv]))) (hm1 : m1 = some q) : hm_Mv l D vwCl (tyL k) y_Grant_revokeFamily (Cond.code y_Grant_revokeFamily b_Grant_revokeFamily 1 none :: TB) ({ frames := 0, cells := 0, slots := 0, locals := 0 }) [.ref h] f (fun (f1 : hm) => f1 q = some (.inr (2, [.int fs, .int fa, .int 1])) ∧ ∀ (zq : Nat) (zx : va_E), zq ≠ q → f zq = some zx → f1 zq = some zx) 0 0 := by
  refine hm_enter (Qc := fun sz => va_Qv _ (hm_R D vwCl (tyL k) f sz) (hm_A f sz)) (by decide) rfl (Nat.le_of_ble_eq_true rfl) ?_
  intro p e s m below meth cd ls X0 hr hlk hin hK hM hS hA hl Q hQ
  have X : CallFix p m cd b_Grant_revokeFamily 1 s ([.ref h] : List Value).toArray TB R_Grant := ⟨X0.1, X0.2.1, X0.2.2.1, X0.2.2.2.1, fun w h => X0.2.2.2.2 w (List.mem_cons_of_mem _ h)⟩
  have hx := X.1; have hb := X.2.1; have hml := X.2.2.1; have hown := X.2.2.2.1; have hts := X.2.2.2.2
  have hl : lv_has ls 1 [(0, .ref h)] := hl
  refine lv_aload_n hx hb d_Grant_revokeFamily_0 rfl (lv_at hl 0 rfl) ?_
  refine hm_get X hK hM hh fl_Grant_22 (v := va_rf m1) rfl d_Grant_revokeFamily_1 ?_
  refine hm_ref hm1 ?_
  refine lv_ifnull hx hb d_Grant_revokeFamily_4 ?_
  refine lv_aload_n hx hb d_Grant_revokeFamily_7 rfl (lv_at hl 0 rfl) ?_
  refine hm_get X hK hM hh fl_Grant_22 (v := va_rf m1) rfl d_Grant_revokeFamily_8 ?_
  refine hm_ref hm1 ?_
  refine lv_iconst (v := 1) hx hb d_Grant_revokeFamily_11 (by decide) ?_
  refine hm_put X hK hM hS (fs' := [.int fs, .int fa, .int 1]) hq fl_Grant_33 rfl rfl (Nat.le_of_ble_eq_true rfl) rfl d_Grant_revokeFamily_12 (fun f1 H locs e2 hM hS => ?_)
  have g3 : f1 q = some (.inr (2, [.int fs, .int fa, .int 1])) := by rw [e2, hm_up_s]
  exact hm_vret X hQ hr hlk hK hM hS d_Grant_revokeFamily_15 ⟨g3, (fun zq zx n0 hq => by have t0 := hq; have t1 := hm_keep e2 n0 t0; exact t1)⟩
set_option maxHeartbeats 4000000 in
set_option maxRecDepth 100000 in
theorem c_revokeFamilyOf_no (l : Launch) (D : va_G) (k : Nat → ClassId) (f : hm) : hm_Mv l D vwCl (tyL k) y_GrantServer_revokeFamilyOf (Cond.code y_GrantServer_revokeFamilyOf b_GrantServer_revokeFamilyOf 1 none :: TB) ({ frames := 0, cells := 0, slots := 0, locals := 0 }) [.null] f (fun (f1 : hm) => f = f1) 0 0 := by
  refine hm_enter (Qc := fun sz => va_Qv _ (hm_R D vwCl (tyL k) f sz) (hm_A f sz)) (by decide) rfl (Nat.le_of_ble_eq_true rfl) ?_
  intro p e s m below meth cd ls X0 hr hlk hin hK hM hS hA hl Q hQ
  have X : CallFix p m cd b_GrantServer_revokeFamilyOf 1 s ([.null] : List Value).toArray TB R_GrantServer := ⟨X0.1, X0.2.1, X0.2.2.1, X0.2.2.2.1, fun w h => X0.2.2.2.2 w (List.mem_cons_of_mem _ h)⟩
  have hx := X.1; have hb := X.2.1; have hml := X.2.2.1; have hown := X.2.2.2.1; have hts := X.2.2.2.2
  have hl : lv_has ls 1 [(0, .null)] := hl
  refine lv_aload_nN hx hb d_GrantServer_revokeFamilyOf_0 rfl (lv_at hl 0 rfl) ?_
  refine lv_ifnullN (tgt := 8) hx hb d_GrantServer_revokeFamilyOf_1 (by decide) ?_
  exact hm_vret X hQ hr hlk hK hM hS d_GrantServer_revokeFamilyOf_8 rfl
set_option maxHeartbeats 4000000 in
set_option maxRecDepth 100000 in
theorem c_revokeFamilyOf (l : Launch) (D : va_G) (k : Nat → ClassId) (f : hm) (h : Nat) (w : Nat → Int32) (m1 : Option Nat) (q : Nat) (fs : Int32) (fa : Int32) (fv : Int32) (hh : f h = some (.inr (3, gV w m1))) (hq : f q = some (.inr (2, [.int fs, .int fa, .int fv]))) (hm1 : m1 = some q) : hm_Mv l D vwCl (tyL k) y_GrantServer_revokeFamilyOf (Cond.code y_GrantServer_revokeFamilyOf b_GrantServer_revokeFamilyOf 1 none :: TB) ({ frames := 1, cells := 0, slots := 0, locals := 20 }) [.ref h] f (fun (f1 : hm) => f1 q = some (.inr (2, [.int fs, .int fa, .int 1])) ∧ ∀ (zq : Nat) (zx : va_E), zq ≠ q → f zq = some zx → f1 zq = some zx) 0 0 := by
  refine hm_enter (Qc := fun sz => va_Qv _ (hm_R D vwCl (tyL k) f sz) (hm_A f sz)) (by decide) rfl (Nat.le_of_ble_eq_true rfl) ?_
  intro p e s m below meth cd ls X0 hr hlk hin hK hM hS hA hl Q hQ
  have X : CallFix p m cd b_GrantServer_revokeFamilyOf 1 s ([.ref h] : List Value).toArray TB R_GrantServer := ⟨X0.1, X0.2.1, X0.2.2.1, X0.2.2.2.1, fun w h => X0.2.2.2.2 w (List.mem_cons_of_mem _ h)⟩
  have hx := X.1; have hb := X.2.1; have hml := X.2.2.1; have hown := X.2.2.2.1; have hts := X.2.2.2.2
  have hl : lv_has ls 1 [(0, .ref h)] := hl
  refine lv_aload_n hx hb d_GrantServer_revokeFamilyOf_0 rfl (lv_at hl 0 rfl) ?_
  refine lv_ifnull hx hb d_GrantServer_revokeFamilyOf_1 ?_
  refine lv_aload_n hx hb d_GrantServer_revokeFamilyOf_4 rfl (lv_at hl 0 rfl) ?_
  refine hm_callv hS hM hA (va_runV (As := []) (rest := []) X (c_revokeFamily l D k f h w m1 q fs fa fv hh hq hm1 s.heap.size) (hm_cwV hts me_Grant_revokeFamily wl_GrantServer_137 rfl rfl ⟨Nat.le_of_ble_eq_true rfl, Nat.le_of_ble_eq_true rfl⟩) (hm_preV hM hK hh rfl) rfl rfl hl.1 rfl (lv_room (Nat.le_of_ble_eq_true rfl)) d_GrantServer_revokeFamilyOf_5 ⟨Nat.le_of_ble_eq_true rfl, Nat.le_of_ble_eq_true rfl⟩) (fun f1 H locs p2 hM hS => ?_)
  obtain ⟨g3, hfr4⟩ := p2
  exact hm_vret X hQ hr hlk hK hM hS d_GrantServer_revokeFamilyOf_8 ⟨g3, (fun zq zx n0 hq => by have t0 := hq; have t1 := hfr4 _ _ n0 t0; exact t1)⟩
set_option maxHeartbeats 4000000 in
set_option maxRecDepth 100000 in
theorem c_revokeAlone_no (l : Launch) (D : va_G) (k : Nat → ClassId) (f : hm) : hm_Mv l D vwCl (tyL k) y_GrantServer_revokeAlone (Cond.code y_GrantServer_revokeAlone b_GrantServer_revokeAlone 1 none :: TB) ({ frames := 0, cells := 0, slots := 0, locals := 0 }) [.null] f (fun (f1 : hm) => f = f1) 0 0 := by
  refine hm_enter (Qc := fun sz => va_Qv _ (hm_R D vwCl (tyL k) f sz) (hm_A f sz)) (by decide) rfl (Nat.le_of_ble_eq_true rfl) ?_
  intro p e s m below meth cd ls X0 hr hlk hin hK hM hS hA hl Q hQ
  have X : CallFix p m cd b_GrantServer_revokeAlone 1 s ([.null] : List Value).toArray TB R_GrantServer := ⟨X0.1, X0.2.1, X0.2.2.1, X0.2.2.2.1, fun w h => X0.2.2.2.2 w (List.mem_cons_of_mem _ h)⟩
  have hx := X.1; have hb := X.2.1; have hml := X.2.2.1; have hown := X.2.2.2.1; have hts := X.2.2.2.2
  have hl : lv_has ls 1 [(0, .null)] := hl
  refine lv_aload_nN hx hb d_GrantServer_revokeAlone_0 rfl (lv_at hl 0 rfl) ?_
  refine lv_ifnullN (tgt := 9) hx hb d_GrantServer_revokeAlone_1 (by decide) ?_
  exact hm_vret X hQ hr hlk hK hM hS d_GrantServer_revokeAlone_9 rfl
set_option maxHeartbeats 4000000 in
set_option maxRecDepth 100000 in
theorem c_revokeAlone (l : Launch) (D : va_G) (k : Nat → ClassId) (f : hm) (h : Nat) (w : Nat → Int32) (m1 : Option Nat) (hh : f h = some (.inr (3, gV w m1))) : hm_Mv l D vwCl (tyL k) y_GrantServer_revokeAlone (Cond.code y_GrantServer_revokeAlone b_GrantServer_revokeAlone 1 none :: TB) ({ frames := 0, cells := 0, slots := 0, locals := 0 }) [.ref h] f (fun (f1 : hm) => f1 h = some (.inr (3, gV (upd w 7 1) m1)) ∧ ∀ (zq : Nat) (zx : va_E), zq ≠ h → f zq = some zx → f1 zq = some zx) 0 0 := by
  refine hm_enter (Qc := fun sz => va_Qv _ (hm_R D vwCl (tyL k) f sz) (hm_A f sz)) (by decide) rfl (Nat.le_of_ble_eq_true rfl) ?_
  intro p e s m below meth cd ls X0 hr hlk hin hK hM hS hA hl Q hQ
  have X : CallFix p m cd b_GrantServer_revokeAlone 1 s ([.ref h] : List Value).toArray TB R_GrantServer := ⟨X0.1, X0.2.1, X0.2.2.1, X0.2.2.2.1, fun w h => X0.2.2.2.2 w (List.mem_cons_of_mem _ h)⟩
  have hx := X.1; have hb := X.2.1; have hml := X.2.2.1; have hown := X.2.2.2.1; have hts := X.2.2.2.2
  have hl : lv_has ls 1 [(0, .ref h)] := hl
  refine lv_aload_n hx hb d_GrantServer_revokeAlone_0 rfl (lv_at hl 0 rfl) ?_
  refine lv_ifnull hx hb d_GrantServer_revokeAlone_1 ?_
  refine lv_aload_n hx hb d_GrantServer_revokeAlone_4 rfl (lv_at hl 0 rfl) ?_
  refine lv_iconst (v := 1) hx hb d_GrantServer_revokeAlone_5 (by decide) ?_
  refine hm_put X hK hM hS (fs' := gV (upd w 7 1) m1) hh fl_GrantServer_291 rfl rfl (Nat.le_of_ble_eq_true rfl) rfl d_GrantServer_revokeAlone_6 (fun f1 H locs e2 hM hS => ?_)
  have g3 : f1 h = some (.inr (3, gV (upd w 7 1) m1)) := by rw [e2, hm_up_s]
  exact hm_vret X hQ hr hlk hK hM hS d_GrantServer_revokeAlone_9 ⟨g3, (fun zq zx n0 hq => by have t0 := hq; have t1 := hm_keep e2 n0 t0; exact t1)⟩
set_option maxHeartbeats 4000000 in
set_option maxRecDepth 100000 in
theorem c_nextRow (l : Launch) (D : va_G) (k : Nat → ClassId) (f : hm) (h : Nat) (a : Nat) (N : Nat) (u : Nat) (g : Nat → Option Nat) (hh : f h = some (.inr (4, [.ref a, .int (nI u)]))) (ha : f a = some (.inl (k 3, N, .inr (.inr (.inr (.inr g)))))) (hu : u < N) (hN : N ≤ 24) : hm_Mq l D vwCl (tyL k) y_Shelf_nextRow (Cond.code y_Shelf_nextRow b_Shelf_nextRow 1 (some (.object "GrantServer$Grant")) :: TB) ({ frames := 1, cells := 0, slots := 0, locals := 20 }) [.ref h] f (fun (r : Option Nat) (f1 : hm) => g u = r ∧ f1 h = some (.inr (4, [.ref a, .int (nI (u + 1))])) ∧ f1 a = some (.inl (k 3, N, .inr (.inr (.inr (.inr g))))) ∧ ∀ (zq : Nat) (zx : va_E), zq ≠ h → zq ≠ a → f zq = some zx → f1 zq = some zx) 0 0 := by
  refine hm_enter (Qc := fun sz => va_Qq _ (hm_R D vwCl (tyL k) f sz) (hm_A f sz)) (by decide) rfl (Nat.le_of_ble_eq_true rfl) ?_
  intro p e s m below meth cd ls X0 hr hlk hin hK hM hS hA hl Q hQ
  have X : CallFix p m cd b_Shelf_nextRow 1 s ([.ref h] : List Value).toArray TB R_Shelf := ⟨X0.1, X0.2.1, X0.2.2.1, X0.2.2.2.1, fun w h => X0.2.2.2.2 w (List.mem_cons_of_mem _ h)⟩
  have hx := X.1; have hb := X.2.1; have hml := X.2.2.1; have hown := X.2.2.2.1; have hts := X.2.2.2.2
  have hl : lv_has ls 1 [(0, .ref h)] := hl
  refine lv_aload_n hx hb d_Shelf_nextRow_0 rfl (lv_at hl 0 rfl) ?_
  refine hm_calli hS hM hA (va_runV (As := []) (rest := []) X (c_Shelf_isFull l D k f h a N u g hh ha (by omega) hN s.heap.size) (hm_cwV hts me_Shelf_isFull wl_Shelf_20 rfl rfl ⟨Nat.le_of_ble_eq_true rfl, Nat.le_of_ble_eq_true rfl⟩) (hm_preV hM hK hh rfl) rfl rfl hl.1 rfl (lv_room (Nat.le_of_ble_eq_true rfl)) d_Shelf_nextRow_1 ⟨Nat.le_of_ble_eq_true rfl, Nat.le_of_ble_eq_true rfl⟩) (fun r3 f1 H locs p2 hM hS => ?_)
  obtain ⟨rfl, rfl⟩ := p2
  refine hm_top (z := 0) (z_full_lt hu) ?_
  refine lv_if_ne (tgt := 17) hx hb d_Shelf_nextRow_4 (by decide) (fun h4 => ?_) (fun h4 => ?_)
  · exact absurd h4 (by decide)
  · refine lv_aload_n hx hb d_Shelf_nextRow_7 rfl (lv_at hl 0 rfl) ?_
    refine lv_dup hx hb d_Shelf_nextRow_8 rfl ?_
    refine hm_get X hK hM hh fl_Shelf_7 (v := .int (nI u)) rfl d_Shelf_nextRow_9 ?_
    refine lv_iconst (v := 1) hx hb d_Shelf_nextRow_12 (by decide) ?_
    refine lv_iadd hx hb d_Shelf_nextRow_13 ?_
    refine hm_top (nI_1 _) ?_
    refine hm_put X hK hM hS (fs' := [.ref a, .int (nI (u + 1))]) hh fl_Shelf_7 rfl rfl (Nat.le_of_ble_eq_true rfl) rfl d_Shelf_nextRow_14 (fun f5 H locs e6 hM hS => ?_)
    refine lv_aload_n hx hb d_Shelf_nextRow_17 rfl (lv_at hl 0 rfl) ?_
    have g7 : f5 h = some (.inr (4, [.ref a, .int (nI (u + 1))])) := by rw [e6, hm_up_s]
    refine hm_get X hK hM g7 fl_Shelf_15 (v := .ref a) rfl d_Shelf_nextRow_18 ?_
    refine lv_aload_n hx hb d_Shelf_nextRow_21 rfl (lv_at hl 0 rfl) ?_
    refine hm_get X hK hM g7 fl_Shelf_7 (v := .int (nI (u + 1))) rfl d_Shelf_nextRow_22 ?_
    refine lv_iconst (v := 1) hx hb d_Shelf_nextRow_25 (by decide) ?_
    refine lv_isub hx hb d_Shelf_nextRow_26 ?_
    refine hm_top (z := nI u) (nI_pred u) ?_
    have g8 : f5 a = some (.inl (k 3, N, .inr (.inr (.inr (.inr g))))) := by rw [e6, hm_up_n ((hm_neA hh ha).symm)]; exact ha
    refine hm_aald X hK hM g8 3 rfl u rfl (by omega) (by omega) d_Shelf_nextRow_27 ?_
    exact hm_aret X hQ hr (Or.inl ⟨_, rfl⟩) hlk hK hM hS (g u) d_Shelf_nextRow_28 ⟨rfl, g7, g8, (fun zq zx n0 n1 hq => by have t0 := hq; have t1 := hm_keep e6 n0 t0; exact t1)⟩
set_option maxHeartbeats 4000000 in
set_option maxRecDepth 100000 in
theorem c_swap (l : Launch) (D : va_G) (k : Nat → ClassId) (f : hm) (h : Nat) (a : Nat) (N : Nat) (u : Nat) (g : Nat → Option Nat) (i : Nat) (j : Nat) (qi : Nat) (qj : Nat) (vi : List Value) (vj : List Value) (hh : f h = some (.inr (4, [.ref a, .int (nI u)]))) (ha : f a = some (.inl (k 3, N, .inr (.inr (.inr (.inr g)))))) (hN : N ≤ 24) (hi : i < N) (hj : j < N) (hgi : g i = some qi) (hgj : g j = some qj) (hqi : f qi = some (.inr (3, vi))) (hqj : f qj = some (.inr (3, vj))) : hm_Mv l D vwCl (tyL k) y_Shelf_swap (Cond.code y_Shelf_swap b_Shelf_swap 4 none :: TB) ({ frames := 0, cells := 0, slots := 0, locals := 0 }) [.ref h, .int (nI i), .int (nI j)] f (fun (f1 : hm) => f1 a = some (.inl (k 3, N, .inr (.inr (.inr (.inr (va_up (va_up g i (some qj)) j (some qi))))))) ∧ ∀ (zq : Nat) (zx : va_E), zq ≠ a → f zq = some zx → f1 zq = some zx) 0 0 := by
  refine hm_enter (Qc := fun sz => va_Qv _ (hm_R D vwCl (tyL k) f sz) (hm_A f sz)) (by decide) rfl (Nat.le_of_ble_eq_true rfl) ?_
  intro p e s m below meth cd ls X0 hr hlk hin hK hM hS hA hl Q hQ
  have X : CallFix p m cd b_Shelf_swap 4 s ([.ref h, .int (nI i), .int (nI j)] : List Value).toArray TB R_Shelf := ⟨X0.1, X0.2.1, X0.2.2.1, X0.2.2.2.1, fun w h => X0.2.2.2.2 w (List.mem_cons_of_mem _ h)⟩
  have hx := X.1; have hb := X.2.1; have hml := X.2.2.1; have hown := X.2.2.2.1; have hts := X.2.2.2.2
  have hl : lv_has ls 4 [(0, .ref h), (1, .int (nI i)), (2, .int (nI j))] := hl
  refine lv_aload_n hx hb d_Shelf_swap_0 rfl (lv_at hl 0 rfl) ?_
  refine hm_get X hK hM hh fl_Shelf_15 (v := .ref a) rfl d_Shelf_swap_1 ?_
  refine lv_iload_n hx hb d_Shelf_swap_4 rfl (lv_at hl 1 rfl) ?_
  refine hm_aald X hK hM ha 3 rfl i rfl hi (by omega) d_Shelf_swap_5 ?_
  refine hm_ref hgi ?_
  refine lv_astore_n (lv' := [(3, .ref qi), (0, .ref h), (1, .int (nI i)), (2, .int (nI j))]) hx hb d_Shelf_swap_6 rfl hl (by decide) rfl (fun ls hl => ?_)
  refine lv_aload_n hx hb d_Shelf_swap_7 rfl (lv_at hl 1 rfl) ?_
  refine hm_get X hK hM hh fl_Shelf_15 (v := .ref a) rfl d_Shelf_swap_8 ?_
  refine lv_iload_n hx hb d_Shelf_swap_11 rfl (lv_at hl 2 rfl) ?_
  refine lv_aload_n hx hb d_Shelf_swap_12 rfl (lv_at hl 1 rfl) ?_
  refine hm_get X hK hM hh fl_Shelf_15 (v := .ref a) rfl d_Shelf_swap_13 ?_
  refine lv_iload_n hx hb d_Shelf_swap_16 rfl (lv_at hl 3 rfl) ?_
  refine hm_aald X hK hM ha 3 rfl j rfl hj (by omega) d_Shelf_swap_17 ?_
  refine hm_ref hgj ?_
  refine hm_aast X hK hM hS ha hqj rfl 3 rfl i rfl hi (by omega) d_Shelf_swap_18 (fun f1 H locs e2 hM hS => ?_)
  refine lv_aload_n hx hb d_Shelf_swap_19 rfl (lv_at hl 1 rfl) ?_
  have g3 : f1 h = some (.inr (4, [.ref a, .int (nI u)])) := by rw [e2, hm_up_n (hm_neA hh ha)]; exact hh
  refine hm_get X hK hM g3 fl_Shelf_15 (v := .ref a) rfl d_Shelf_swap_20 ?_
  refine lv_iload_n hx hb d_Shelf_swap_23 rfl (lv_at hl 3 rfl) ?_
  refine lv_aload_n hx hb d_Shelf_swap_24 rfl (lv_at hl 0 rfl) ?_
  have gqi : f1 qi = some (.inr (3, vi)) := hm_keep e2 (hm_neA hqi ha) hqi
  have g4 : f1 a = some (.inl (k 3, N, .inr (.inr (.inr (.inr (va_up g i (some qj))))))) := by rw [e2, hm_up_s]
  refine hm_aast X hK hM hS g4 gqi rfl 3 rfl j rfl hj (by omega) d_Shelf_swap_25 (fun f5 H locs e6 hM hS => ?_)
  have g7 : f5 a = some (.inl (k 3, N, .inr (.inr (.inr (.inr (va_up (va_up g i (some qj)) j (some qi))))))) := by rw [e6, hm_up_s]
  exact hm_vret X hQ hr hlk hK hM hS d_Shelf_swap_26 ⟨g7, (fun zq zx n0 hq => by have t0 := hq; have t1 := hm_keep e2 n0 t0; have t2 := hm_keep e6 n0 t1; exact t2)⟩
set_option maxHeartbeats 4000000 in
set_option maxRecDepth 100000 in
theorem c_dropEnded (l : Launch) (D : va_G) (k : Nat → ClassId) (f : hm) (h : Nat) (a : Nat) (N : Nat) (u : Nat) (g : Nat → Option Nat) (w : Nat → Nat → Int32) (m1 : Nat → Option Nat) (x : Int32) (hh : f h = some (.inr (4, [.ref a, .int (nI u)]))) (ha : f a = some (.inl (k 3, N, .inr (.inr (.inr (.inr g)))))) (hu : u ≤ N) (hN : N ≤ 24) (hall : ∀ i, i < N → ∃ q, g i = some q ∧ f q = some (.inr (3, gV (w i) (m1 i)))) : hm_Mi l D vwCl (tyL k) y_Shelf_dropEnded (Cond.code y_Shelf_dropEnded b_Shelf_dropEnded 4 (some .int) :: TB) ({ frames := 1, cells := 0, slots := 0, locals := 23 }) [.ref h, .int x] f (fun (r : Int32) (f1 : hm) => ∃ (kk : Nat) (pi : Nat → Nat), nI (u - kk) = r ∧ (kk ≤ u) ∧ (z_pm N pi) ∧ (z_perm w x u kk pi) ∧ f1 h = some (.inr (4, [.ref a, .int (nI kk)])) ∧ f1 a = some (.inl (k 3, N, .inr (.inr (.inr (.inr (fun i => g (pi i))))))) ∧ ∀ (zq : Nat) (zx : va_E), zq ≠ h → zq ≠ a → f zq = some zx → f1 zq = some zx) 0 0 := by
  refine hm_enter (Qc := fun sz => va_Qi _ (hm_R D vwCl (tyL k) f sz) (hm_A f sz)) (by decide) rfl (Nat.le_of_ble_eq_true rfl) ?_
  intro p e s m below meth cd ls X0 hr hlk hin hK hM hS hA hl Q hQ
  have X : CallFix p m cd b_Shelf_dropEnded 4 s ([.ref h, .int x] : List Value).toArray TB R_Shelf := ⟨X0.1, X0.2.1, X0.2.2.1, X0.2.2.2.1, fun w h => X0.2.2.2.2 w (List.mem_cons_of_mem _ h)⟩
  have hx := X.1; have hb := X.2.1; have hml := X.2.2.1; have hown := X.2.2.2.1; have hts := X.2.2.2.2
  have hl : lv_has ls 4 [(0, .ref h), (1, .int x)] := hl
  have ha0 := ha
  refine lv_iconst (v := 0) hx hb d_Shelf_dropEnded_0 (by decide) ?_
  refine lv_istore_n (lv' := [(2, .int 0), (0, .ref h), (1, .int x)]) hx hb d_Shelf_dropEnded_1 rfl hl (by decide) rfl (fun ls hl => ?_)
  refine lv_iconst (v := 0) hx hb d_Shelf_dropEnded_2 (by decide) ?_
  refine lv_istore_n (lv' := [(3, .int 0), (2, .int 0), (0, .ref h), (1, .int x)]) hx hb d_Shelf_dropEnded_3 rfl hl (by decide) rfl (fun ls hl => ?_)
  have loop4 : ∀ (fu : Nat) (j : Nat) (kk : Nat) (pi : Nat → Nat) (fL : hm) (H : Heap) (locs : List Loc) (ls : Array Slot) (hmu : u - j < fu) (hj : j ≤ u) (hkk : kk ≤ j) (hpm : z_pm N pi) (hpe : z_perm w x j kk pi) (hpi : ∀ i, j ≤ i → pi i = i) (hh : fL h = some (.inr (4, [.ref a, .int (nI u)]))) (ha : fL a = some (.inl (k 3, N, .inr (.inr (.inr (.inr (fun i => g (pi i)))))))) (hfr : ∀ (q : Nat) (x : va_E), q ≠ a → f q = some x → fL q = some x) (hM : hm_W D vwCl (hm_A f s.heap.size) fL H) (hS : va_S (hm_A f s.heap.size) s.heap H locs) (hl : lv_has ls 4 [(0, .ref h), (1, .int x), (2, .int (nI kk)), (3, .int (nI j))]), W p l e ({ frames := 1, cells := 0, slots := 0, locals := 23 }) s m ([.ref h, .int x] : List Value).toArray below meth cd H locs 0 0 Q (F0 m 4 ls []) := by
    intro fu
    induction fu with
    | zero => intro j kk pi fL H locs ls hmu; exact absurd hmu (Nat.not_lt_zero _)
    | succ fu ih =>
      intro j kk pi fL H locs ls hmu hj hkk hpm hpe hpi hh ha hfr hM hS hl
      refine lv_iload_n hx hb d_Shelf_dropEnded_4 rfl (lv_at hl 3 rfl) ?_
      refine lv_aload_n hx hb d_Shelf_dropEnded_5 rfl (lv_at hl 0 rfl) ?_
      refine hm_get X hK hM hh fl_Shelf_7 (v := .int (nI u)) rfl d_Shelf_dropEnded_6 ?_
      refine lv_icmp_ge (tgt := 40) hx hb d_Shelf_dropEnded_9 (by decide) (fun h1 => ?_) (fun h1 => ?_)
      · have hge : j = u := by have z := (nI_leI (a := u) (b := j) (by omega) (by omega)).mp h1; omega
        subst hge
        refine lv_aload_n hx hb d_Shelf_dropEnded_40 rfl (lv_at hl 0 rfl) ?_
        refine hm_get X hK hM hh fl_Shelf_7 (v := .int (nI j)) rfl d_Shelf_dropEnded_41 ?_
        refine lv_iload_n hx hb d_Shelf_dropEnded_44 rfl (lv_at hl 2 rfl) ?_
        refine lv_isub hx hb d_Shelf_dropEnded_45 ?_
        refine hm_top (z := nI (j - kk)) (pk_sub (by omega)) ?_
        refine lv_istore_n (lv' := [(3, .int (nI (j - kk))), (0, .ref h), (1, .int x), (2, .int (nI kk))]) hx hb d_Shelf_dropEnded_46 rfl hl (by decide) rfl (fun ls hl => ?_)
        refine lv_aload_n hx hb d_Shelf_dropEnded_47 rfl (lv_at hl 1 rfl) ?_
        refine lv_iload_n hx hb d_Shelf_dropEnded_48 rfl (lv_at hl 3 rfl) ?_
        refine hm_put X hK hM hS (fs' := [.ref a, .int (nI kk)]) hh fl_Shelf_7 rfl rfl (Nat.le_of_ble_eq_true rfl) rfl d_Shelf_dropEnded_49 (fun f2 H locs e3 hM hS => ?_)
        refine lv_iload_n hx hb d_Shelf_dropEnded_52 rfl (lv_at hl 0 rfl) ?_
        have g4 : f2 h = some (.inr (4, [.ref a, .int (nI kk)])) := by rw [e3, hm_up_s]
        have g5 : f2 a = some (.inl (k 3, N, .inr (.inr (.inr (.inr (fun i => g (pi i))))))) := by rw [e3, hm_up_n ((hm_neA hh ha).symm)]; exact ha
        exact hm_iret X hQ hr hlk hK hM hS d_Shelf_dropEnded_53 ⟨kk, pi, rfl, hkk, hpm, hpe, g4, g5, (fun q x n0 n1 hq => hm_keep e3 n0 (hfr _ _ n1 hq))⟩
      · have hlt : j < u := by have z := mt (nI_leI (a := u) (b := j) (by omega) (by omega)).mpr h1; omega
        obtain ⟨q9, hq9, hf9⟩ := hall j (by omega)
        have hg9 : g (pi j) = some q9 := by rw [hpi j (Nat.le_refl _)]; exact hq9
        have hL9 := hfr _ _ (hm_neA hf9 ha0) hf9
        refine lv_aload_n hx hb d_Shelf_dropEnded_12 rfl (lv_at hl 0 rfl) ?_
        refine hm_get X hK hM hh fl_Shelf_15 (v := .ref a) rfl d_Shelf_dropEnded_13 ?_
        refine lv_iload_n hx hb d_Shelf_dropEnded_16 rfl (lv_at hl 3 rfl) ?_
        refine hm_aald X hK hM ha 3 rfl j rfl (by omega) (by omega) d_Shelf_dropEnded_17 ?_
        refine hm_ref hg9 ?_
        refine hm_get X hK hM hL9 fl_Shelf_38 (v := .int ((w j) 3)) rfl d_Shelf_dropEnded_18 ?_
        refine lv_iload_n hx hb d_Shelf_dropEnded_21 rfl (lv_at hl 1 rfl) ?_
        refine lv_icmp_le (tgt := 34) hx hb d_Shelf_dropEnded_22 (by decide) (fun h2 => ?_) (fun h2 => ?_)
        · refine lv_iinc (lv' := [(3, .int (nI (j + 1))), (0, .ref h), (1, .int x), (2, .int (nI kk))]) hx hb d_Shelf_dropEnded_34 hl (k := 3) rfl (hm_inc _) (by decide) rfl (fun ls hl => ?_)
          refine lv_goto (tgt := 4) hx hb d_Shelf_dropEnded_37 (by decide) ?_
          exact ih (j + 1) kk pi fL H locs ls (by omega) (by omega) (by omega) hpm (z_perm_miss hpe (Int32.not_lt.mpr h2)) (fun i h9 => hpi i (by omega)) hh ha (fun zq zx n0 hq => by have t0 := hfr _ _ n0 hq; exact t0) hM hS (lv_sub hl [1, 2, 3, 0] rfl)
        · obtain ⟨q8, hq8, hf8⟩ := hall (pi kk) (hpm.1 kk (by omega))
          have hL8 := hfr _ _ (hm_neA hf8 ha0) hf8
          refine lv_aload_n hx hb d_Shelf_dropEnded_25 rfl (lv_at hl 0 rfl) ?_
          refine lv_iload_n hx hb d_Shelf_dropEnded_26 rfl (lv_at hl 2 rfl) ?_
          refine lv_iload_n hx hb d_Shelf_dropEnded_27 rfl (lv_at hl 3 rfl) ?_
          refine hm_callv hS hM hA (va_runV (As := [.int (nI kk), .int (nI j)]) (rest := []) X (c_swap l D k fL h a N u (fun i => g (pi i)) kk j q8 q9 (gV (w (pi kk)) (m1 (pi kk))) (gV (w j) (m1 j)) hh ha hN (by omega) (by omega) hq8 hg9 hL8 hL9 H.size) (hm_cwV hts me_Shelf_swap wl_Shelf_41 rfl rfl ⟨Nat.le_of_ble_eq_true rfl, Nat.le_of_ble_eq_true rfl⟩) (hm_preV hM hK hh rfl) rfl rfl hl.1 rfl (lv_room (Nat.le_of_ble_eq_true rfl)) d_Shelf_dropEnded_28 ⟨Nat.le_of_ble_eq_true rfl, Nat.le_of_ble_eq_true rfl⟩) (fun f3 H locs p4 hM hS => ?_)
          obtain ⟨g5, hfr6⟩ := p4
          have g52 : f3 a = some (.inl (k 3, N, .inr (.inr (.inr (.inr (fun i => g (va_up (va_up pi kk (pi j)) j (pi kk) i))))))) := by rw [← z_comp_swap hq8 hg9]; exact g5
          refine lv_iinc (lv' := [(2, .int (nI (kk + 1))), (0, .ref h), (1, .int x), (3, .int (nI j))]) hx hb d_Shelf_dropEnded_31 hl (k := 2) rfl (hm_inc _) (by decide) rfl (fun ls hl => ?_)
          refine lv_iinc (lv' := [(3, .int (nI (j + 1))), (2, .int (nI (kk + 1))), (0, .ref h), (1, .int x)]) hx hb d_Shelf_dropEnded_34 hl (k := 3) rfl (hm_inc _) (by decide) rfl (fun ls hl => ?_)
          refine lv_goto (tgt := 4) hx hb d_Shelf_dropEnded_37 (by decide) ?_
          have g7 : f3 h = some (.inr (4, [.ref a, .int (nI u)])) := hfr6 _ _ (hm_neA hh ha) hh
          have g8 : f3 q9 = some (.inr (3, gV (w j) (m1 j))) := hfr6 _ _ (hm_neA hL9 ha) hL9
          exact ih (j + 1) (kk + 1) (va_up (va_up pi kk (pi j)) j (pi kk)) f3 H locs ls (by omega) (by omega) (by omega) (z_pm_swap hpm (by omega) (by omega)) (z_perm_hit hpe hkk (hpi j (Nat.le_refl _)) (Int32.not_le.mp h2)) (fun i h9 => by simp [va_up, show i ≠ j by omega, show i ≠ kk by omega]; exact hpi i (by omega)) g7 g52 (fun zq zx n0 hq => by have t0 := hfr _ _ n0 hq; have t1 := hfr6 _ _ n0 t0; exact t1) hM hS (lv_sub hl [2, 3, 1, 0] rfl)
  exact loop4 _ 0 0 (fun i => i) f s.heap [] ls (Nat.lt_succ_self _) (Nat.zero_le _) (Nat.le_refl _) (z_pm_id _) rfl (fun _ _ => rfl) hh ha (fun q x n0 hq => hq) hM hS (lv_sub hl [2, 3, 1, 0] rfl)
