theorem d_GrantServerLaw_cell_0 : decode b_GrantServerLaw_cell 0 = .ok (.iload_n 1, 1) := by decide +kernel
theorem d_GrantServerLaw_cell_1 : decode b_GrantServerLaw_cell 1 = .ok (.aload_n 0, 1) := by decide +kernel
theorem d_GrantServerLaw_cell_2 : decode b_GrantServerLaw_cell 2 = .ok (.arraylength, 1) := by decide +kernel
theorem d_GrantServerLaw_cell_3 : decode b_GrantServerLaw_cell 3 = .ok (.if_icmp .ge 9, 3) := by decide +kernel
theorem d_GrantServerLaw_cell_6 : decode b_GrantServerLaw_cell 6 = .ok (.aload_n 0, 1) := by decide +kernel
theorem d_GrantServerLaw_cell_7 : decode b_GrantServerLaw_cell 7 = .ok (.iload_n 1, 1) := by decide +kernel
theorem d_GrantServerLaw_cell_8 : decode b_GrantServerLaw_cell 8 = .ok (.iaload, 1) := by decide +kernel
theorem d_GrantServerLaw_cell_9 : decode b_GrantServerLaw_cell 9 = .ok (.goto 4, 3) := by decide +kernel
theorem d_GrantServerLaw_cell_12 : decode b_GrantServerLaw_cell 12 = .ok (.iconst 0, 1) := by decide +kernel
theorem d_GrantServerLaw_cell_13 : decode b_GrantServerLaw_cell 13 = .ok (.ireturn, 1) := by decide +kernel
set_option maxHeartbeats 4000000 in
set_option maxRecDepth 100000 in
theorem c_cell (l : Launch) (D : va_G) (k : Nat → ClassId) (f : hm) (b : Nat) (L : Nat) (xs : Nat → Int32) (j : Nat) (hL : L ≤ 4000) (hj : j ≤ 4000) : hm_MiX l b L xs D vwCl (tyL k) y_GrantServerLaw_cell (Cond.code y_GrantServerLaw_cell b_GrantServerLaw_cell 2 (some .int) :: TB) ({ frames := 0, cells := 0, slots := 0, locals := 0 }) [.ref b, .int (nI j)] f (fun (r : Int32) (f1 : hm) => z_cell L xs j = r ∧ f = f1) 0 0 := by
  refine hm_enterX (Qc := fun sz => va_Qi _ (hm_R D vwCl (tyL k) f sz) (hm_A f sz)) (by decide) rfl (Nat.le_of_ble_eq_true rfl) ?_
  intro p e s m below meth cd ls hXX X0 hr hlk hin hK hM hS hA hl Q hQ
  have X : CallFix p m cd b_GrantServerLaw_cell 2 s ([.ref b, .int (nI j)] : List Value).toArray TB R_GrantServerLaw := ⟨X0.1, X0.2.1, X0.2.2.1, X0.2.2.2.1, fun w h => X0.2.2.2.2 w (List.mem_cons_of_mem _ h)⟩
  have hx := X.1; have hb := X.2.1; have hml := X.2.2.1; have hown := X.2.2.2.1; have hts := X.2.2.2.2
  obtain ⟨hX, hbl, hbA⟩ := hXX
  have hl : lv_has ls 2 [(0, .ref b), (1, .int (nI j))] := hl
  refine lv_iload_n hx hb d_GrantServerLaw_cell_0 rfl (lv_at hl 1 rfl) ?_
  refine lv_aload_n hx hb d_GrantServerLaw_cell_1 rfl (lv_at hl 0 rfl) ?_
  refine va_slen hx hb hX hbl hbA hS d_GrantServerLaw_cell_2 ?_
  refine hm_top (z := nI L) rfl ?_
  refine lv_icmp_ge (tgt := 12) hx hb d_GrantServerLaw_cell_3 (by decide) (fun h1 => ?_) (fun h1 => ?_)
  · refine lv_iconst (v := 0) hx hb d_GrantServerLaw_cell_12 (by decide) ?_
    exact hm_iret X hQ hr hlk hK hM hS d_GrantServerLaw_cell_13 ⟨(by unfold z_cell; rw [if_neg (by have z := (nI_leI (a := L) (b := j) (by omega) (by omega)).mp h1; omega)]), rfl⟩
  · have hlt : j < L := by have z := mt (nI_leI (a := L) (b := j) (by omega) (by omega)).mpr h1; omega
    refine lv_aload_n hx hb d_GrantServerLaw_cell_6 rfl (lv_at hl 0 rfl) ?_
    refine lv_iload_n hx hb d_GrantServerLaw_cell_7 rfl (lv_at hl 1 rfl) ?_
    refine va_sld hx hb hX hbl hbA hS (vp_in_nI (n := j) (N := L) hlt (by omega)) d_GrantServerLaw_cell_8 ?_
    refine hm_top (z := xs j) (by rw [nI_clamp (by omega)]) ?_
    refine lv_goto (tgt := 13) hx hb d_GrantServerLaw_cell_9 (by decide) ?_
    exact hm_iret X hQ hr hlk hK hM hS d_GrantServerLaw_cell_13 ⟨(by unfold z_cell; rw [if_pos hlt]), rfl⟩
