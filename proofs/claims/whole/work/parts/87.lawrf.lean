set_option maxRecDepth 20000 in
theorem me_GrantServerModel_refresh : hm_meV y_GrantServerModel_refresh b_GrantServerModel_refresh 6 (some .int) 3 := ⟨⟨(TBm 874 rfl rfl), (TBm 47 (by decide +kernel) rfl), by decide +kernel⟩, (TBm 872 (by decide +kernel) rfl), (TBm 873 (by decide +kernel) rfl)⟩
set_option maxRecDepth 20000 in
theorem me_GrantServer_refresh : hm_meV y_GrantServer_refresh b_GrantServer_refresh 7 (some .int) 3 := ⟨⟨(TBm 447 rfl rfl), (TBm 40 (by decide +kernel) rfl), by decide +kernel⟩, (TBm 445 (by decide +kernel) rfl), (TBm 446 (by decide +kernel) rfl)⟩
set_option maxRecDepth 20000 in
theorem wl_GrantServerLaw_41 : Cond.methodLink R_GrantServerLaw 41 y_GrantServer_refresh ∈ TB := TBm 444 (by decide +kernel) rfl
set_option maxRecDepth 20000 in
theorem wl_GrantServerLaw_44 : Cond.methodLink R_GrantServerLaw 44 y_GrantServerModel_refresh ∈ TB := TBm 871 (by decide +kernel) rfl
set_option maxHeartbeats 40000000 in
set_option maxRecDepth 100000 in
theorem lw_c4 {p : Program} {e : Env} {s : State} {m : MethodId} {below : List Frame} {meth : Method} {cd : Code} {l : Launch} {b L : Nat} {xs : Nat → Int32} {D : va_G} {k : Nat → ClassId} {A : Nat → Prop} {sA sV : Nat → Nat} {h9 : Nat} {adM : Nat → Nat} {Q : State → Prop} {sk : Int64}
    (X : CallFix p m cd code 4 s #[Value.ref b] TB R_GrantServerLaw) (hX : va_X b L xs s s.heap) (hbl : b < s.heap.size) (hbA : ¬ A b) (hK : hm_K D vwCl (tyL k) s) (hA : ∀ q, s.heap.size ≤ q → A q) (hZ : hm_Z sA sV A s s.heap)
    {f : hm} {a : cA} {S : cS} {sg : Nat → Nat → Nat} {v : Nat → Int32} {c : Nat → Nat → Int32} {B C Sl : Nat} {H : Heap} {locs : List Loc} {ls : Array Slot} (hB : B < 512) (hi : 4 + 6 * B + 6 ≤ L) (hL : L ≤ 3076) (hC : C ≤ 10000) (hSl : Sl ≤ 20000)
    (hI : lw_I k f a S h9 adM sk v c sg B) (hM : hm_W D vwCl A f H) (hS : va_S A s.heap H locs) (hl : lv_has ls 4 [(3, .int (nI (4 + 6 * B))), (2, .ref h9), (1, .ref (aF a 0)), (0, .ref b)])
    (next : ∀ (f' : hm) (a' : cA) (S' : cS) (sg' : Nat → Nat → Nat) (v' : Nat → Int32) (c' : Nat → Nat → Int32) (H' : Heap) (locs' : List Loc), aF a' 0 = aF a 0 → lw_I k f' a' S' h9 adM sk v' c' sg' (B + 1) → hm_W D vwCl A f' H' → va_S A s.heap H' locs' → W p l e room_1 s m #[Value.ref b] below meth cd H' locs' (C + 1) (Sl + 3) Q (F0 m 749 ls [])) :
    W p l e room_1 s m #[Value.ref b] below meth cd H locs C Sl Q (F0 m 348 ls []) := by
  obtain ⟨hcs, hdj, hmo, hrl⟩ := hI
  have hx := X.1; have hb := X.2.1; have hml := X.2.2.1; have hown := X.2.2.2.1; have hts := X.2.2.2.2
  obtain ⟨x1, ex1⟩ : ∃ z, xs (4 + 6 * B + 1) = z := ⟨_, rfl⟩
  obtain ⟨x2, ex2⟩ : ∃ z, xs (4 + 6 * B + 2) = z := ⟨_, rfl⟩
  obtain ⟨x3, ex3⟩ : ∃ z, xs (4 + 6 * B + 3) = z := ⟨_, rfl⟩
  obtain ⟨x4, ex4⟩ : ∃ z, xs (4 + 6 * B + 4) = z := ⟨_, rfl⟩
  obtain ⟨x5, ex5⟩ : ∃ z, xs (4 + 6 * B + 5) = z := ⟨_, rfl⟩
  refine lv_aload_n hx hb d_law_348 rfl (lv_at hl 2 rfl) ?_
  refine lv_aload_n hx hb d_law_349 rfl (lv_at hl 3 rfl) ?_
  refine lv_iload_n hx hb d_law_350 rfl (lv_at hl 0 rfl) ?_
  refine lv_iconst (v := 1) hx hb d_law_351 (by decide) ?_
  refine lv_iadd hx hb d_law_352 ?_
  refine hm_top (z := nI (4 + 6 * B + 1)) (nI_add _ 1) ?_
  refine va_sld hx hb hX hbl hbA hS (vp_in_nI (n := 4 + 6 * B + 1) (N := L) (by omega) (by omega)) d_law_353 ?_
  refine hm_top (z := xs (4 + 6 * B + 1)) (by rw [nI_clamp (by omega)]) ?_
  refine hm_top (z := x1) ex1 ?_
  refine lv_aload_n hx hb d_law_354 rfl (lv_at hl 3 rfl) ?_
  refine lv_iload_n hx hb d_law_355 rfl (lv_at hl 0 rfl) ?_
  refine lv_iconst (v := 2) hx hb d_law_356 (by decide) ?_
  refine lv_iadd hx hb d_law_357 ?_
  refine hm_top (z := nI (4 + 6 * B + 2)) (nI_add _ 2) ?_
  refine va_sld hx hb hX hbl hbA hS (vp_in_nI (n := 4 + 6 * B + 2) (N := L) (by omega) (by omega)) d_law_358 ?_
  refine hm_top (z := xs (4 + 6 * B + 2)) (by rw [nI_clamp (by omega)]) ?_
  refine hm_top (z := x2) ex2 ?_
  refine lv_aload_n hx hb d_law_359 rfl (lv_at hl 3 rfl) ?_
  refine lv_iload_n hx hb d_law_360 rfl (lv_at hl 0 rfl) ?_
  refine lv_iconst (v := 3) hx hb d_law_361 (by decide) ?_
  refine lv_iadd hx hb d_law_362 ?_
  refine hm_top (z := nI (4 + 6 * B + 3)) (nI_add _ 3) ?_
  refine va_sld hx hb hX hbl hbA hS (vp_in_nI (n := 4 + 6 * B + 3) (N := L) (by omega) (by omega)) d_law_363 ?_
  refine hm_top (z := xs (4 + 6 * B + 3)) (by rw [nI_clamp (by omega)]) ?_
  refine hm_top (z := x3) ex3 ?_
  rcases hrl.us.2 with hu9 | ⟨ju, hju, hu9⟩
  · refine hm_calli hS hM hA (va_runV (As := [.int x1, .int x2, .int x3]) (rest := []) X (c_refresh_no l D k f (aF a 0) S.u (aF a) x1 x2 x3 (hcs.F 0 rfl) (hrl.us.1.trans hu9) H.size) (hm_cwV hts me_GrantServer_refresh wl_GrantServerLaw_41 rfl rfl ⟨Nat.le_of_ble_eq_true rfl, Nat.le_of_ble_eq_true rfl⟩) (hm_preV hM hK (hcs.F 0 rfl) rfl) rfl rfl hl.1 rfl (lv_room (Nat.le_of_ble_eq_true rfl)) d_law_364 ⟨(show C + 0 ≤ 600000 by omega), (show Sl + 0 ≤ 7302250 by omega)⟩) (fun r103 f101 H locs p102 hM hS => ?_)
    obtain ⟨rfl, rfl⟩ := p102
    refine lv_aload_n hx hb d_law_367 rfl (lv_at hl 1 rfl) ?_
    refine lv_aload_n hx hb d_law_368 rfl (lv_at hl 3 rfl) ?_
    refine lv_iload_n hx hb d_law_369 rfl (lv_at hl 0 rfl) ?_
    refine lv_iconst (v := 1) hx hb d_law_370 (by decide) ?_
    refine lv_iadd hx hb d_law_371 ?_
    refine hm_top (z := nI (4 + 6 * B + 1)) (nI_add _ 1) ?_
    refine va_sld hx hb hX hbl hbA hS (vp_in_nI (n := 4 + 6 * B + 1) (N := L) (by omega) (by omega)) d_law_372 ?_
    refine hm_top (z := xs (4 + 6 * B + 1)) (by rw [nI_clamp (by omega)]) ?_
    refine hm_top (z := x1) ex1 ?_
    refine lv_aload_n hx hb d_law_373 rfl (lv_at hl 3 rfl) ?_
    refine lv_iload_n hx hb d_law_374 rfl (lv_at hl 0 rfl) ?_
    refine lv_iconst (v := 2) hx hb d_law_375 (by decide) ?_
    refine lv_iadd hx hb d_law_376 ?_
    refine hm_top (z := nI (4 + 6 * B + 2)) (nI_add _ 2) ?_
    refine va_sld hx hb hX hbl hbA hS (vp_in_nI (n := 4 + 6 * B + 2) (N := L) (by omega) (by omega)) d_law_377 ?_
    refine hm_top (z := xs (4 + 6 * B + 2)) (by rw [nI_clamp (by omega)]) ?_
    refine hm_top (z := x2) ex2 ?_
    refine lv_aload_n hx hb d_law_378 rfl (lv_at hl 3 rfl) ?_
    refine lv_iload_n hx hb d_law_379 rfl (lv_at hl 0 rfl) ?_
    refine lv_iconst (v := 3) hx hb d_law_380 (by decide) ?_
    refine lv_iadd hx hb d_law_381 ?_
    refine hm_top (z := nI (4 + 6 * B + 3)) (nI_add _ 3) ?_
    refine va_sld hx hb hX hbl hbA hS (vp_in_nI (n := 4 + 6 * B + 3) (N := L) (by omega) (by omega)) d_law_382 ?_
    refine hm_top (z := xs (4 + 6 * B + 3)) (by rw [nI_clamp (by omega)]) ?_
    refine hm_top (z := x3) ex3 ?_
    refine hm_calli hS hM hA (va_runV (As := [.int x1, .int x2, .int x3]) (rest := [.int (-2)]) X (m_c_refresh_no l D k f h9 adM sk v c x1 x2 x3 hmo (by rw [hu9]; decide) H.size) (hm_cwV hts me_GrantServerModel_refresh wl_GrantServerLaw_44 rfl rfl ⟨Nat.le_of_ble_eq_true rfl, Nat.le_of_ble_eq_true rfl⟩) (hm_preV hM hK hmo.1 rfl) rfl rfl hl.1 rfl (lv_room (Nat.le_of_ble_eq_true rfl)) d_law_383 ⟨(show C + 0 + 0 ≤ 600000 by omega), (show Sl + 0 + 0 ≤ 7302250 by omega)⟩) (fun r106 f104 H locs p105 hM hS => ?_)
    obtain ⟨rfl, rfl⟩ := p105
    refine lv_icmp_eq (tgt := 749) hx hb d_law_386 (by decide) (fun h107 => ?_) (fun h107 => ?_)
    · refine W.widen (k := C + 1) (n := Sl + 3) (by omega) (by omega) ?_
      exact next _ _ _ _ _ _ _ _ rfl ⟨hcs, hdj, hmo, hrl.same⟩ hM hS
    · exact absurd rfl h107
  · have hlog : ¬ S.u 13 = -1 := fun z => o_m1 (by have := hrl.nc.2.2; omega) (hu9.symm.trans (hrl.us.1.symm.trans z))
    have hu : ¬ v 9 < 0 := by rw [hu9]; exact nI_pos (by have := hrl.nc.2.2; omega)
    cases hfi : z_fi (S.w 1) x1 (S.us 1) 0 with
    | none =>
      have hf : m_findF (c 10) x1 24 16 < 0 := by rw [show m_findF (c 10) x1 24 16 = -1 from hrl.s1.fn hfi]; decide
      refine hm_calli hS hM hA (va_runV (As := [.int x1, .int x2, .int x3]) (rest := []) X (c_rf_nf l D k f (aF a 0) S.u (aF a) S.us a.g S.w (cm a S) x1 x2 x3 (hcs.F 0 rfl) (hcs.F 5 rfl) (hcs.F 15 rfl) hlog (o_pm_le hrl.s1.pm) (hcs.rows (by decide) (o_pm_le hrl.s1.pm)) hfi H.size) (hm_cwV hts me_GrantServer_refresh wl_GrantServerLaw_41 rfl rfl ⟨Nat.le_of_ble_eq_true rfl, Nat.le_of_ble_eq_true rfl⟩) (hm_preV hM hK (hcs.F 0 rfl) rfl) rfl rfl hl.1 rfl (lv_room (Nat.le_of_ble_eq_true rfl)) d_law_364 ⟨(show C + 0 ≤ 600000 by omega), (show Sl + 0 ≤ 7302250 by omega)⟩) (fun r103 f101 H locs p102 hM hS => ?_)
      obtain ⟨rfl, rfl⟩ := p102
      refine lv_aload_n hx hb d_law_367 rfl (lv_at hl 1 rfl) ?_
      refine lv_aload_n hx hb d_law_368 rfl (lv_at hl 3 rfl) ?_
      refine lv_iload_n hx hb d_law_369 rfl (lv_at hl 0 rfl) ?_
      refine lv_iconst (v := 1) hx hb d_law_370 (by decide) ?_
      refine lv_iadd hx hb d_law_371 ?_
      refine hm_top (z := nI (4 + 6 * B + 1)) (nI_add _ 1) ?_
      refine va_sld hx hb hX hbl hbA hS (vp_in_nI (n := 4 + 6 * B + 1) (N := L) (by omega) (by omega)) d_law_372 ?_
      refine hm_top (z := xs (4 + 6 * B + 1)) (by rw [nI_clamp (by omega)]) ?_
      refine hm_top (z := x1) ex1 ?_
      refine lv_aload_n hx hb d_law_373 rfl (lv_at hl 3 rfl) ?_
      refine lv_iload_n hx hb d_law_374 rfl (lv_at hl 0 rfl) ?_
      refine lv_iconst (v := 2) hx hb d_law_375 (by decide) ?_
      refine lv_iadd hx hb d_law_376 ?_
      refine hm_top (z := nI (4 + 6 * B + 2)) (nI_add _ 2) ?_
      refine va_sld hx hb hX hbl hbA hS (vp_in_nI (n := 4 + 6 * B + 2) (N := L) (by omega) (by omega)) d_law_377 ?_
      refine hm_top (z := xs (4 + 6 * B + 2)) (by rw [nI_clamp (by omega)]) ?_
      refine hm_top (z := x2) ex2 ?_
      refine lv_aload_n hx hb d_law_378 rfl (lv_at hl 3 rfl) ?_
      refine lv_iload_n hx hb d_law_379 rfl (lv_at hl 0 rfl) ?_
      refine lv_iconst (v := 3) hx hb d_law_380 (by decide) ?_
      refine lv_iadd hx hb d_law_381 ?_
      refine hm_top (z := nI (4 + 6 * B + 3)) (nI_add _ 3) ?_
      refine va_sld hx hb hX hbl hbA hS (vp_in_nI (n := 4 + 6 * B + 3) (N := L) (by omega) (by omega)) d_law_382 ?_
      refine hm_top (z := xs (4 + 6 * B + 3)) (by rw [nI_clamp (by omega)]) ?_
      refine hm_top (z := x3) ex3 ?_
      refine hm_calli hS hM hA (va_runV (As := [.int x1, .int x2, .int x3]) (rest := [.int (-3)]) X (m_c_rf_nf l D k f h9 adM sk v c x1 x2 x3 hmo hu hf H.size) (hm_cwV hts me_GrantServerModel_refresh wl_GrantServerLaw_44 rfl rfl ⟨Nat.le_of_ble_eq_true rfl, Nat.le_of_ble_eq_true rfl⟩) (hm_preV hM hK hmo.1 rfl) rfl rfl hl.1 rfl (lv_room (Nat.le_of_ble_eq_true rfl)) d_law_383 ⟨(show C + 0 + 0 ≤ 600000 by omega), (show Sl + 0 + 0 ≤ 7302250 by omega)⟩) (fun r106 f104 H locs p105 hM hS => ?_)
      obtain ⟨rfl, rfl⟩ := p105
      refine lv_icmp_eq (tgt := 749) hx hb d_law_386 (by decide) (fun h107 => ?_) (fun h107 => ?_)
      · refine W.widen (k := C + 1) (n := Sl + 3) (by omega) (by omega) ?_
        exact next _ _ _ _ _ _ _ _ rfl ⟨hcs, hdj, hmo, hrl.same⟩ hM hS
      · exact absurd rfl h107
    | some i =>
      obtain ⟨hi9, hf⟩ := hrl.s1.fs hfi
      have hf : m_findF (c 10) x1 24 16 = nI (sg 1 i) := hf
      have hiN : i < gs_N 1 := Nat.lt_of_lt_of_le hi9 (o_pm_le hrl.s1.pm)
      have Rw := hrl.s1.row i hi9
      have Lk := hrl.s1.lt (by decide) hi9
      have Lk2 : sg 1 i < 16 + 24 := Lk.2.1
      by_cases ho : S.w 1 i 1 = S.u 13
      · have hom : c 11 (sg 1 i) = v 9 := Rw.n1.symm.trans (ho.trans hrl.us.1)
        obtain ⟨q1, q2⟩ := Rw.k1 rfl
        obtain ⟨t, et⟩ : ∃ t, S.fm 1 i = some t := Option.ne_none_iff_exists'.mp q2
        have ht := hcs.2.2.2.2 1 i t (by decide) hiN et
        have hft : c 15 (sg 1 i) = nI t := by rcases Rw.fa with z | ⟨t2, z1, z2, z3⟩; (· rw [et] at z; cases z.1); (· rw [et] at z1; cases z1; exact z3)
        have ht5 : t < 520 := by have := hrl.nf.1; omega
        by_cases hs6 : S.w 1 i 6 = 0
        · have efv : o_fv S 2 1 i = S.fa t 2 := by unfold o_fv; rw [et]
          have eac : z_act (S.w 1 i) (cm a S 1 i) (S.fa t 2) (S.u 15) = m_act v c (sg 1 i) := by rw [← efv]; exact hrl.act (by omega) (by decide) hi9 (cm_n 1 i)
          have efa := hrl.fa t ht
          have eA : a_rf (z_act (S.w 1 i) (cm a S 1 i) (S.fa t 2) (S.u 15)) x2 (S.fa t 0) (z_free ((z_fi (S.w 0) x3 (S.us 0) 0).bind (a.g 0)) ((z_fi (S.w 1) x3 (S.us 1) 0).bind (a.g 1)) x3) (z_full (S.us 1) 24) (z_full (S.us 2) 24) = a_rf (m_act v c (sg 1 i)) x2 (c 19 t) (m_free (c 10) x3) (m_fu (m_roomF (c 10) 24 16)) (m_fu (m_roomF (c 10) 24 40)) := by rw [eac, efa.1, hrl.free hcs.gx x3, show z_full (S.us 1) 24 = m_fu (m_roomF (c 10) 24 16) from hrl.s1.fl (by decide), show z_full (S.us 2) 24 = m_fu (m_roomF (c 10) 24 40) from hrl.s2.fl (by decide)]
          have hov : c 14 (sg 1 i) = 0 := Rw.ov.mpr ⟨hs6, q1⟩
          by_cases h0 : a_rf (z_act (S.w 1 i) (cm a S 1 i) (S.fa t 2) (S.u 15)) x2 (S.fa t 0) (z_free ((z_fi (S.w 0) x3 (S.us 0) 0).bind (a.g 0)) ((z_fi (S.w 1) x3 (S.us 1) 0).bind (a.g 1)) x3) (z_full (S.us 1) 24) (z_full (S.us 2) 24) = 0
          · obtain ⟨k1, k2, k3, k8, k4⟩ := a_rf_ok h0
            obtain ⟨k5, k6, k7⟩ := a_ref_ok k4
            obtain ⟨f1, f2, f3⟩ := z_free_ok k5
            have hL1 : S.us 1 < 24 := z_full24.mp (Decidable.not_not.mp (fun z => k6 (z_full_b z)))
            have hL2 : S.us 2 < 24 := z_full24.mp (Decidable.not_not.mp (fun z => k7 (z_full_b z)))
            have hn1 : z_fi (S.w 1) x3 (S.us 1) 0 = none := (o_bind (u := S.us 1) (fun i h => (hrl.s1.fs h).1) (fun i h => hcs.gx 1 (by decide) i (Nat.lt_trans h hL1))).mp f3
            obtain ⟨ja, ea, a1, a2, a3⟩ := o_room_s hrl.s1.pm hL1
            have a1 : 16 ≤ ja := a1
            have a2 : ja < 16 + 24 := a2
            obtain ⟨jb, eb, b1, b2, b3⟩ := o_room_s hrl.s2.pm hL2
            have b1 : 40 ≤ jb := b1
            have b2 : jb < 40 + 24 := b2
            obtain ⟨M, hM1, hM2, hM3, hM4⟩ := hrl.md
            obtain ⟨T, hT1, hT2, hT3⟩ := hrl.tm
            obtain ⟨lx, ly, lz, hlx, hly, hlz, e1, e2, e3, e4, e5, e6⟩ := hrl.li
            have hn4 := hrl.nc.2.2
            have hru : S.us 1 < gs_N 1 := hL1
            have hrv : S.us 2 < gs_N 2 := hL2
            obtain ⟨qs, hqs, es⟩ := efa.2.2.2.1
            obtain ⟨q9, hq9, eq9⟩ := efa.2.2.2.2
            obtain ⟨sp, hsp, hs4⟩ : ∃ sp : Nat, sp ≤ 15 ∧ (if x2 = 0 then S.fa t 0 else x2) = nI sp := by split; (· exact ⟨qs, hqs, es⟩); (· exact o_15 k2 k3)
            obtain ⟨K, hKd, hvl, hsz⟩ := o_K (a := ju) (b := q9) (d := T + ly) (e := M + 1) (g := sp) (by omega) (by omega) (by omega) (by omega) (by omega)
            have hz := hsz
            unfold z_tot at hz
            refine hm_calli hS hM hA (va_runV (As := [.int x1, .int x2, .int x3]) (rest := []) X (c_rf l D k sA sV f (aF a 0) S.u (aF a) S.us a.g S.w (cm a S) x1 x2 x3 i (a.A (1, 1, i)) (a.A (2, t, 0)) (S.fa t 0) (S.fa t 2) (a.A (1, 1, S.us 1)) (S.w 1 (S.us 1)) (cm a S 1 (S.us 1)) (a.A (1, 2, S.us 2)) (S.w 2 (S.us 2)) (cm a S 2 (S.us 2)) (nI (S.tn 2)) (S.tx 2) (nI (S.tn 1)) (S.tx 1) S.ky (o_5 ju q9 (T + ly) (M + 1) sp) K (hcs.F 0 rfl) (hcs.F 4 rfl) (hcs.F 14 rfl) (hcs.F 5 rfl) (hcs.F 15 rfl) (hcs.F 6 rfl) (hcs.F 16 rfl) (hcs.R (s := 1) (by decide) hiN) (c_y_in eq9 (hcs.Y ht)) (hcs.R (s := 1) (by decide) hru) (hcs.R (s := 2) (by decide) hrv) (hcs.F 9 rfl) (hcs.F 19 rfl) (hcs.F 8 rfl) (hcs.F 18 rfl) (hcs.F 11 rfl) hcs.ap hlog (o_pm_le hrl.s1.pm) (hcs.rows (by decide) (o_pm_le hrl.s1.pm)) hfi (hcs.g (s := 1) (by decide) hiN) ho hs6 (cm_s et) (o_pm_le hrl.s0.pm) (hcs.rows (by decide) (o_pm_le hrl.s0.pm)) (o_pm_le hrl.s2.pm) h0 (ho.trans (hrl.us.1.trans hu9)) hs4 (hcs.g (s := 1) (by decide) hru) (hcs.g (s := 2) (by decide) hrv) (hcs.rne (s := 1) (s' := 2) (by decide) hru (by decide) hrv (fun z => absurd z.1 (by decide))) (hcs.rne (s := 1) (s' := 1) (by decide) hiN (by decide) hru (fun z => absurd z.2 (Nat.ne_of_lt hi9))) (hcs.rne (s := 1) (s' := 2) (by decide) hiN (by decide) hrv (fun z => absurd z.1 (by decide))) (by rw [hT2, e3, nI_add]; rfl) (by rw [hM2]; exact nI_1 M) hKd hvl hsz H.size) (hm_cwV hts me_GrantServer_refresh wl_GrantServerLaw_41 rfl rfl ⟨Nat.le_of_ble_eq_true rfl, Nat.le_of_ble_eq_true rfl⟩) (hm_preVZ hZ hS hA hM hK (hcs.F 0 rfl) rfl) rfl rfl hl.1 rfl (lv_room (Nat.le_of_ble_eq_true rfl)) d_law_364 ⟨(show C + 0 ≤ 600000 by omega), (show Sl + 0 ≤ 7302250 by omega)⟩) (fun r103 f101 H locs p102 hM hS => ?_)
            obtain ⟨x104, x105, rfl, h106, h107, h108, g109, g110, g111, g112, g113, g114, g115, g116, g117, g118, g119, g120, hfr121⟩ := p102
            have hfrc : ∀ (q : Nat) (x : va_E), (∀ n, n ∈ [((0, 0, 0) : cX), ((0, 5, 0) : cX), ((0, 15, 0) : cX), ((1, 1, S.us 1) : cX), ((0, 6, 0) : cX), ((0, 16, 0) : cX), ((1, 2, S.us 2) : cX), ((0, 9, 0) : cX), ((0, 19, 0) : cX), ((0, 8, 0) : cX), ((0, 18, 0) : cX), ((1, 1, i) : cX)] → c_ok S n → q ≠ a.A n) → f q = some x → f101 q = some x := fun zq zx hh hq => hfr121 zq zx (hh (0, 0, 0) (by simp) ⟨rfl, rfl⟩) (hh (0, 5, 0) (by simp) ⟨rfl, rfl⟩) (hh (0, 15, 0) (by simp) ⟨rfl, rfl⟩) (hh (1, 1, S.us 1) (by simp) ⟨by decide, hru⟩) (hh (0, 6, 0) (by simp) ⟨rfl, rfl⟩) (hh (0, 16, 0) (by simp) ⟨rfl, rfl⟩) (hh (1, 2, S.us 2) (by simp) ⟨by decide, hrv⟩) (hh (0, 9, 0) (by simp) ⟨rfl, rfl⟩) (hh (0, 19, 0) (by simp) ⟨rfl, rfl⟩) (hh (0, 8, 0) (by simp) ⟨rfl, rfl⟩) (hh (0, 18, 0) (by simp) ⟨rfl, rfl⟩) (hh (1, 1, i) (by simp) ⟨by decide, hiN⟩) hq
            have hcs : cs k f101 a (cSm (upd S.u 14 (nI (M + 1))) S.nc S.cl (va_up (va_up S.us 1 (S.us 1 + 1)) 2 (S.us 2 + 1)) (va_up (va_up (va_up S.w 1 (va_up (S.w 1) i (upd (S.w 1 i) 6 1))) 1 (va_up (va_up (S.w 1) i (upd (S.w 1 i) 6 1)) (S.us 1) (upd (upd (upd (upd (upd (upd (S.w 1 (S.us 1)) 0 x3) 1 (nI ju)) 2 (S.fa t 0)) 3 (S.u 15 + S.u 2)) 6 0) 7 0))) 2 (va_up (S.w 2) (S.us 2) (upd (upd (upd (upd (upd (upd (S.w 2 (S.us 2)) 0 (nI (M + 1))) 1 (nI ju)) 2 (nI sp)) 3 (nI (T + ly))) 6 0) 7 0))) (va_up (va_up S.fm 1 (va_up (S.fm 1) (S.us 1) (some t))) 2 (va_up (S.fm 2) (S.us 2) (some t))) S.nf S.fa (va_up (va_up S.tn 2 (z_tot K)) 1 ((z_tot K * 8 + 5) / 6 + 11)) (va_up (va_up S.tx 2 x104) 1 x105) S.rd S.rs S.ra S.ky) := by
              refine hcs.up [((0, 0, 0) : cX), ((0, 5, 0) : cX), ((0, 15, 0) : cX), ((1, 1, S.us 1) : cX), ((0, 6, 0) : cX), ((0, 16, 0) : cX), ((1, 2, S.us 2) : cX), ((0, 9, 0) : cX), ((0, 19, 0) : cX), ((0, 8, 0) : cX), ((0, 18, 0) : cX), ((1, 1, i) : cX)] (fun n hn hok => ?_) hfrc (c_same (fun i hi hn => ?_) (fun s i _ _ hn => ⟨rw5_ne (fun z => hn (by simp [z.1, z.2])) (fun z => hn (by simp [z.1, z.2])) (fun z => hn (by simp [z.1, z.2])), rw3_ne (fun z => hn (by simp [z.1, z.2])) (fun z => hn (by simp [z.1, z.2]))⟩) (fun t _ => rfl) rfl) rfl rfl (fun s i t2 h1 h2 h3 => rw3_fm h3 (fun z => by cases z; exact ht) (fun z => by cases z; exact ht) (hcs.2.2.2.2 s i t2 h1 h2))
              · simp only [List.mem_cons, List.not_mem_nil, or_false] at hn
                rcases hn with hn | hn | hn | hn | hn | hn | hn | hn | hn | hn | hn | hn
                · subst hn; exact g109
                · subst hn; exact g110
                · subst hn; exact g111
                · subst hn; exact c_r_at rfl (show va_up (va_up (S.w 1) i (upd (S.w 1 i) 6 1)) (S.us 1) (upd (upd (upd (upd (upd (upd (S.w 1 (S.us 1)) 0 x3) 1 (nI ju)) 2 (S.fa t 0)) 3 (S.u 15 + S.u 2)) 6 0) 7 0) (S.us 1) = upd (upd (upd (upd (upd (upd (S.w 1 (S.us 1)) 0 x3) 1 (nI ju)) 2 (S.fa t 0)) 3 (S.u 15 + S.u 2)) 6 0) 7 0 from va_up_s) (show va_up (S.fm 1) (S.us 1) (some t) (S.us 1) = some t from va_up_s) rfl g112
                · subst hn; exact g113
                · subst hn; exact g114
                · subst hn; exact c_r_at rfl (show va_up (S.w 2) (S.us 2) (upd (upd (upd (upd (upd (upd (S.w 2 (S.us 2)) 0 (nI (M + 1))) 1 (nI ju)) 2 (nI sp)) 3 (nI (T + ly))) 6 0) 7 0) (S.us 2) = upd (upd (upd (upd (upd (upd (S.w 2 (S.us 2)) 0 (nI (M + 1))) 1 (nI ju)) 2 (nI sp)) 3 (nI (T + ly))) 6 0) 7 0 from va_up_s) (show va_up (S.fm 2) (S.us 2) (some t) (S.us 2) = some t from va_up_s) rfl g115
                · subst hn; exact g116
                · subst hn; exact g117
                · subst hn; exact g118
                · subst hn; exact g119
                · subst hn; exact c_r_at rfl (show va_up (va_up (S.w 1) i (upd (S.w 1 i) 6 1)) (S.us 1) (upd (upd (upd (upd (upd (upd (S.w 1 (S.us 1)) 0 x3) 1 (nI ju)) 2 (S.fa t 0)) 3 (S.u 15 + S.u 2)) 6 0) 7 0) i = upd (S.w 1 i) 6 1 from (if_neg (Nat.ne_of_lt hi9)).trans va_up_s) (show va_up (S.fm 1) (S.us 1) (some t) i = S.fm 1 i from if_neg (Nat.ne_of_lt hi9)) rfl g120
              · rcases c_ixs hi with r | r | r | r | r | r | r | r | r | r | r | r | r | r | r | r | r | r <;> subst r <;> first | rfl | exact absurd (by simp) hn
            have hmo := cs.mo hdj hfrc hmo
            have hdj := dj_cv (S' := cSm (upd S.u 14 (nI (M + 1))) S.nc S.cl (va_up (va_up S.us 1 (S.us 1 + 1)) 2 (S.us 2 + 1)) (va_up (va_up (va_up S.w 1 (va_up (S.w 1) i (upd (S.w 1 i) 6 1))) 1 (va_up (va_up (S.w 1) i (upd (S.w 1 i) 6 1)) (S.us 1) (upd (upd (upd (upd (upd (upd (S.w 1 (S.us 1)) 0 x3) 1 (nI ju)) 2 (S.fa t 0)) 3 (S.u 15 + S.u 2)) 6 0) 7 0))) 2 (va_up (S.w 2) (S.us 2) (upd (upd (upd (upd (upd (upd (S.w 2 (S.us 2)) 0 (nI (M + 1))) 1 (nI ju)) 2 (nI sp)) 3 (nI (T + ly))) 6 0) 7 0))) (va_up (va_up S.fm 1 (va_up (S.fm 1) (S.us 1) (some t))) 2 (va_up (S.fm 2) (S.us 2) (some t))) S.nf S.fa (va_up (va_up S.tn 2 (z_tot K)) 1 ((z_tot K * 8 + 5) / 6 + 11)) (va_up (va_up S.tx 2 x104) 1 x105) S.rd S.rs S.ra S.ky) rfl rfl hdj
            refine lv_aload_n hx hb d_law_367 rfl (lv_at hl 1 rfl) ?_
            refine lv_aload_n hx hb d_law_368 rfl (lv_at hl 3 rfl) ?_
            refine lv_iload_n hx hb d_law_369 rfl (lv_at hl 0 rfl) ?_
            refine lv_iconst (v := 1) hx hb d_law_370 (by decide) ?_
            refine lv_iadd hx hb d_law_371 ?_
            refine hm_top (z := nI (4 + 6 * B + 1)) (nI_add _ 1) ?_
            refine va_sld hx hb hX hbl hbA hS (vp_in_nI (n := 4 + 6 * B + 1) (N := L) (by omega) (by omega)) d_law_372 ?_
            refine hm_top (z := xs (4 + 6 * B + 1)) (by rw [nI_clamp (by omega)]) ?_
            refine hm_top (z := x1) ex1 ?_
            refine lv_aload_n hx hb d_law_373 rfl (lv_at hl 3 rfl) ?_
            refine lv_iload_n hx hb d_law_374 rfl (lv_at hl 0 rfl) ?_
            refine lv_iconst (v := 2) hx hb d_law_375 (by decide) ?_
            refine lv_iadd hx hb d_law_376 ?_
            refine hm_top (z := nI (4 + 6 * B + 2)) (nI_add _ 2) ?_
            refine va_sld hx hb hX hbl hbA hS (vp_in_nI (n := 4 + 6 * B + 2) (N := L) (by omega) (by omega)) d_law_377 ?_
            refine hm_top (z := xs (4 + 6 * B + 2)) (by rw [nI_clamp (by omega)]) ?_
            refine hm_top (z := x2) ex2 ?_
            refine lv_aload_n hx hb d_law_378 rfl (lv_at hl 3 rfl) ?_
            refine lv_iload_n hx hb d_law_379 rfl (lv_at hl 0 rfl) ?_
            refine lv_iconst (v := 3) hx hb d_law_380 (by decide) ?_
            refine lv_iadd hx hb d_law_381 ?_
            refine hm_top (z := nI (4 + 6 * B + 3)) (nI_add _ 3) ?_
            refine va_sld hx hb hX hbl hbA hS (vp_in_nI (n := 4 + 6 * B + 3) (N := L) (by omega) (by omega)) d_law_382 ?_
            refine hm_top (z := xs (4 + 6 * B + 3)) (by rw [nI_clamp (by omega)]) ?_
            refine hm_top (z := x3) ex3 ?_
            refine hm_calli hS hM hA (va_runV (As := [.int x1, .int x2, .int x3]) (rest := [.int (nI ((o_5 ju q9 (T + ly) (M + 1) sp) 3))]) X (m_c_rf l D k f101 h9 adM sk v c x1 x2 x3 (sg 1 i) t (o_5 ju q9 (T + ly) (M + 1) sp) K ja jb hmo hu hf (by omega) hom hov hft ht5 (eA.symm.trans h0) hu9 (by rw [← efa.1]; exact hs4) (efa.2.1.symm.trans eq9) ea eb (by omega) (by omega) (by rw [hT3, e4, nI_add]; rfl) (by rw [hM3]; exact nI_1 M) hKd hvl hsz H.size) (hm_cwV hts me_GrantServerModel_refresh wl_GrantServerLaw_44 rfl rfl ⟨Nat.le_of_ble_eq_true rfl, Nat.le_of_ble_eq_true rfl⟩) (hm_preV hM hK hmo.1 rfl) rfl rfl hl.1 rfl (lv_room (Nat.le_of_ble_eq_true rfl)) d_law_383 ⟨(show C + 0 + 0 ≤ 600000 by omega), (show Sl + 0 + 0 ≤ 7302250 by omega)⟩) (fun r124 f122 H locs p123 hM hS => ?_)
            obtain ⟨x125, x126, rfl, h127, h128, h129, hmo, hfr130⟩ := p123
            have hcs := hcs.keep hdj hfr130
            refine lv_icmp_eq (tgt := 749) hx hb d_law_386 (by decide) (fun h131 => ?_) (fun h131 => ?_)
            · refine W.widen (k := C + 1) (n := Sl + 3) (by omega) (by omega) ?_
              exact next _ _ _ _ _ _ _ _ rfl ⟨hcs, hdj, hmo, (((hrl.mark1 hi9).give (by omega) (M := M) (p := sp) (t := t) (x := x3) (o := nI ju) (e1 := v 4 + v 3) (e2 := v 4 + v 2) (by omega) hM2 hM4 a1 (by omega) a3 b1 (by omega) b3 (o_one f1) (z_fi_mark hn1) hsp ht rfl rfl rfl (show S.u 15 + S.u 2 = v 4 + v 3 by rw [hT2, hT3, e5, e6]) rfl rfl rfl rfl rfl (show nI (T + ly) = v 4 + v 2 by rw [hT3, e4, nI_add]) rfl rfl (by omega) (o_out hrl.sk h106 h107 h108 h127 h128 h129)))⟩ hM hS
            · exact absurd rfl h131
          · refine hm_calli hS hM hA (va_runV (As := [.int x1, .int x2, .int x3]) (rest := []) X (c_rf_no l D k f (aF a 0) S.u (aF a) S.us a.g S.w (cm a S) x1 x2 x3 i (a.A (1, 1, i)) (a.A (2, t, 0)) (S.fa t 0) (S.fa t 1) (S.fa t 2) (hcs.F 0 rfl) (hcs.F 4 rfl) (hcs.F 14 rfl) (hcs.F 5 rfl) (hcs.F 15 rfl) (hcs.F 6 rfl) (hcs.F 16 rfl) (hcs.R (s := 1) (by decide) hiN) (hcs.Y ht) hlog (o_pm_le hrl.s1.pm) (hcs.rows (by decide) (o_pm_le hrl.s1.pm)) hfi (hcs.g (s := 1) (by decide) hiN) ho hs6 (cm_s et) (o_pm_le hrl.s0.pm) (hcs.rows (by decide) (o_pm_le hrl.s0.pm)) (o_pm_le hrl.s2.pm) h0 H.size) (hm_cwV hts me_GrantServer_refresh wl_GrantServerLaw_41 rfl rfl ⟨Nat.le_of_ble_eq_true rfl, Nat.le_of_ble_eq_true rfl⟩) (hm_preV hM hK (hcs.F 0 rfl) rfl) rfl rfl hl.1 rfl (lv_room (Nat.le_of_ble_eq_true rfl)) d_law_364 ⟨(show C + 0 ≤ 600000 by omega), (show Sl + 0 ≤ 7302250 by omega)⟩) (fun r103 f101 H locs p102 hM hS => ?_)
            obtain ⟨rfl, rfl⟩ := p102
            refine lv_aload_n hx hb d_law_367 rfl (lv_at hl 1 rfl) ?_
            refine lv_aload_n hx hb d_law_368 rfl (lv_at hl 3 rfl) ?_
            refine lv_iload_n hx hb d_law_369 rfl (lv_at hl 0 rfl) ?_
            refine lv_iconst (v := 1) hx hb d_law_370 (by decide) ?_
            refine lv_iadd hx hb d_law_371 ?_
            refine hm_top (z := nI (4 + 6 * B + 1)) (nI_add _ 1) ?_
            refine va_sld hx hb hX hbl hbA hS (vp_in_nI (n := 4 + 6 * B + 1) (N := L) (by omega) (by omega)) d_law_372 ?_
            refine hm_top (z := xs (4 + 6 * B + 1)) (by rw [nI_clamp (by omega)]) ?_
            refine hm_top (z := x1) ex1 ?_
            refine lv_aload_n hx hb d_law_373 rfl (lv_at hl 3 rfl) ?_
            refine lv_iload_n hx hb d_law_374 rfl (lv_at hl 0 rfl) ?_
            refine lv_iconst (v := 2) hx hb d_law_375 (by decide) ?_
            refine lv_iadd hx hb d_law_376 ?_
            refine hm_top (z := nI (4 + 6 * B + 2)) (nI_add _ 2) ?_
            refine va_sld hx hb hX hbl hbA hS (vp_in_nI (n := 4 + 6 * B + 2) (N := L) (by omega) (by omega)) d_law_377 ?_
            refine hm_top (z := xs (4 + 6 * B + 2)) (by rw [nI_clamp (by omega)]) ?_
            refine hm_top (z := x2) ex2 ?_
            refine lv_aload_n hx hb d_law_378 rfl (lv_at hl 3 rfl) ?_
            refine lv_iload_n hx hb d_law_379 rfl (lv_at hl 0 rfl) ?_
            refine lv_iconst (v := 3) hx hb d_law_380 (by decide) ?_
            refine lv_iadd hx hb d_law_381 ?_
            refine hm_top (z := nI (4 + 6 * B + 3)) (nI_add _ 3) ?_
            refine va_sld hx hb hX hbl hbA hS (vp_in_nI (n := 4 + 6 * B + 3) (N := L) (by omega) (by omega)) d_law_382 ?_
            refine hm_top (z := xs (4 + 6 * B + 3)) (by rw [nI_clamp (by omega)]) ?_
            refine hm_top (z := x3) ex3 ?_
            refine hm_calli hS hM hA (va_runV (As := [.int x1, .int x2, .int x3]) (rest := [.int (a_rf (z_act (S.w 1 i) ((cm a S) 1 i) (S.fa t 2) (S.u 15)) x2 (S.fa t 0) (z_free ((z_fi (S.w 0) x3 (S.us 0) 0).bind (a.g 0)) ((z_fi (S.w 1) x3 (S.us 1) 0).bind (a.g 1)) x3) (z_full (S.us 1) 24) (z_full (S.us 2) 24))]) X (m_c_rf_no l D k f h9 adM sk v c x1 x2 x3 (sg 1 i) t hmo hu hf (by omega) hom hov hft ht5 (fun z => h0 (eA.trans z)) H.size) (hm_cwV hts me_GrantServerModel_refresh wl_GrantServerLaw_44 rfl rfl ⟨Nat.le_of_ble_eq_true rfl, Nat.le_of_ble_eq_true rfl⟩) (hm_preV hM hK hmo.1 rfl) rfl rfl hl.1 rfl (lv_room (Nat.le_of_ble_eq_true rfl)) d_law_383 ⟨(show C + 0 + 0 ≤ 600000 by omega), (show Sl + 0 + 0 ≤ 7302250 by omega)⟩) (fun r106 f104 H locs p105 hM hS => ?_)
            obtain ⟨rfl, rfl⟩ := p105
            refine lv_icmp_eq (tgt := 749) hx hb d_law_386 (by decide) (fun h107 => ?_) (fun h107 => ?_)
            · refine W.widen (k := C + 1) (n := Sl + 3) (by omega) (by omega) ?_
              exact next _ _ _ _ _ _ _ _ rfl ⟨hcs, hdj, hmo, hrl.same⟩ hM hS
            · exact absurd eA h107
        · refine hm_calli hS hM hA (va_runV (As := [.int x1, .int x2, .int x3]) (rest := []) X (c_rf_rep l D k f (aF a 0) S.u (aF a) S.us a.g S.w (cm a S) x1 x2 x3 i (a.A (1, 1, i)) (a.A (2, t, 0)) (S.fa t 0) (S.fa t 1) (S.fa t 2) (hcs.F 0 rfl) (hcs.F 5 rfl) (hcs.F 15 rfl) (hcs.R (s := 1) (by decide) hiN) (hcs.Y ht) hlog (o_pm_le hrl.s1.pm) (hcs.rows (by decide) (o_pm_le hrl.s1.pm)) hfi (hcs.g (s := 1) (by decide) hiN) ho hs6 (cm_s et) H.size) (hm_cwV hts me_GrantServer_refresh wl_GrantServerLaw_41 rfl rfl ⟨Nat.le_of_ble_eq_true rfl, Nat.le_of_ble_eq_true rfl⟩) (hm_preV hM hK (hcs.F 0 rfl) rfl) rfl rfl hl.1 rfl (lv_room (Nat.le_of_ble_eq_true rfl)) d_law_364 ⟨(show C + 0 ≤ 600000 by omega), (show Sl + 0 ≤ 7302250 by omega)⟩) (fun r103 f101 H locs p102 hM hS => ?_)
          obtain ⟨rfl, g104, hfr105⟩ := p102
          have hfrc : ∀ (q : Nat) (x : va_E), (∀ n, n ∈ [((2, t, 0) : cX)] → c_ok S n → q ≠ a.A n) → f q = some x → f101 q = some x := fun zq zx hh hq => hfr105 zq zx (hh (2, t, 0) (by simp) ⟨ht, rfl⟩) hq
          have hcs : cs k f101 a (cSm S.u S.nc S.cl S.us S.w S.fm S.nf (va_up S.fa t (upd (S.fa t) 2 1)) S.tn S.tx S.rd S.rs S.ra S.ky) := by
            refine hcs.up [((2, t, 0) : cX)] (fun n hn hok => ?_) hfrc (c_same (fun i hi hn => ?_) (fun s i _ _ _ => ⟨rfl, rfl⟩) (fun t' hn => if_neg (fun z => hn (by simp [z]))) rfl) rfl rfl hcs.2.2.2.2
            · simp only [List.mem_cons, List.not_mem_nil, or_false] at hn
              rcases hn with hn
              · subst hn; exact c_y_at (show va_up S.fa t (upd (S.fa t) 2 1) t = upd (S.fa t) 2 1 from va_up_s) g104
            · rcases c_ixs hi with r | r | r | r | r | r | r | r | r | r | r | r | r | r | r | r | r | r <;> subst r <;> first | rfl | exact absurd (by simp) hn
          have hmo := cs.mo hdj hfrc hmo
          have hdj := dj_cv (S' := cSm S.u S.nc S.cl S.us S.w S.fm S.nf (va_up S.fa t (upd (S.fa t) 2 1)) S.tn S.tx S.rd S.rs S.ra S.ky) rfl rfl hdj
          refine lv_aload_n hx hb d_law_367 rfl (lv_at hl 1 rfl) ?_
          refine lv_aload_n hx hb d_law_368 rfl (lv_at hl 3 rfl) ?_
          refine lv_iload_n hx hb d_law_369 rfl (lv_at hl 0 rfl) ?_
          refine lv_iconst (v := 1) hx hb d_law_370 (by decide) ?_
          refine lv_iadd hx hb d_law_371 ?_
          refine hm_top (z := nI (4 + 6 * B + 1)) (nI_add _ 1) ?_
          refine va_sld hx hb hX hbl hbA hS (vp_in_nI (n := 4 + 6 * B + 1) (N := L) (by omega) (by omega)) d_law_372 ?_
          refine hm_top (z := xs (4 + 6 * B + 1)) (by rw [nI_clamp (by omega)]) ?_
          refine hm_top (z := x1) ex1 ?_
          refine lv_aload_n hx hb d_law_373 rfl (lv_at hl 3 rfl) ?_
          refine lv_iload_n hx hb d_law_374 rfl (lv_at hl 0 rfl) ?_
          refine lv_iconst (v := 2) hx hb d_law_375 (by decide) ?_
          refine lv_iadd hx hb d_law_376 ?_
          refine hm_top (z := nI (4 + 6 * B + 2)) (nI_add _ 2) ?_
          refine va_sld hx hb hX hbl hbA hS (vp_in_nI (n := 4 + 6 * B + 2) (N := L) (by omega) (by omega)) d_law_377 ?_
          refine hm_top (z := xs (4 + 6 * B + 2)) (by rw [nI_clamp (by omega)]) ?_
          refine hm_top (z := x2) ex2 ?_
          refine lv_aload_n hx hb d_law_378 rfl (lv_at hl 3 rfl) ?_
          refine lv_iload_n hx hb d_law_379 rfl (lv_at hl 0 rfl) ?_
          refine lv_iconst (v := 3) hx hb d_law_380 (by decide) ?_
          refine lv_iadd hx hb d_law_381 ?_
          refine hm_top (z := nI (4 + 6 * B + 3)) (nI_add _ 3) ?_
          refine va_sld hx hb hX hbl hbA hS (vp_in_nI (n := 4 + 6 * B + 3) (N := L) (by omega) (by omega)) d_law_382 ?_
          refine hm_top (z := xs (4 + 6 * B + 3)) (by rw [nI_clamp (by omega)]) ?_
          refine hm_top (z := x3) ex3 ?_
          refine hm_calli hS hM hA (va_runV (As := [.int x1, .int x2, .int x3]) (rest := [.int (-3)]) X (m_c_rf_rep l D k f101 h9 adM sk v c x1 x2 x3 (sg 1 i) t hmo hu hf (by omega) hom (fun z => hs6 (Rw.ov.mp z).1) hft ht5 H.size) (hm_cwV hts me_GrantServerModel_refresh wl_GrantServerLaw_44 rfl rfl ⟨Nat.le_of_ble_eq_true rfl, Nat.le_of_ble_eq_true rfl⟩) (hm_preV hM hK hmo.1 rfl) rfl rfl hl.1 rfl (lv_room (Nat.le_of_ble_eq_true rfl)) d_law_383 ⟨(show C + 0 + 0 ≤ 600000 by omega), (show Sl + 0 + 0 ≤ 7302250 by omega)⟩) (fun r108 f106 H locs p107 hM hS => ?_)
          obtain ⟨rfl, hmo, hfr109⟩ := p107
          have hcs := hcs.keep hdj hfr109
          refine lv_icmp_eq (tgt := 749) hx hb d_law_386 (by decide) (fun h110 => ?_) (fun h110 => ?_)
          · refine W.widen (k := C + 1) (n := Sl + 3) (by omega) (by omega) ?_
            exact next _ _ _ _ _ _ _ _ rfl ⟨hcs, hdj, hmo, (hrl.rev ht)⟩ hM hS
          · exact absurd rfl h110
      · refine hm_calli hS hM hA (va_runV (As := [.int x1, .int x2, .int x3]) (rest := []) X (c_rf_own l D k f (aF a 0) S.u (aF a) S.us a.g S.w (cm a S) x1 x2 x3 i (a.A (1, 1, i)) (hcs.F 0 rfl) (hcs.F 5 rfl) (hcs.F 15 rfl) (hcs.R (s := 1) (by decide) hiN) hlog (o_pm_le hrl.s1.pm) (hcs.rows (by decide) (o_pm_le hrl.s1.pm)) hfi (hcs.g (s := 1) (by decide) hiN) ho H.size) (hm_cwV hts me_GrantServer_refresh wl_GrantServerLaw_41 rfl rfl ⟨Nat.le_of_ble_eq_true rfl, Nat.le_of_ble_eq_true rfl⟩) (hm_preV hM hK (hcs.F 0 rfl) rfl) rfl rfl hl.1 rfl (lv_room (Nat.le_of_ble_eq_true rfl)) d_law_364 ⟨(show C + 0 ≤ 600000 by omega), (show Sl + 0 ≤ 7302250 by omega)⟩) (fun r103 f101 H locs p102 hM hS => ?_)
        obtain ⟨rfl, rfl⟩ := p102
        refine lv_aload_n hx hb d_law_367 rfl (lv_at hl 1 rfl) ?_
        refine lv_aload_n hx hb d_law_368 rfl (lv_at hl 3 rfl) ?_
        refine lv_iload_n hx hb d_law_369 rfl (lv_at hl 0 rfl) ?_
        refine lv_iconst (v := 1) hx hb d_law_370 (by decide) ?_
        refine lv_iadd hx hb d_law_371 ?_
        refine hm_top (z := nI (4 + 6 * B + 1)) (nI_add _ 1) ?_
        refine va_sld hx hb hX hbl hbA hS (vp_in_nI (n := 4 + 6 * B + 1) (N := L) (by omega) (by omega)) d_law_372 ?_
        refine hm_top (z := xs (4 + 6 * B + 1)) (by rw [nI_clamp (by omega)]) ?_
        refine hm_top (z := x1) ex1 ?_
        refine lv_aload_n hx hb d_law_373 rfl (lv_at hl 3 rfl) ?_
        refine lv_iload_n hx hb d_law_374 rfl (lv_at hl 0 rfl) ?_
        refine lv_iconst (v := 2) hx hb d_law_375 (by decide) ?_
        refine lv_iadd hx hb d_law_376 ?_
        refine hm_top (z := nI (4 + 6 * B + 2)) (nI_add _ 2) ?_
        refine va_sld hx hb hX hbl hbA hS (vp_in_nI (n := 4 + 6 * B + 2) (N := L) (by omega) (by omega)) d_law_377 ?_
        refine hm_top (z := xs (4 + 6 * B + 2)) (by rw [nI_clamp (by omega)]) ?_
        refine hm_top (z := x2) ex2 ?_
        refine lv_aload_n hx hb d_law_378 rfl (lv_at hl 3 rfl) ?_
        refine lv_iload_n hx hb d_law_379 rfl (lv_at hl 0 rfl) ?_
        refine lv_iconst (v := 3) hx hb d_law_380 (by decide) ?_
        refine lv_iadd hx hb d_law_381 ?_
        refine hm_top (z := nI (4 + 6 * B + 3)) (nI_add _ 3) ?_
        refine va_sld hx hb hX hbl hbA hS (vp_in_nI (n := 4 + 6 * B + 3) (N := L) (by omega) (by omega)) d_law_382 ?_
        refine hm_top (z := xs (4 + 6 * B + 3)) (by rw [nI_clamp (by omega)]) ?_
        refine hm_top (z := x3) ex3 ?_
        refine hm_calli hS hM hA (va_runV (As := [.int x1, .int x2, .int x3]) (rest := [.int (-3)]) X (m_c_rf_own l D k f h9 adM sk v c x1 x2 x3 (sg 1 i) hmo hu hf (by omega) (fun z => ho (Rw.n1.trans (z.trans hrl.us.1.symm))) H.size) (hm_cwV hts me_GrantServerModel_refresh wl_GrantServerLaw_44 rfl rfl ⟨Nat.le_of_ble_eq_true rfl, Nat.le_of_ble_eq_true rfl⟩) (hm_preV hM hK hmo.1 rfl) rfl rfl hl.1 rfl (lv_room (Nat.le_of_ble_eq_true rfl)) d_law_383 ⟨(show C + 0 + 0 ≤ 600000 by omega), (show Sl + 0 + 0 ≤ 7302250 by omega)⟩) (fun r106 f104 H locs p105 hM hS => ?_)
        obtain ⟨rfl, rfl⟩ := p105
        refine lv_icmp_eq (tgt := 749) hx hb d_law_386 (by decide) (fun h107 => ?_) (fun h107 => ?_)
        · refine W.widen (k := C + 1) (n := Sl + 3) (by omega) (by omega) ?_
          exact next _ _ _ _ _ _ _ _ rfl ⟨hcs, hdj, hmo, hrl.same⟩ hM hS
        · exact absurd rfl h107
