set_option maxRecDepth 20000 in
theorem me_GrantServerModel_check : hm_meV y_GrantServerModel_check b_GrantServerModel_check 4 (some .int) 2 := ⟨⟨(TBm 930 rfl rfl), (TBm 47 (by decide +kernel) rfl), by decide +kernel⟩, (TBm 928 (by decide +kernel) rfl), (TBm 929 (by decide +kernel) rfl)⟩
set_option maxRecDepth 20000 in
theorem me_GrantServerModel_revoke : hm_meV y_GrantServerModel_revoke b_GrantServerModel_revoke 5 (some .int) 2 := ⟨⟨(TBm 882 rfl rfl), (TBm 47 (by decide +kernel) rfl), by decide +kernel⟩, (TBm 880 (by decide +kernel) rfl), (TBm 881 (by decide +kernel) rfl)⟩
set_option maxRecDepth 20000 in
theorem me_GrantServer_check : hm_meV y_GrantServer_check b_GrantServer_check 3 (some .int) 2 := ⟨⟨(TBm 482 rfl rfl), (TBm 40 (by decide +kernel) rfl), by decide +kernel⟩, (TBm 480 (by decide +kernel) rfl), (TBm 481 (by decide +kernel) rfl)⟩
set_option maxRecDepth 20000 in
theorem me_GrantServer_revoke : hm_meV y_GrantServer_revoke b_GrantServer_revoke 4 (some .int) 2 := ⟨⟨(TBm 451 rfl rfl), (TBm 40 (by decide +kernel) rfl), by decide +kernel⟩, (TBm 449 (by decide +kernel) rfl), (TBm 450 (by decide +kernel) rfl)⟩
set_option maxRecDepth 20000 in
theorem wl_GrantServerLaw_45 : Cond.methodLink R_GrantServerLaw 45 y_GrantServer_revoke ∈ TB := TBm 448 (by decide +kernel) rfl
set_option maxRecDepth 20000 in
theorem wl_GrantServerLaw_49 : Cond.methodLink R_GrantServerLaw 49 y_GrantServerModel_revoke ∈ TB := TBm 879 (by decide +kernel) rfl
set_option maxRecDepth 20000 in
theorem wl_GrantServerLaw_54 : Cond.methodLink R_GrantServerLaw 54 y_GrantServer_check ∈ TB := TBm 479 (by decide +kernel) rfl
set_option maxRecDepth 20000 in
theorem wl_GrantServerLaw_57 : Cond.methodLink R_GrantServerLaw 57 y_GrantServerModel_check ∈ TB := TBm 927 (by decide +kernel) rfl
set_option maxHeartbeats 40000000 in
set_option maxRecDepth 100000 in
theorem lw_c5 {p : Program} {e : Env} {s : State} {m : MethodId} {below : List Frame} {meth : Method} {cd : Code} {l : Launch} {b L : Nat} {xs : Nat → Int32} {D : va_G} {k : Nat → ClassId} {A : Nat → Prop} {sA sV : Nat → Nat} {h9 : Nat} {adM : Nat → Nat} {Q : State → Prop} {sk : Int64}
    (X : CallFix p m cd code 4 s #[Value.ref b] TB R_GrantServerLaw) (hX : va_X b L xs s s.heap) (hbl : b < s.heap.size) (hbA : ¬ A b) (hK : hm_K D vwCl (tyL k) s) (hA : ∀ q, s.heap.size ≤ q → A q) (hZ : hm_Z sA sV A s s.heap)
    {f : hm} {a : cA} {S : cS} {sg : Nat → Nat → Nat} {v : Nat → Int32} {c : Nat → Nat → Int32} {B C Sl : Nat} {H : Heap} {locs : List Loc} {ls : Array Slot} (hB : B < 512) (hi : 4 + 6 * B + 6 ≤ L) (hL : L ≤ 3076) (hC : C ≤ 10000) (hSl : Sl ≤ 20000)
    (hI : lw_I k f a S h9 adM sk v c sg B) (hM : hm_W D vwCl A f H) (hS : va_S A s.heap H locs) (hl : lv_has ls 4 [(3, .int (nI (4 + 6 * B))), (2, .ref h9), (1, .ref (aF a 0)), (0, .ref b)])
    (next : ∀ (f' : hm) (a' : cA) (S' : cS) (sg' : Nat → Nat → Nat) (v' : Nat → Int32) (c' : Nat → Nat → Int32) (H' : Heap) (locs' : List Loc), aF a' 0 = aF a 0 → lw_I k f' a' S' h9 adM sk v' c' sg' (B + 1) → hm_W D vwCl A f' H' → va_S A s.heap H' locs' → W p l e room_1 s m #[Value.ref b] below meth cd H' locs' (C + 1) (Sl + 3) Q (F0 m 749 ls [])) :
    W p l e room_1 s m #[Value.ref b] below meth cd H locs C Sl Q (F0 m 391 ls []) := by
  obtain ⟨hcs, hdj, hmo, hrl⟩ := hI
  have hx := X.1; have hb := X.2.1; have hml := X.2.2.1; have hown := X.2.2.2.1; have hts := X.2.2.2.2
  obtain ⟨x1, ex1⟩ : ∃ z, xs (4 + 6 * B + 1) = z := ⟨_, rfl⟩
  obtain ⟨x2, ex2⟩ : ∃ z, xs (4 + 6 * B + 2) = z := ⟨_, rfl⟩
  obtain ⟨x3, ex3⟩ : ∃ z, xs (4 + 6 * B + 3) = z := ⟨_, rfl⟩
  obtain ⟨x4, ex4⟩ : ∃ z, xs (4 + 6 * B + 4) = z := ⟨_, rfl⟩
  obtain ⟨x5, ex5⟩ : ∃ z, xs (4 + 6 * B + 5) = z := ⟨_, rfl⟩
  refine lv_aload_n hx hb d_law_391 rfl (lv_at hl 2 rfl) ?_
  refine lv_aload_n hx hb d_law_392 rfl (lv_at hl 3 rfl) ?_
  refine lv_iload_n hx hb d_law_393 rfl (lv_at hl 0 rfl) ?_
  refine lv_iconst (v := 1) hx hb d_law_394 (by decide) ?_
  refine lv_iadd hx hb d_law_395 ?_
  refine hm_top (z := nI (4 + 6 * B + 1)) (nI_add _ 1) ?_
  refine va_sld hx hb hX hbl hbA hS (vp_in_nI (n := 4 + 6 * B + 1) (N := L) (by omega) (by omega)) d_law_396 ?_
  refine hm_top (z := xs (4 + 6 * B + 1)) (by rw [nI_clamp (by omega)]) ?_
  refine hm_top (z := x1) ex1 ?_
  refine lv_aload_n hx hb d_law_397 rfl (lv_at hl 3 rfl) ?_
  refine lv_iload_n hx hb d_law_398 rfl (lv_at hl 0 rfl) ?_
  refine lv_iconst (v := 2) hx hb d_law_399 (by decide) ?_
  refine lv_iadd hx hb d_law_400 ?_
  refine hm_top (z := nI (4 + 6 * B + 2)) (nI_add _ 2) ?_
  refine va_sld hx hb hX hbl hbA hS (vp_in_nI (n := 4 + 6 * B + 2) (N := L) (by omega) (by omega)) d_law_401 ?_
  refine hm_top (z := xs (4 + 6 * B + 2)) (by rw [nI_clamp (by omega)]) ?_
  refine hm_top (z := x2) ex2 ?_
  rcases hrl.us.2 with hu9 | ⟨ju, hju, hu9⟩
  · refine hm_calli hS hM hA (va_runV (As := [.int x1, .int x2]) (rest := []) X (c_revoke_no l D k f (aF a 0) S.u (aF a) x1 x2 (hcs.F 0 rfl) (hrl.us.1.trans hu9) H.size) (hm_cwV hts me_GrantServer_revoke wl_GrantServerLaw_45 rfl rfl ⟨Nat.le_of_ble_eq_true rfl, Nat.le_of_ble_eq_true rfl⟩) (hm_preV hM hK (hcs.F 0 rfl) rfl) rfl rfl hl.1 rfl (lv_room (Nat.le_of_ble_eq_true rfl)) d_law_402 ⟨(show C + 0 ≤ 600000 by omega), (show Sl + 0 ≤ 7302250 by omega)⟩) (fun r103 f101 H locs p102 hM hS => ?_)
    obtain ⟨rfl, rfl⟩ := p102
    refine lv_aload_n hx hb d_law_405 rfl (lv_at hl 1 rfl) ?_
    refine lv_aload_n hx hb d_law_406 rfl (lv_at hl 3 rfl) ?_
    refine lv_iload_n hx hb d_law_407 rfl (lv_at hl 0 rfl) ?_
    refine lv_iconst (v := 1) hx hb d_law_408 (by decide) ?_
    refine lv_iadd hx hb d_law_409 ?_
    refine hm_top (z := nI (4 + 6 * B + 1)) (nI_add _ 1) ?_
    refine va_sld hx hb hX hbl hbA hS (vp_in_nI (n := 4 + 6 * B + 1) (N := L) (by omega) (by omega)) d_law_410 ?_
    refine hm_top (z := xs (4 + 6 * B + 1)) (by rw [nI_clamp (by omega)]) ?_
    refine hm_top (z := x1) ex1 ?_
    refine lv_aload_n hx hb d_law_411 rfl (lv_at hl 3 rfl) ?_
    refine lv_iload_n hx hb d_law_412 rfl (lv_at hl 0 rfl) ?_
    refine lv_iconst (v := 2) hx hb d_law_413 (by decide) ?_
    refine lv_iadd hx hb d_law_414 ?_
    refine hm_top (z := nI (4 + 6 * B + 2)) (nI_add _ 2) ?_
    refine va_sld hx hb hX hbl hbA hS (vp_in_nI (n := 4 + 6 * B + 2) (N := L) (by omega) (by omega)) d_law_415 ?_
    refine hm_top (z := xs (4 + 6 * B + 2)) (by rw [nI_clamp (by omega)]) ?_
    refine hm_top (z := x2) ex2 ?_
    refine hm_calli hS hM hA (va_runV (As := [.int x1, .int x2]) (rest := [.int (-2)]) X (m_c_revoke_no l D k f h9 adM sk v c x1 x2 hmo (by rw [hu9]; decide) H.size) (hm_cwV hts me_GrantServerModel_revoke wl_GrantServerLaw_49 rfl rfl ⟨Nat.le_of_ble_eq_true rfl, Nat.le_of_ble_eq_true rfl⟩) (hm_preV hM hK hmo.1 rfl) rfl rfl hl.1 rfl (lv_room (Nat.le_of_ble_eq_true rfl)) d_law_416 ⟨(show C + 0 + 0 ≤ 600000 by omega), (show Sl + 0 + 0 ≤ 7302250 by omega)⟩) (fun r106 f104 H locs p105 hM hS => ?_)
    obtain ⟨rfl, rfl⟩ := p105
    refine lv_icmp_eq (tgt := 749) hx hb d_law_419 (by decide) (fun h107 => ?_) (fun h107 => ?_)
    · refine W.widen (k := C + 1) (n := Sl + 3) (by omega) (by omega) ?_
      exact next _ _ _ _ _ _ _ _ rfl ⟨hcs, hdj, hmo, hrl.same⟩ hM hS
    · exact absurd rfl h107
  · have hlog : ¬ S.u 13 = -1 := fun z => o_m1 (by have := hrl.nc.2.2; omega) (hu9.symm.trans (hrl.us.1.symm.trans z))
    have hu : ¬ v 9 < 0 := by rw [hu9]; exact nI_pos (by have := hrl.nc.2.2; omega)
    by_cases hk : x1 = 1
    · subst hk
      cases hfi : z_fi (S.w 1) x2 (S.us 1) 0 with
      | none =>
        have hf : m_findF (c 10) x2 24 16 < 0 := by rw [show m_findF (c 10) x2 24 16 = -1 from hrl.s1.fn hfi]; decide
        refine hm_calli hS hM hA (va_runV (As := [.int 1, .int x2]) (rest := []) X (c_rv_nf1 l D k f (aF a 0) S.u (aF a) S.us a.g S.w (cm a S) (o_fv S 0) (o_fv S 1) (o_fv S 2) 1 x2 (hcs.F 0 rfl) (hcs.F 5 rfl) (hcs.F 15 rfl) (hcs.F 6 rfl) (hcs.F 16 rfl) hlog rfl (o_pm_le hrl.s1.pm) (hcs.rows (by decide) (o_pm_le hrl.s1.pm)) (hcs.fam (by decide) (o_pm_le hrl.s1.pm)) (o_pm_le hrl.s2.pm) (hcs.rows (by decide) (o_pm_le hrl.s2.pm)) (hcs.fam (by decide) (o_pm_le hrl.s2.pm)) hfi H.size) (hm_cwV hts me_GrantServer_revoke wl_GrantServerLaw_45 rfl rfl ⟨Nat.le_of_ble_eq_true rfl, Nat.le_of_ble_eq_true rfl⟩) (hm_preV hM hK (hcs.F 0 rfl) rfl) rfl rfl hl.1 rfl (lv_room (Nat.le_of_ble_eq_true rfl)) d_law_402 ⟨(show C + 0 ≤ 600000 by omega), (show Sl + 0 ≤ 7302250 by omega)⟩) (fun r103 f101 H locs p102 hM hS => ?_)
        obtain ⟨rfl, rfl⟩ := p102
        refine lv_aload_n hx hb d_law_405 rfl (lv_at hl 1 rfl) ?_
        refine lv_aload_n hx hb d_law_406 rfl (lv_at hl 3 rfl) ?_
        refine lv_iload_n hx hb d_law_407 rfl (lv_at hl 0 rfl) ?_
        refine lv_iconst (v := 1) hx hb d_law_408 (by decide) ?_
        refine lv_iadd hx hb d_law_409 ?_
        refine hm_top (z := nI (4 + 6 * B + 1)) (nI_add _ 1) ?_
        refine va_sld hx hb hX hbl hbA hS (vp_in_nI (n := 4 + 6 * B + 1) (N := L) (by omega) (by omega)) d_law_410 ?_
        refine hm_top (z := xs (4 + 6 * B + 1)) (by rw [nI_clamp (by omega)]) ?_
        refine hm_top (z := 1) ex1 ?_
        refine lv_aload_n hx hb d_law_411 rfl (lv_at hl 3 rfl) ?_
        refine lv_iload_n hx hb d_law_412 rfl (lv_at hl 0 rfl) ?_
        refine lv_iconst (v := 2) hx hb d_law_413 (by decide) ?_
        refine lv_iadd hx hb d_law_414 ?_
        refine hm_top (z := nI (4 + 6 * B + 2)) (nI_add _ 2) ?_
        refine va_sld hx hb hX hbl hbA hS (vp_in_nI (n := 4 + 6 * B + 2) (N := L) (by omega) (by omega)) d_law_415 ?_
        refine hm_top (z := xs (4 + 6 * B + 2)) (by rw [nI_clamp (by omega)]) ?_
        refine hm_top (z := x2) ex2 ?_
        refine hm_calli hS hM hA (va_runV (As := [.int 1, .int x2]) (rest := [.int ((nI (z_cn (S.w 1) ((cm a S) 1) ((o_fv S 2) 1) (S.u 15) (S.us 1)) + nI (z_cn (S.w 2) ((cm a S) 2) ((o_fv S 2) 2) (S.u 15) (S.us 2))) - (nI (z_cn (S.w 1) ((cm a S) 1) ((o_fv S 2) 1) (S.u 15) (S.us 1)) + nI (z_cn (S.w 2) ((cm a S) 2) ((o_fv S 2) 2) (S.u 15) (S.us 2))))]) X (m_c_rv_nf l D k f h9 adM sk v c 1 x2 hmo hu (by decide) hrl.fm hf H.size) (hm_cwV hts me_GrantServerModel_revoke wl_GrantServerLaw_49 rfl rfl ⟨Nat.le_of_ble_eq_true rfl, Nat.le_of_ble_eq_true rfl⟩) (hm_preV hM hK hmo.1 rfl) rfl rfl hl.1 rfl (lv_room (Nat.le_of_ble_eq_true rfl)) d_law_416 ⟨(show C + 0 + 0 ≤ 600000 by omega), (show Sl + 0 + 0 ≤ 7302250 by omega)⟩) (fun r106 f104 H locs p105 hM hS => ?_)
        obtain ⟨rfl, rfl⟩ := p105
        refine lv_icmp_eq (tgt := 749) hx hb d_law_419 (by decide) (fun h107 => ?_) (fun h107 => ?_)
        · refine W.widen (k := C + 1) (n := Sl + 3) (by omega) (by omega) ?_
          exact next _ _ _ _ _ _ _ _ rfl ⟨hcs, hdj, hmo, hrl.same⟩ hM hS
        · exact absurd (by rw [(hrl.tok (by omega) (cm_n (a := a) (S := S)))]) h107
      | some i =>
        obtain ⟨hi9, hf⟩ := hrl.s1.fs hfi
        have hf : m_findF (c 10) x2 24 16 = nI (sg 1 i) := hf
        have hiN : i < gs_N 1 := Nat.lt_of_lt_of_le hi9 (o_pm_le hrl.s1.pm)
        have Rw := hrl.s1.row i hi9
        have Lk := hrl.s1.lt (by decide) hi9
        have Lk2 : sg 1 i < 16 + 24 := Lk.2.1
        by_cases ho : S.w 1 i 1 = S.u 13
        · have hom : c 11 (sg 1 i) = v 9 := Rw.n1.symm.trans (ho.trans hrl.us.1)
          obtain ⟨q1, q2⟩ := Rw.k1 rfl
          obtain ⟨t, et⟩ : ∃ t, S.fm 1 i = some t := Option.ne_none_iff_exists'.mp q2
          have ht := hcs.2.2.2.2 1 i t (by decide) hiN et
          have hft : c 15 (sg 1 i) = nI t := by rcases Rw.fa with z | ⟨t2, z1, z2, z3⟩; (· rw [et] at z; cases z.1); (· rw [et] at z1; cases z1; exact z3)
          have ht5 : t < 520 := by have := hrl.nf.1; omega
          have eT2 := (hrl.rev ht).tok (by omega) (cm_n (a := a) (S := cSm S.u S.nc S.cl S.us S.w S.fm S.nf (va_up S.fa t (upd (S.fa t) 2 1)) S.tn S.tx S.rd S.rs S.ra S.ky))
          have eT1 := hrl.tok (by omega) (cm_n (a := a) (S := S))
          have hq1 : z_cn (S.w 1) (cm a S 1) (fun i0 => if cm a S 1 i0 = some (a.A (2, t, 0)) then (1 : Int32) else o_fv S 2 1 i0) (S.u 15) (S.us 1) = z_cn (S.w 1) (cm a S 1) (o_fv (cSm S.u S.nc S.cl S.us S.w S.fm S.nf (va_up S.fa t (upd (S.fa t) 2 1)) S.tn S.tx S.rd S.rs S.ra S.ky) 2 1) (S.u 15) (S.us 1) := z_cn_cg (fun i0 h0 => rv_fv hcs ht (by decide) (Nat.lt_of_lt_of_le h0 (o_pm_le hrl.s1.pm)))
          have hq2 : z_cn (S.w 2) (cm a S 2) (fun i0 => if cm a S 2 i0 = some (a.A (2, t, 0)) then (1 : Int32) else o_fv S 2 2 i0) (S.u 15) (S.us 2) = z_cn (S.w 2) (cm a S 2) (o_fv (cSm S.u S.nc S.cl S.us S.w S.fm S.nf (va_up S.fa t (upd (S.fa t) 2 1)) S.tn S.tx S.rd S.rs S.ra S.ky) 2 2) (S.u 15) (S.us 2) := z_cn_cg (fun i0 h0 => rv_fv hcs ht (by decide) (Nat.lt_of_lt_of_le h0 (o_pm_le hrl.s2.pm)))
          refine hm_calli hS hM hA (va_runV (As := [.int 1, .int x2]) (rest := []) X (c_rv_1 l D k f (aF a 0) S.u (aF a) S.us a.g S.w (cm a S) (o_fv S 0) (o_fv S 1) (o_fv S 2) 1 x2 i (a.A (1, 1, i)) (a.A (2, t, 0)) (S.fa t 0) (S.fa t 1) (S.fa t 2) (hcs.F 0 rfl) (hcs.F 5 rfl) (hcs.F 15 rfl) (hcs.F 6 rfl) (hcs.F 16 rfl) (hcs.R (s := 1) (by decide) hiN) (hcs.Y ht) hlog rfl (o_pm_le hrl.s1.pm) (hcs.rows (by decide) (o_pm_le hrl.s1.pm)) (hcs.fam (by decide) (o_pm_le hrl.s1.pm)) (o_pm_le hrl.s2.pm) (hcs.rows (by decide) (o_pm_le hrl.s2.pm)) (hcs.fam (by decide) (o_pm_le hrl.s2.pm)) hfi (hcs.g (s := 1) (by decide) hiN) ho (cm_s et) H.size) (hm_cwV hts me_GrantServer_revoke wl_GrantServerLaw_45 rfl rfl ⟨Nat.le_of_ble_eq_true rfl, Nat.le_of_ble_eq_true rfl⟩) (hm_preV hM hK (hcs.F 0 rfl) rfl) rfl rfl hl.1 rfl (lv_room (Nat.le_of_ble_eq_true rfl)) d_law_402 ⟨(show C + 0 ≤ 600000 by omega), (show Sl + 0 ≤ 7302250 by omega)⟩) (fun r103 f101 H locs p102 hM hS => ?_)
          obtain ⟨rfl, g104, hfr105⟩ := p102
          have hfrc : ∀ (q : Nat) (x : va_E), (∀ n, n ∈ [((2, t, 0) : cX)] → c_ok S n → q ≠ a.A n) → f q = some x → f101 q = some x := fun zq zx hh hq => hfr105 zq zx (hh (2, t, 0) (by simp) ⟨ht, rfl⟩) hq
          have hcs : cs k f101 a (cSm S.u S.nc S.cl S.us S.w S.fm S.nf (va_up S.fa t (upd (S.fa t) 2 1)) S.tn S.tx S.rd S.rs S.ra S.ky) := by
            refine hcs.up [((2, t, 0) : cX)] (fun n hn hok => ?_) hfrc (c_same (fun i hi hn => ?_) (fun s i _ _ _ => ⟨rfl, rfl⟩) (fun t' hn => if_neg (fun z => hn (by simp [z]))) rfl) rfl rfl hcs.2.2.2.2
            · simp only [List.mem_cons, List.not_mem_nil, or_false] at hn
              rcases hn with hn
              · subst hn; exact c_y_at (show va_up S.fa t (upd (S.fa t) 2 1) t = upd (S.fa t) 2 1 from va_up_s) g104
            · rcases c_ixs hi with r | r | r | r | r | r | r | r | r | r | r | r | r | r | r | r | r | r <;> subst r <;> first | rfl | exact absurd (by simp) hn
          have hmo := cs.mo hdj hfrc hmo
          have hdj := dj_cv (S' := cSm S.u S.nc S.cl S.us S.w S.fm S.nf (va_up S.fa t (upd (S.fa t) 2 1)) S.tn S.tx S.rd S.rs S.ra S.ky) rfl rfl hdj
          refine lv_aload_n hx hb d_law_405 rfl (lv_at hl 1 rfl) ?_
          refine lv_aload_n hx hb d_law_406 rfl (lv_at hl 3 rfl) ?_
          refine lv_iload_n hx hb d_law_407 rfl (lv_at hl 0 rfl) ?_
          refine lv_iconst (v := 1) hx hb d_law_408 (by decide) ?_
          refine lv_iadd hx hb d_law_409 ?_
          refine hm_top (z := nI (4 + 6 * B + 1)) (nI_add _ 1) ?_
          refine va_sld hx hb hX hbl hbA hS (vp_in_nI (n := 4 + 6 * B + 1) (N := L) (by omega) (by omega)) d_law_410 ?_
          refine hm_top (z := xs (4 + 6 * B + 1)) (by rw [nI_clamp (by omega)]) ?_
          refine hm_top (z := 1) ex1 ?_
          refine lv_aload_n hx hb d_law_411 rfl (lv_at hl 3 rfl) ?_
          refine lv_iload_n hx hb d_law_412 rfl (lv_at hl 0 rfl) ?_
          refine lv_iconst (v := 2) hx hb d_law_413 (by decide) ?_
          refine lv_iadd hx hb d_law_414 ?_
          refine hm_top (z := nI (4 + 6 * B + 2)) (nI_add _ 2) ?_
          refine va_sld hx hb hX hbl hbA hS (vp_in_nI (n := 4 + 6 * B + 2) (N := L) (by omega) (by omega)) d_law_415 ?_
          refine hm_top (z := xs (4 + 6 * B + 2)) (by rw [nI_clamp (by omega)]) ?_
          refine hm_top (z := x2) ex2 ?_
          refine hm_calli hS hM hA (va_runV (As := [.int 1, .int x2]) (rest := [.int ((nI (z_cn (S.w 1) ((cm a S) 1) ((o_fv S 2) 1) (S.u 15) (S.us 1)) + nI (z_cn (S.w 2) ((cm a S) 2) ((o_fv S 2) 2) (S.u 15) (S.us 2))) - (nI (z_cn (S.w 1) ((cm a S) 1) ((fun s0 i0 => if (cm a S) s0 i0 = some (a.A (2, t, 0)) then 1 else (o_fv S 2) s0 i0) 1) (S.u 15) (S.us 1)) + nI (z_cn (S.w 2) ((cm a S) 2) ((fun s0 i0 => if (cm a S) s0 i0 = some (a.A (2, t, 0)) then 1 else (o_fv S 2) s0 i0) 2) (S.u 15) (S.us 2))))]) X (m_c_rv_1 l D k f101 h9 adM sk v c 1 x2 (sg 1 i) t hmo hu rfl hrl.fm hf (by omega) hom hft ht5 H.size) (hm_cwV hts me_GrantServerModel_revoke wl_GrantServerLaw_49 rfl rfl ⟨Nat.le_of_ble_eq_true rfl, Nat.le_of_ble_eq_true rfl⟩) (hm_preV hM hK hmo.1 rfl) rfl rfl hl.1 rfl (lv_room (Nat.le_of_ble_eq_true rfl)) d_law_416 ⟨(show C + 0 + 0 ≤ 600000 by omega), (show Sl + 0 + 0 ≤ 7302250 by omega)⟩) (fun r108 f106 H locs p107 hM hS => ?_)
          obtain ⟨rfl, hmo, hfr109⟩ := p107
          have hcs := hcs.keep hdj hfr109
          refine lv_icmp_eq (tgt := 749) hx hb d_law_419 (by decide) (fun h110 => ?_) (fun h110 => ?_)
          · refine W.widen (k := C + 1) (n := Sl + 3) (by omega) (by omega) ?_
            exact next _ _ _ _ _ _ _ _ rfl ⟨hcs, hdj, hmo, (hrl.rev ht)⟩ hM hS
          · exact absurd (congr (congrArg HSub.hSub eT1) ((congr (congrArg HAdd.hAdd (congrArg nI hq1)) (congrArg nI hq2)).trans eT2)) h110
        · refine hm_calli hS hM hA (va_runV (As := [.int 1, .int x2]) (rest := []) X (c_rv_own1 l D k f (aF a 0) S.u (aF a) S.us a.g S.w (cm a S) (o_fv S 0) (o_fv S 1) (o_fv S 2) 1 x2 i (a.A (1, 1, i)) (hcs.F 0 rfl) (hcs.F 5 rfl) (hcs.F 15 rfl) (hcs.F 6 rfl) (hcs.F 16 rfl) (hcs.R (s := 1) (by decide) hiN) hlog rfl (o_pm_le hrl.s1.pm) (hcs.rows (by decide) (o_pm_le hrl.s1.pm)) (hcs.fam (by decide) (o_pm_le hrl.s1.pm)) (o_pm_le hrl.s2.pm) (hcs.rows (by decide) (o_pm_le hrl.s2.pm)) (hcs.fam (by decide) (o_pm_le hrl.s2.pm)) hfi (hcs.g (s := 1) (by decide) hiN) ho H.size) (hm_cwV hts me_GrantServer_revoke wl_GrantServerLaw_45 rfl rfl ⟨Nat.le_of_ble_eq_true rfl, Nat.le_of_ble_eq_true rfl⟩) (hm_preV hM hK (hcs.F 0 rfl) rfl) rfl rfl hl.1 rfl (lv_room (Nat.le_of_ble_eq_true rfl)) d_law_402 ⟨(show C + 0 ≤ 600000 by omega), (show Sl + 0 ≤ 7302250 by omega)⟩) (fun r103 f101 H locs p102 hM hS => ?_)
          obtain ⟨rfl, rfl⟩ := p102
          refine lv_aload_n hx hb d_law_405 rfl (lv_at hl 1 rfl) ?_
          refine lv_aload_n hx hb d_law_406 rfl (lv_at hl 3 rfl) ?_
          refine lv_iload_n hx hb d_law_407 rfl (lv_at hl 0 rfl) ?_
          refine lv_iconst (v := 1) hx hb d_law_408 (by decide) ?_
          refine lv_iadd hx hb d_law_409 ?_
          refine hm_top (z := nI (4 + 6 * B + 1)) (nI_add _ 1) ?_
          refine va_sld hx hb hX hbl hbA hS (vp_in_nI (n := 4 + 6 * B + 1) (N := L) (by omega) (by omega)) d_law_410 ?_
          refine hm_top (z := xs (4 + 6 * B + 1)) (by rw [nI_clamp (by omega)]) ?_
          refine hm_top (z := 1) ex1 ?_
          refine lv_aload_n hx hb d_law_411 rfl (lv_at hl 3 rfl) ?_
          refine lv_iload_n hx hb d_law_412 rfl (lv_at hl 0 rfl) ?_
          refine lv_iconst (v := 2) hx hb d_law_413 (by decide) ?_
          refine lv_iadd hx hb d_law_414 ?_
          refine hm_top (z := nI (4 + 6 * B + 2)) (nI_add _ 2) ?_
          refine va_sld hx hb hX hbl hbA hS (vp_in_nI (n := 4 + 6 * B + 2) (N := L) (by omega) (by omega)) d_law_415 ?_
          refine hm_top (z := xs (4 + 6 * B + 2)) (by rw [nI_clamp (by omega)]) ?_
          refine hm_top (z := x2) ex2 ?_
          refine hm_calli hS hM hA (va_runV (As := [.int 1, .int x2]) (rest := [.int ((nI (z_cn (S.w 1) ((cm a S) 1) ((o_fv S 2) 1) (S.u 15) (S.us 1)) + nI (z_cn (S.w 2) ((cm a S) 2) ((o_fv S 2) 2) (S.u 15) (S.us 2))) - (nI (z_cn (S.w 1) ((cm a S) 1) ((o_fv S 2) 1) (S.u 15) (S.us 1)) + nI (z_cn (S.w 2) ((cm a S) 2) ((o_fv S 2) 2) (S.u 15) (S.us 2))))]) X (m_c_rv_own l D k f h9 adM sk v c 1 x2 (sg 1 i) hmo hu (by decide) hrl.fm hf (by omega) (fun z => ho (Rw.n1.trans (z.trans hrl.us.1.symm))) H.size) (hm_cwV hts me_GrantServerModel_revoke wl_GrantServerLaw_49 rfl rfl ⟨Nat.le_of_ble_eq_true rfl, Nat.le_of_ble_eq_true rfl⟩) (hm_preV hM hK hmo.1 rfl) rfl rfl hl.1 rfl (lv_room (Nat.le_of_ble_eq_true rfl)) d_law_416 ⟨(show C + 0 + 0 ≤ 600000 by omega), (show Sl + 0 + 0 ≤ 7302250 by omega)⟩) (fun r106 f104 H locs p105 hM hS => ?_)
          obtain ⟨rfl, rfl⟩ := p105
          refine lv_icmp_eq (tgt := 749) hx hb d_law_419 (by decide) (fun h107 => ?_) (fun h107 => ?_)
          · refine W.widen (k := C + 1) (n := Sl + 3) (by omega) (by omega) ?_
            exact next _ _ _ _ _ _ _ _ rfl ⟨hcs, hdj, hmo, hrl.same⟩ hM hS
          · exact absurd (by rw [(hrl.tok (by omega) (cm_n (a := a) (S := S)))]) h107
    · have hk1 := hk
      by_cases hk : x1 = 2
      · subst hk
        cases hfi : z_fi (S.w 2) x2 (S.us 2) 0 with
        | none =>
          have hf : m_findF (c 10) x2 24 40 < 0 := by rw [show m_findF (c 10) x2 24 40 = -1 from hrl.s2.fn hfi]; decide
          refine hm_calli hS hM hA (va_runV (As := [.int 2, .int x2]) (rest := []) X (c_rv_nf2 l D k f (aF a 0) S.u (aF a) S.us a.g S.w (cm a S) (o_fv S 0) (o_fv S 1) (o_fv S 2) 2 x2 (hcs.F 0 rfl) (hcs.F 5 rfl) (hcs.F 15 rfl) (hcs.F 6 rfl) (hcs.F 16 rfl) hlog rfl (o_pm_le hrl.s1.pm) (hcs.rows (by decide) (o_pm_le hrl.s1.pm)) (hcs.fam (by decide) (o_pm_le hrl.s1.pm)) (o_pm_le hrl.s2.pm) (hcs.rows (by decide) (o_pm_le hrl.s2.pm)) (hcs.fam (by decide) (o_pm_le hrl.s2.pm)) hfi H.size) (hm_cwV hts me_GrantServer_revoke wl_GrantServerLaw_45 rfl rfl ⟨Nat.le_of_ble_eq_true rfl, Nat.le_of_ble_eq_true rfl⟩) (hm_preV hM hK (hcs.F 0 rfl) rfl) rfl rfl hl.1 rfl (lv_room (Nat.le_of_ble_eq_true rfl)) d_law_402 ⟨(show C + 0 ≤ 600000 by omega), (show Sl + 0 ≤ 7302250 by omega)⟩) (fun r103 f101 H locs p102 hM hS => ?_)
          obtain ⟨rfl, rfl⟩ := p102
          refine lv_aload_n hx hb d_law_405 rfl (lv_at hl 1 rfl) ?_
          refine lv_aload_n hx hb d_law_406 rfl (lv_at hl 3 rfl) ?_
          refine lv_iload_n hx hb d_law_407 rfl (lv_at hl 0 rfl) ?_
          refine lv_iconst (v := 1) hx hb d_law_408 (by decide) ?_
          refine lv_iadd hx hb d_law_409 ?_
          refine hm_top (z := nI (4 + 6 * B + 1)) (nI_add _ 1) ?_
          refine va_sld hx hb hX hbl hbA hS (vp_in_nI (n := 4 + 6 * B + 1) (N := L) (by omega) (by omega)) d_law_410 ?_
          refine hm_top (z := xs (4 + 6 * B + 1)) (by rw [nI_clamp (by omega)]) ?_
          refine hm_top (z := 2) ex1 ?_
          refine lv_aload_n hx hb d_law_411 rfl (lv_at hl 3 rfl) ?_
          refine lv_iload_n hx hb d_law_412 rfl (lv_at hl 0 rfl) ?_
          refine lv_iconst (v := 2) hx hb d_law_413 (by decide) ?_
          refine lv_iadd hx hb d_law_414 ?_
          refine hm_top (z := nI (4 + 6 * B + 2)) (nI_add _ 2) ?_
          refine va_sld hx hb hX hbl hbA hS (vp_in_nI (n := 4 + 6 * B + 2) (N := L) (by omega) (by omega)) d_law_415 ?_
          refine hm_top (z := xs (4 + 6 * B + 2)) (by rw [nI_clamp (by omega)]) ?_
          refine hm_top (z := x2) ex2 ?_
          refine hm_calli hS hM hA (va_runV (As := [.int 2, .int x2]) (rest := [.int ((nI (z_cn (S.w 1) ((cm a S) 1) ((o_fv S 2) 1) (S.u 15) (S.us 1)) + nI (z_cn (S.w 2) ((cm a S) 2) ((o_fv S 2) 2) (S.u 15) (S.us 2))) - (nI (z_cn (S.w 1) ((cm a S) 1) ((o_fv S 2) 1) (S.u 15) (S.us 1)) + nI (z_cn (S.w 2) ((cm a S) 2) ((o_fv S 2) 2) (S.u 15) (S.us 2))))]) X (m_c_rv_nf l D k f h9 adM sk v c 2 x2 hmo hu (by decide) hrl.fm hf H.size) (hm_cwV hts me_GrantServerModel_revoke wl_GrantServerLaw_49 rfl rfl ⟨Nat.le_of_ble_eq_true rfl, Nat.le_of_ble_eq_true rfl⟩) (hm_preV hM hK hmo.1 rfl) rfl rfl hl.1 rfl (lv_room (Nat.le_of_ble_eq_true rfl)) d_law_416 ⟨(show C + 0 + 0 ≤ 600000 by omega), (show Sl + 0 + 0 ≤ 7302250 by omega)⟩) (fun r106 f104 H locs p105 hM hS => ?_)
          obtain ⟨rfl, rfl⟩ := p105
          refine lv_icmp_eq (tgt := 749) hx hb d_law_419 (by decide) (fun h107 => ?_) (fun h107 => ?_)
          · refine W.widen (k := C + 1) (n := Sl + 3) (by omega) (by omega) ?_
            exact next _ _ _ _ _ _ _ _ rfl ⟨hcs, hdj, hmo, hrl.same⟩ hM hS
          · exact absurd (by rw [(hrl.tok (by omega) (cm_n (a := a) (S := S)))]) h107
        | some i =>
          obtain ⟨hi9, hf⟩ := hrl.s2.fs hfi
          have hf : m_findF (c 10) x2 24 40 = nI (sg 2 i) := hf
          have hiN : i < gs_N 2 := Nat.lt_of_lt_of_le hi9 (o_pm_le hrl.s2.pm)
          have Rw := hrl.s2.row i hi9
          have Lk := hrl.s2.lt (by decide) hi9
          have Lk2 : sg 2 i < 40 + 24 := Lk.2.1
          by_cases ho : S.w 2 i 1 = S.u 13
          · have hom : c 11 (sg 2 i) = v 9 := Rw.n1.symm.trans (ho.trans hrl.us.1)
            have eT2 := (hrl.mark2 hi9).tok (by omega) (cm_n (a := a) (S := cSm S.u S.nc S.cl S.us (va_up S.w 2 (va_up (S.w 2) i (upd (S.w 2 i) 7 1))) S.fm S.nf S.fa S.tn S.tx S.rd S.rs S.ra S.ky))
            have eT1 := hrl.tok (by omega) (cm_n (a := a) (S := S))
            have eW : (fun s0 i0 => if s0 = 2 ∧ i0 = i then upd (S.w 2 i) 7 1 else S.w s0 i0) = va_up S.w 2 (va_up (S.w 2) i (upd (S.w 2 i) 7 1)) := (rw2_fun _ _ _ _).symm
            refine hm_calli hS hM hA (va_runV (As := [.int 2, .int x2]) (rest := []) X (c_rv_2 l D k f (aF a 0) S.u (aF a) S.us a.g S.w (cm a S) (o_fv S 0) (o_fv S 1) (o_fv S 2) 2 x2 i (a.A (1, 2, i)) (hcs.F 0 rfl) (hcs.F 5 rfl) (hcs.F 15 rfl) (hcs.F 6 rfl) (hcs.F 16 rfl) (hcs.R (s := 2) (by decide) hiN) hlog rfl (o_pm_le hrl.s1.pm) (hcs.rows (by decide) (o_pm_le hrl.s1.pm)) (hcs.fam (by decide) (o_pm_le hrl.s1.pm)) (o_pm_le hrl.s2.pm) (hcs.rows (by decide) (o_pm_le hrl.s2.pm)) (hcs.fam (by decide) (o_pm_le hrl.s2.pm)) hfi (hcs.g (s := 2) (by decide) hiN) ho (fun i0 h0 z => hcs.rne (s := 1) (s' := 2) (by decide) (Nat.lt_of_lt_of_le h0 (o_pm_le hrl.s1.pm)) (by decide) hiN (fun z => absurd z.1 (by decide)) (Option.some.inj ((hcs.g (s := 1) (by decide) (Nat.lt_of_lt_of_le h0 (o_pm_le hrl.s1.pm))).symm.trans z))) (fun i0 h0 z => Classical.byContradiction (fun e => hcs.rne (s := 2) (s' := 2) (by decide) (Nat.lt_of_lt_of_le h0 (o_pm_le hrl.s2.pm)) (by decide) hiN (fun z => e z.2) (Option.some.inj ((hcs.g (s := 2) (by decide) (Nat.lt_of_lt_of_le h0 (o_pm_le hrl.s2.pm))).symm.trans z)))) H.size) (hm_cwV hts me_GrantServer_revoke wl_GrantServerLaw_45 rfl rfl ⟨Nat.le_of_ble_eq_true rfl, Nat.le_of_ble_eq_true rfl⟩) (hm_preV hM hK (hcs.F 0 rfl) rfl) rfl rfl hl.1 rfl (lv_room (Nat.le_of_ble_eq_true rfl)) d_law_402 ⟨(show C + 0 ≤ 600000 by omega), (show Sl + 0 ≤ 7302250 by omega)⟩) (fun r103 f101 H locs p102 hM hS => ?_)
            obtain ⟨rfl, g104, hfr105⟩ := p102
            have hfrc : ∀ (q : Nat) (x : va_E), (∀ n, n ∈ [((1, 2, i) : cX)] → c_ok S n → q ≠ a.A n) → f q = some x → f101 q = some x := fun zq zx hh hq => hfr105 zq zx (hh (1, 2, i) (by simp) ⟨by decide, hiN⟩) hq
            have hcs : cs k f101 a (cSm S.u S.nc S.cl S.us (va_up S.w 2 (va_up (S.w 2) i (upd (S.w 2 i) 7 1))) S.fm S.nf S.fa S.tn S.tx S.rd S.rs S.ra S.ky) := by
              refine hcs.up [((1, 2, i) : cX)] (fun n hn hok => ?_) hfrc (c_same (fun i hi hn => ?_) (fun s i _ _ hn => ⟨rw2_ne (fun z => hn (by simp [z.1, z.2])), rfl⟩) (fun t _ => rfl) rfl) rfl rfl hcs.2.2.2.2
              · simp only [List.mem_cons, List.not_mem_nil, or_false] at hn
                rcases hn with hn
                · subst hn; exact c_r_at rfl (show va_up (S.w 2) i (upd (S.w 2 i) 7 1) i = upd (S.w 2 i) 7 1 from va_up_s) (show S.fm 2 i = S.fm 2 i from rfl) rfl g104
              · rcases c_ixs hi with r | r | r | r | r | r | r | r | r | r | r | r | r | r | r | r | r | r <;> subst r <;> first | rfl | exact absurd (by simp) hn
            have hmo := cs.mo hdj hfrc hmo
            have hdj := dj_cv (S' := cSm S.u S.nc S.cl S.us (va_up S.w 2 (va_up (S.w 2) i (upd (S.w 2 i) 7 1))) S.fm S.nf S.fa S.tn S.tx S.rd S.rs S.ra S.ky) rfl rfl hdj
            refine lv_aload_n hx hb d_law_405 rfl (lv_at hl 1 rfl) ?_
            refine lv_aload_n hx hb d_law_406 rfl (lv_at hl 3 rfl) ?_
            refine lv_iload_n hx hb d_law_407 rfl (lv_at hl 0 rfl) ?_
            refine lv_iconst (v := 1) hx hb d_law_408 (by decide) ?_
            refine lv_iadd hx hb d_law_409 ?_
            refine hm_top (z := nI (4 + 6 * B + 1)) (nI_add _ 1) ?_
            refine va_sld hx hb hX hbl hbA hS (vp_in_nI (n := 4 + 6 * B + 1) (N := L) (by omega) (by omega)) d_law_410 ?_
            refine hm_top (z := xs (4 + 6 * B + 1)) (by rw [nI_clamp (by omega)]) ?_
            refine hm_top (z := 2) ex1 ?_
            refine lv_aload_n hx hb d_law_411 rfl (lv_at hl 3 rfl) ?_
            refine lv_iload_n hx hb d_law_412 rfl (lv_at hl 0 rfl) ?_
            refine lv_iconst (v := 2) hx hb d_law_413 (by decide) ?_
            refine lv_iadd hx hb d_law_414 ?_
            refine hm_top (z := nI (4 + 6 * B + 2)) (nI_add _ 2) ?_
            refine va_sld hx hb hX hbl hbA hS (vp_in_nI (n := 4 + 6 * B + 2) (N := L) (by omega) (by omega)) d_law_415 ?_
            refine hm_top (z := xs (4 + 6 * B + 2)) (by rw [nI_clamp (by omega)]) ?_
            refine hm_top (z := x2) ex2 ?_
            refine hm_calli hS hM hA (va_runV (As := [.int 2, .int x2]) (rest := [.int ((nI (z_cn (S.w 1) ((cm a S) 1) ((o_fv S 2) 1) (S.u 15) (S.us 1)) + nI (z_cn (S.w 2) ((cm a S) 2) ((o_fv S 2) 2) (S.u 15) (S.us 2))) - (nI (z_cn ((fun s0 i0 => if s0 = 2 ∧ i0 = i then upd (S.w 2 i) 7 1 else S.w s0 i0) 1) ((cm a S) 1) ((o_fv S 2) 1) (S.u 15) (S.us 1)) + nI (z_cn ((fun s0 i0 => if s0 = 2 ∧ i0 = i then upd (S.w 2 i) 7 1 else S.w s0 i0) 2) ((cm a S) 2) ((o_fv S 2) 2) (S.u 15) (S.us 2))))]) X (m_c_rv_2 l D k f101 h9 adM sk v c 2 x2 (sg 2 i) hmo hu rfl hrl.fm hf (by omega) hom H.size) (hm_cwV hts me_GrantServerModel_revoke wl_GrantServerLaw_49 rfl rfl ⟨Nat.le_of_ble_eq_true rfl, Nat.le_of_ble_eq_true rfl⟩) (hm_preV hM hK hmo.1 rfl) rfl rfl hl.1 rfl (lv_room (Nat.le_of_ble_eq_true rfl)) d_law_416 ⟨(show C + 0 + 0 ≤ 600000 by omega), (show Sl + 0 + 0 ≤ 7302250 by omega)⟩) (fun r108 f106 H locs p107 hM hS => ?_)
            obtain ⟨rfl, hmo, hfr109⟩ := p107
            have hcs := hcs.keep hdj hfr109
            refine lv_icmp_eq (tgt := 749) hx hb d_law_419 (by decide) (fun h110 => ?_) (fun h110 => ?_)
            · refine W.widen (k := C + 1) (n := Sl + 3) (by omega) (by omega) ?_
              exact next _ _ _ _ _ _ _ _ rfl ⟨hcs, hdj, hmo, (hrl.mark2 hi9)⟩ hM hS
            · exact absurd (congr (congrArg HSub.hSub eT1) ((congrArg (fun W : Nat → Nat → Nat → Int32 => nI (z_cn (W 1) (cm a S 1) (o_fv S 2 1) (S.u 15) (S.us 1)) + nI (z_cn (W 2) (cm a S 2) (o_fv S 2 2) (S.u 15) (S.us 2))) eW).trans eT2)) h110
          · refine hm_calli hS hM hA (va_runV (As := [.int 2, .int x2]) (rest := []) X (c_rv_own2 l D k f (aF a 0) S.u (aF a) S.us a.g S.w (cm a S) (o_fv S 0) (o_fv S 1) (o_fv S 2) 2 x2 i (a.A (1, 2, i)) (hcs.F 0 rfl) (hcs.F 5 rfl) (hcs.F 15 rfl) (hcs.F 6 rfl) (hcs.F 16 rfl) (hcs.R (s := 2) (by decide) hiN) hlog rfl (o_pm_le hrl.s1.pm) (hcs.rows (by decide) (o_pm_le hrl.s1.pm)) (hcs.fam (by decide) (o_pm_le hrl.s1.pm)) (o_pm_le hrl.s2.pm) (hcs.rows (by decide) (o_pm_le hrl.s2.pm)) (hcs.fam (by decide) (o_pm_le hrl.s2.pm)) hfi (hcs.g (s := 2) (by decide) hiN) ho H.size) (hm_cwV hts me_GrantServer_revoke wl_GrantServerLaw_45 rfl rfl ⟨Nat.le_of_ble_eq_true rfl, Nat.le_of_ble_eq_true rfl⟩) (hm_preV hM hK (hcs.F 0 rfl) rfl) rfl rfl hl.1 rfl (lv_room (Nat.le_of_ble_eq_true rfl)) d_law_402 ⟨(show C + 0 ≤ 600000 by omega), (show Sl + 0 ≤ 7302250 by omega)⟩) (fun r103 f101 H locs p102 hM hS => ?_)
            obtain ⟨rfl, rfl⟩ := p102
            refine lv_aload_n hx hb d_law_405 rfl (lv_at hl 1 rfl) ?_
            refine lv_aload_n hx hb d_law_406 rfl (lv_at hl 3 rfl) ?_
            refine lv_iload_n hx hb d_law_407 rfl (lv_at hl 0 rfl) ?_
            refine lv_iconst (v := 1) hx hb d_law_408 (by decide) ?_
            refine lv_iadd hx hb d_law_409 ?_
            refine hm_top (z := nI (4 + 6 * B + 1)) (nI_add _ 1) ?_
            refine va_sld hx hb hX hbl hbA hS (vp_in_nI (n := 4 + 6 * B + 1) (N := L) (by omega) (by omega)) d_law_410 ?_
            refine hm_top (z := xs (4 + 6 * B + 1)) (by rw [nI_clamp (by omega)]) ?_
            refine hm_top (z := 2) ex1 ?_
            refine lv_aload_n hx hb d_law_411 rfl (lv_at hl 3 rfl) ?_
            refine lv_iload_n hx hb d_law_412 rfl (lv_at hl 0 rfl) ?_
            refine lv_iconst (v := 2) hx hb d_law_413 (by decide) ?_
            refine lv_iadd hx hb d_law_414 ?_
            refine hm_top (z := nI (4 + 6 * B + 2)) (nI_add _ 2) ?_
            refine va_sld hx hb hX hbl hbA hS (vp_in_nI (n := 4 + 6 * B + 2) (N := L) (by omega) (by omega)) d_law_415 ?_
            refine hm_top (z := xs (4 + 6 * B + 2)) (by rw [nI_clamp (by omega)]) ?_
            refine hm_top (z := x2) ex2 ?_
            refine hm_calli hS hM hA (va_runV (As := [.int 2, .int x2]) (rest := [.int ((nI (z_cn (S.w 1) ((cm a S) 1) ((o_fv S 2) 1) (S.u 15) (S.us 1)) + nI (z_cn (S.w 2) ((cm a S) 2) ((o_fv S 2) 2) (S.u 15) (S.us 2))) - (nI (z_cn (S.w 1) ((cm a S) 1) ((o_fv S 2) 1) (S.u 15) (S.us 1)) + nI (z_cn (S.w 2) ((cm a S) 2) ((o_fv S 2) 2) (S.u 15) (S.us 2))))]) X (m_c_rv_own l D k f h9 adM sk v c 2 x2 (sg 2 i) hmo hu (by decide) hrl.fm hf (by omega) (fun z => ho (Rw.n1.trans (z.trans hrl.us.1.symm))) H.size) (hm_cwV hts me_GrantServerModel_revoke wl_GrantServerLaw_49 rfl rfl ⟨Nat.le_of_ble_eq_true rfl, Nat.le_of_ble_eq_true rfl⟩) (hm_preV hM hK hmo.1 rfl) rfl rfl hl.1 rfl (lv_room (Nat.le_of_ble_eq_true rfl)) d_law_416 ⟨(show C + 0 + 0 ≤ 600000 by omega), (show Sl + 0 + 0 ≤ 7302250 by omega)⟩) (fun r106 f104 H locs p105 hM hS => ?_)
            obtain ⟨rfl, rfl⟩ := p105
            refine lv_icmp_eq (tgt := 749) hx hb d_law_419 (by decide) (fun h107 => ?_) (fun h107 => ?_)
            · refine W.widen (k := C + 1) (n := Sl + 3) (by omega) (by omega) ?_
              exact next _ _ _ _ _ _ _ _ rfl ⟨hcs, hdj, hmo, hrl.same⟩ hM hS
            · exact absurd (by rw [(hrl.tok (by omega) (cm_n (a := a) (S := S)))]) h107
      · refine hm_calli hS hM hA (va_runV (As := [.int x1, .int x2]) (rest := []) X (c_rv_no l D k f (aF a 0) S.u (aF a) x1 x2 (hcs.F 0 rfl) hlog hk1 hk H.size) (hm_cwV hts me_GrantServer_revoke wl_GrantServerLaw_45 rfl rfl ⟨Nat.le_of_ble_eq_true rfl, Nat.le_of_ble_eq_true rfl⟩) (hm_preV hM hK (hcs.F 0 rfl) rfl) rfl rfl hl.1 rfl (lv_room (Nat.le_of_ble_eq_true rfl)) d_law_402 ⟨(show C + 0 ≤ 600000 by omega), (show Sl + 0 ≤ 7302250 by omega)⟩) (fun r103 f101 H locs p102 hM hS => ?_)
        obtain ⟨rfl, rfl⟩ := p102
        refine lv_aload_n hx hb d_law_405 rfl (lv_at hl 1 rfl) ?_
        refine lv_aload_n hx hb d_law_406 rfl (lv_at hl 3 rfl) ?_
        refine lv_iload_n hx hb d_law_407 rfl (lv_at hl 0 rfl) ?_
        refine lv_iconst (v := 1) hx hb d_law_408 (by decide) ?_
        refine lv_iadd hx hb d_law_409 ?_
        refine hm_top (z := nI (4 + 6 * B + 1)) (nI_add _ 1) ?_
        refine va_sld hx hb hX hbl hbA hS (vp_in_nI (n := 4 + 6 * B + 1) (N := L) (by omega) (by omega)) d_law_410 ?_
        refine hm_top (z := xs (4 + 6 * B + 1)) (by rw [nI_clamp (by omega)]) ?_
        refine hm_top (z := x1) ex1 ?_
        refine lv_aload_n hx hb d_law_411 rfl (lv_at hl 3 rfl) ?_
        refine lv_iload_n hx hb d_law_412 rfl (lv_at hl 0 rfl) ?_
        refine lv_iconst (v := 2) hx hb d_law_413 (by decide) ?_
        refine lv_iadd hx hb d_law_414 ?_
        refine hm_top (z := nI (4 + 6 * B + 2)) (nI_add _ 2) ?_
        refine va_sld hx hb hX hbl hbA hS (vp_in_nI (n := 4 + 6 * B + 2) (N := L) (by omega) (by omega)) d_law_415 ?_
        refine hm_top (z := xs (4 + 6 * B + 2)) (by rw [nI_clamp (by omega)]) ?_
        refine hm_top (z := x2) ex2 ?_
        refine hm_calli hS hM hA (va_runV (As := [.int x1, .int x2]) (rest := [.int (-1)]) X (m_c_rv_no l D k f h9 adM sk v c x1 x2 hmo hu hk1 hk H.size) (hm_cwV hts me_GrantServerModel_revoke wl_GrantServerLaw_49 rfl rfl ⟨Nat.le_of_ble_eq_true rfl, Nat.le_of_ble_eq_true rfl⟩) (hm_preV hM hK hmo.1 rfl) rfl rfl hl.1 rfl (lv_room (Nat.le_of_ble_eq_true rfl)) d_law_416 ⟨(show C + 0 + 0 ≤ 600000 by omega), (show Sl + 0 + 0 ≤ 7302250 by omega)⟩) (fun r106 f104 H locs p105 hM hS => ?_)
        obtain ⟨rfl, rfl⟩ := p105
        refine lv_icmp_eq (tgt := 749) hx hb d_law_419 (by decide) (fun h107 => ?_) (fun h107 => ?_)
        · refine W.widen (k := C + 1) (n := Sl + 3) (by omega) (by omega) ?_
          exact next _ _ _ _ _ _ _ _ rfl ⟨hcs, hdj, hmo, hrl.same⟩ hM hS
        · exact absurd rfl h107
set_option maxHeartbeats 40000000 in
set_option maxRecDepth 100000 in
theorem lw_c7 {p : Program} {e : Env} {s : State} {m : MethodId} {below : List Frame} {meth : Method} {cd : Code} {l : Launch} {b L : Nat} {xs : Nat → Int32} {D : va_G} {k : Nat → ClassId} {A : Nat → Prop} {sA sV : Nat → Nat} {h9 : Nat} {adM : Nat → Nat} {Q : State → Prop} {sk : Int64}
    (X : CallFix p m cd code 4 s #[Value.ref b] TB R_GrantServerLaw) (hX : va_X b L xs s s.heap) (hbl : b < s.heap.size) (hbA : ¬ A b) (hK : hm_K D vwCl (tyL k) s) (hA : ∀ q, s.heap.size ≤ q → A q) (hZ : hm_Z sA sV A s s.heap)
    {f : hm} {a : cA} {S : cS} {sg : Nat → Nat → Nat} {v : Nat → Int32} {c : Nat → Nat → Int32} {B C Sl : Nat} {H : Heap} {locs : List Loc} {ls : Array Slot} (hB : B < 512) (hi : 4 + 6 * B + 6 ≤ L) (hL : L ≤ 3076) (hC : C ≤ 10000) (hSl : Sl ≤ 20000)
    (hI : lw_I k f a S h9 adM sk v c sg B) (hM : hm_W D vwCl A f H) (hS : va_S A s.heap H locs) (hl : lv_has ls 4 [(3, .int (nI (4 + 6 * B))), (2, .ref h9), (1, .ref (aF a 0)), (0, .ref b)])
    (next : ∀ (f' : hm) (a' : cA) (S' : cS) (sg' : Nat → Nat → Nat) (v' : Nat → Int32) (c' : Nat → Nat → Int32) (H' : Heap) (locs' : List Loc), aF a' 0 = aF a 0 → lw_I k f' a' S' h9 adM sk v' c' sg' (B + 1) → hm_W D vwCl A f' H' → va_S A s.heap H' locs' → W p l e room_1 s m #[Value.ref b] below meth cd H' locs' (C + 1) (Sl + 3) Q (F0 m 749 ls [])) :
    W p l e room_1 s m #[Value.ref b] below meth cd H locs C Sl Q (F0 m 457 ls []) := by
  obtain ⟨hcs, hdj, hmo, hrl⟩ := hI
  have hx := X.1; have hb := X.2.1; have hml := X.2.2.1; have hown := X.2.2.2.1; have hts := X.2.2.2.2
  obtain ⟨x1, ex1⟩ : ∃ z, xs (4 + 6 * B + 1) = z := ⟨_, rfl⟩
  obtain ⟨x2, ex2⟩ : ∃ z, xs (4 + 6 * B + 2) = z := ⟨_, rfl⟩
  obtain ⟨x3, ex3⟩ : ∃ z, xs (4 + 6 * B + 3) = z := ⟨_, rfl⟩
  obtain ⟨x4, ex4⟩ : ∃ z, xs (4 + 6 * B + 4) = z := ⟨_, rfl⟩
  obtain ⟨x5, ex5⟩ : ∃ z, xs (4 + 6 * B + 5) = z := ⟨_, rfl⟩
  refine lv_aload_n hx hb d_law_457 rfl (lv_at hl 2 rfl) ?_
  refine lv_aload_n hx hb d_law_458 rfl (lv_at hl 3 rfl) ?_
  refine lv_iload_n hx hb d_law_459 rfl (lv_at hl 0 rfl) ?_
  refine lv_iconst (v := 1) hx hb d_law_460 (by decide) ?_
  refine lv_iadd hx hb d_law_461 ?_
  refine hm_top (z := nI (4 + 6 * B + 1)) (nI_add _ 1) ?_
  refine va_sld hx hb hX hbl hbA hS (vp_in_nI (n := 4 + 6 * B + 1) (N := L) (by omega) (by omega)) d_law_462 ?_
  refine hm_top (z := xs (4 + 6 * B + 1)) (by rw [nI_clamp (by omega)]) ?_
  refine hm_top (z := x1) ex1 ?_
  refine lv_aload_n hx hb d_law_463 rfl (lv_at hl 3 rfl) ?_
  refine lv_iload_n hx hb d_law_464 rfl (lv_at hl 0 rfl) ?_
  refine lv_iconst (v := 2) hx hb d_law_465 (by decide) ?_
  refine lv_iadd hx hb d_law_466 ?_
  refine hm_top (z := nI (4 + 6 * B + 2)) (nI_add _ 2) ?_
  refine va_sld hx hb hX hbl hbA hS (vp_in_nI (n := 4 + 6 * B + 2) (N := L) (by omega) (by omega)) d_law_467 ?_
  refine hm_top (z := xs (4 + 6 * B + 2)) (by rw [nI_clamp (by omega)]) ?_
  refine hm_top (z := x2) ex2 ?_
  by_cases hsh : S.tn 0 < 11
  · refine hm_calli hS hM hA (va_runV (As := [.int x1, .int x2]) (rest := []) X (c_check_short l D k f (aF a 0) S.u (aF a) (S.tn 0) (S.tx 0) S.ky x1 x2 (hcs.F 0 rfl) (hcs.F 7 rfl) (hcs.F 17 rfl) (hcs.F 11 rfl) hsh H.size) (hm_cwV hts me_GrantServer_check wl_GrantServerLaw_54 rfl rfl ⟨Nat.le_of_ble_eq_true rfl, Nat.le_of_ble_eq_true rfl⟩) (hm_preV hM hK (hcs.F 0 rfl) rfl) rfl rfl hl.1 rfl (lv_room (Nat.le_of_ble_eq_true rfl)) d_law_468 ⟨(show C + 0 ≤ 600000 by omega), (show Sl + 0 ≤ 7302250 by omega)⟩) (fun r103 f101 H locs p102 hM hS => ?_)
    obtain ⟨rfl, rfl⟩ := p102
    refine lv_aload_n hx hb d_law_471 rfl (lv_at hl 1 rfl) ?_
    refine lv_aload_n hx hb d_law_472 rfl (lv_at hl 3 rfl) ?_
    refine lv_iload_n hx hb d_law_473 rfl (lv_at hl 0 rfl) ?_
    refine lv_iconst (v := 1) hx hb d_law_474 (by decide) ?_
    refine lv_iadd hx hb d_law_475 ?_
    refine hm_top (z := nI (4 + 6 * B + 1)) (nI_add _ 1) ?_
    refine va_sld hx hb hX hbl hbA hS (vp_in_nI (n := 4 + 6 * B + 1) (N := L) (by omega) (by omega)) d_law_476 ?_
    refine hm_top (z := xs (4 + 6 * B + 1)) (by rw [nI_clamp (by omega)]) ?_
    refine hm_top (z := x1) ex1 ?_
    refine lv_aload_n hx hb d_law_477 rfl (lv_at hl 3 rfl) ?_
    refine lv_iload_n hx hb d_law_478 rfl (lv_at hl 0 rfl) ?_
    refine lv_iconst (v := 2) hx hb d_law_479 (by decide) ?_
    refine lv_iadd hx hb d_law_480 ?_
    refine hm_top (z := nI (4 + 6 * B + 2)) (nI_add _ 2) ?_
    refine va_sld hx hb hX hbl hbA hS (vp_in_nI (n := 4 + 6 * B + 2) (N := L) (by omega) (by omega)) d_law_481 ?_
    refine hm_top (z := xs (4 + 6 * B + 2)) (by rw [nI_clamp (by omega)]) ?_
    refine hm_top (z := x2) ex2 ?_
    refine hm_calli hS hM hA (va_runV (As := [.int x1, .int x2]) (rest := [.int (-7)]) X (m_c_check_short l D k f h9 adM sk v c x1 x2 (S.tn 0) hmo hrl.t0.vn hsh H.size) (hm_cwV hts me_GrantServerModel_check wl_GrantServerLaw_57 rfl rfl ⟨Nat.le_of_ble_eq_true rfl, Nat.le_of_ble_eq_true rfl⟩) (hm_preV hM hK hmo.1 rfl) rfl rfl hl.1 rfl (lv_room (Nat.le_of_ble_eq_true rfl)) d_law_482 ⟨(show C + 0 + 0 ≤ 600000 by omega), (show Sl + 0 + 0 ≤ 7302250 by omega)⟩) (fun r106 f104 H locs p105 hM hS => ?_)
    obtain ⟨rfl, rfl⟩ := p105
    refine lv_icmp_eq (tgt := 749) hx hb d_law_485 (by decide) (fun h107 => ?_) (fun h107 => ?_)
    · refine W.widen (k := C + 1) (n := Sl + 3) (by omega) (by omega) ?_
      exact next _ _ _ _ _ _ _ _ rfl ⟨hcs, hdj, hmo, hrl.same⟩ hM hS
    · exact absurd rfl h107
  · have hn11 : 11 ≤ S.tn 0 := Nat.le_of_not_lt hsh
    have hxm : ∀ j, j < S.tn 0 → c 23 j = nI (S.tx 0 j).toNatClampNeg ∧ (S.tx 0 j).toNatClampNeg < 127 := fun j hj => ⟨(hrl.t0.eq j hj).symm.trans (hrl.t0.cx j hj).1, (hrl.t0.cx j hj).2⟩
    have hcg : ∀ j, j < S.tn 0 → S.tx 0 j = c 23 j := hrl.t0.eq
    by_cases hfo : z_form (S.tn 0) (S.tx 0)
    · have hfo2 := (z_form_cg hcg).mp hfo
      by_cases hse : z_sealed S.ky.toInt64 (S.tn 0) (S.tx 0)
      · have hse2 : z_sealed sk (S.tn 0) (c 23) := hrl.sk ▸ (z_sealed_cg hn11 hcg).mp hse
        refine hm_calli hS hM hA (va_runV (As := [.int x1, .int x2]) (rest := []) X (c_ck l D k sA sV f (aF a 0) S.u (aF a) S.us a.g S.w (cm a S) (o_fv S 0) (o_fv S 1) (o_fv S 2) (S.tn 0) (S.tx 0) (fun j => (S.tx 0 j).toNatClampNeg) S.ky x1 x2 (nI (S.tn 2)) (S.tx 2) S.ra S.rd S.rs (hcs.F 0 rfl) (hcs.F 6 rfl) (hcs.F 16 rfl) (hcs.F 7 rfl) (hcs.F 17 rfl) (hcs.F 9 rfl) (hcs.F 19 rfl) (hcs.F 11 rfl) (hcs.F 10 rfl) (hcs.F 20 rfl) (hcs.F 21 rfl) hcs.ap hrl.t0.le hrl.t0.cx hn11 hfo hse (o_pm_le hrl.s2.pm) (hcs.rows (by decide) (o_pm_le hrl.s2.pm)) (hcs.fam (by decide) (o_pm_le hrl.s2.pm)) H.size) (hm_cwV hts me_GrantServer_check wl_GrantServerLaw_54 rfl rfl ⟨Nat.le_of_ble_eq_true rfl, Nat.le_of_ble_eq_true rfl⟩) (hm_preVZ hZ hS hA hM hK (hcs.F 0 rfl) rfl) rfl rfl hl.1 rfl (lv_room (Nat.le_of_ble_eq_true rfl)) d_law_468 ⟨(show C + 0 ≤ 600000 by omega), (show Sl + 0 ≤ 7302250 by omega)⟩) (fun r103 f101 H locs p102 hM hS => ?_)
        obtain ⟨x104, x105, x106, x107, h108, h109, g110, g111, g112, g113, g114, hfr115⟩ := p102
        have hfrc : ∀ (q : Nat) (x : va_E), (∀ n, n ∈ [((0, 9, 0) : cX), ((0, 19, 0) : cX), ((0, 10, 0) : cX), ((0, 20, 0) : cX), ((0, 21, 0) : cX)] → c_ok S n → q ≠ a.A n) → f q = some x → f101 q = some x := fun zq zx hh hq => hfr115 zq zx (hh (0, 9, 0) (by simp) ⟨rfl, rfl⟩) (hh (0, 19, 0) (by simp) ⟨rfl, rfl⟩) (hh (0, 10, 0) (by simp) ⟨rfl, rfl⟩) (hh (0, 20, 0) (by simp) ⟨rfl, rfl⟩) (hh (0, 21, 0) (by simp) ⟨rfl, rfl⟩) hq
        have hcs : cs k f101 a (cSm S.u S.nc S.cl S.us S.w S.fm S.nf S.fa (va_up S.tn 2 ((S.tn 0 - 11) * 6 / 8)) (va_up S.tx 2 x104) x106 x107 (nI x105) S.ky) := by
          refine hcs.up [((0, 9, 0) : cX), ((0, 19, 0) : cX), ((0, 10, 0) : cX), ((0, 20, 0) : cX), ((0, 21, 0) : cX)] (fun n hn hok => ?_) hfrc (c_same (fun i hi hn => ?_) (fun s i _ _ _ => ⟨rfl, rfl⟩) (fun t _ => rfl) rfl) rfl rfl hcs.2.2.2.2
          · simp only [List.mem_cons, List.not_mem_nil, or_false] at hn
            rcases hn with hn | hn | hn | hn | hn
            · subst hn; exact g110
            · subst hn; exact g111
            · subst hn; exact g112
            · subst hn; exact g113
            · subst hn; exact g114
          · rcases c_ixs hi with r | r | r | r | r | r | r | r | r | r | r | r | r | r | r | r | r | r <;> subst r <;> first | rfl | exact absurd (by simp) hn
        have hmo := cs.mo hdj hfrc hmo
        have hdj := dj_cv (S' := cSm S.u S.nc S.cl S.us S.w S.fm S.nf S.fa (va_up S.tn 2 ((S.tn 0 - 11) * 6 / 8)) (va_up S.tx 2 x104) x106 x107 (nI x105) S.ky) rfl rfl hdj
        refine lv_aload_n hx hb d_law_471 rfl (lv_at hl 1 rfl) ?_
        refine lv_aload_n hx hb d_law_472 rfl (lv_at hl 3 rfl) ?_
        refine lv_iload_n hx hb d_law_473 rfl (lv_at hl 0 rfl) ?_
        refine lv_iconst (v := 1) hx hb d_law_474 (by decide) ?_
        refine lv_iadd hx hb d_law_475 ?_
        refine hm_top (z := nI (4 + 6 * B + 1)) (nI_add _ 1) ?_
        refine va_sld hx hb hX hbl hbA hS (vp_in_nI (n := 4 + 6 * B + 1) (N := L) (by omega) (by omega)) d_law_476 ?_
        refine hm_top (z := xs (4 + 6 * B + 1)) (by rw [nI_clamp (by omega)]) ?_
        refine hm_top (z := x1) ex1 ?_
        refine lv_aload_n hx hb d_law_477 rfl (lv_at hl 3 rfl) ?_
        refine lv_iload_n hx hb d_law_478 rfl (lv_at hl 0 rfl) ?_
        refine lv_iconst (v := 2) hx hb d_law_479 (by decide) ?_
        refine lv_iadd hx hb d_law_480 ?_
        refine hm_top (z := nI (4 + 6 * B + 2)) (nI_add _ 2) ?_
        refine va_sld hx hb hX hbl hbA hS (vp_in_nI (n := 4 + 6 * B + 2) (N := L) (by omega) (by omega)) d_law_481 ?_
        refine hm_top (z := xs (4 + 6 * B + 2)) (by rw [nI_clamp (by omega)]) ?_
        refine hm_top (z := x2) ex2 ?_
        refine hm_calli hS hM hA (va_runV (As := [.int x1, .int x2]) (rest := [.int r103]) X (m_c_ck l D k f101 h9 adM sk v c x1 x2 (S.tn 0) (c 23) (fun j => (S.tx 0 j).toNatClampNeg) (c 30) hmo hrl.t0.vn rfl hrl.t0.le hxm hn11 rfl hfo2 hse2 hrl.fm H.size) (hm_cwV hts me_GrantServerModel_check wl_GrantServerLaw_57 rfl rfl ⟨Nat.le_of_ble_eq_true rfl, Nat.le_of_ble_eq_true rfl⟩) (hm_preV hM hK hmo.1 rfl) rfl rfl hl.1 rfl (lv_room (Nat.le_of_ble_eq_true rfl)) d_law_482 ⟨(show C + 0 + 0 ≤ 600000 by omega), (show Sl + 0 + 0 ≤ 7302250 by omega)⟩) (fun r118 f116 H locs p117 hM hS => ?_)
        obtain ⟨x119, x120, x121, h122, h123, hmo, hfr124⟩ := p117
        have hcs := hcs.keep hdj hfr124
        refine lv_icmp_eq (tgt := 749) hx hb d_law_485 (by decide) (fun h125 => ?_) (fun h125 => ?_)
        · refine W.widen (k := C + 1) (n := Sl + 3) (by omega) (by omega) ?_
          exact next _ _ _ _ _ _ _ _ rfl ⟨hcs, hdj, hmo, (hrl.junk (fun e h1 h2 => (upd_ne h2).trans (upd_ne h1)) (fun e h1 h2 => (if_neg h2).trans (if_neg h1)) rfl rfl rfl rfl rfl rfl rfl rfl rfl rfl rfl rfl rfl)⟩ hM hS
        · exact absurd (o_ck hcg h108 h122 h109 h123 (by obtain ⟨T, -, t1, t2⟩ := hrl.tm; rw [t1, t2]) (fun x => hrl.dead (by omega) (cm_n 2) x)) h125
      · refine hm_calli hS hM hA (va_runV (As := [.int x1, .int x2]) (rest := []) X (c_ck_seal l D k sA sV f (aF a 0) S.u (aF a) (S.tn 0) (S.tx 0) (fun j => (S.tx 0 j).toNatClampNeg) S.ky x1 x2 (hcs.F 0 rfl) (hcs.F 7 rfl) (hcs.F 17 rfl) (hcs.F 11 rfl) hrl.t0.le hrl.t0.cx hn11 hfo hse H.size) (hm_cwV hts me_GrantServer_check wl_GrantServerLaw_54 rfl rfl ⟨Nat.le_of_ble_eq_true rfl, Nat.le_of_ble_eq_true rfl⟩) (hm_preVZ hZ hS hA hM hK (hcs.F 0 rfl) rfl) rfl rfl hl.1 rfl (lv_room (Nat.le_of_ble_eq_true rfl)) d_law_468 ⟨(show C + 0 ≤ 600000 by omega), (show Sl + 0 ≤ 7302250 by omega)⟩) (fun r103 f101 H locs p102 hM hS => ?_)
        obtain ⟨rfl, rfl⟩ := p102
        refine lv_aload_n hx hb d_law_471 rfl (lv_at hl 1 rfl) ?_
        refine lv_aload_n hx hb d_law_472 rfl (lv_at hl 3 rfl) ?_
        refine lv_iload_n hx hb d_law_473 rfl (lv_at hl 0 rfl) ?_
        refine lv_iconst (v := 1) hx hb d_law_474 (by decide) ?_
        refine lv_iadd hx hb d_law_475 ?_
        refine hm_top (z := nI (4 + 6 * B + 1)) (nI_add _ 1) ?_
        refine va_sld hx hb hX hbl hbA hS (vp_in_nI (n := 4 + 6 * B + 1) (N := L) (by omega) (by omega)) d_law_476 ?_
        refine hm_top (z := xs (4 + 6 * B + 1)) (by rw [nI_clamp (by omega)]) ?_
        refine hm_top (z := x1) ex1 ?_
        refine lv_aload_n hx hb d_law_477 rfl (lv_at hl 3 rfl) ?_
        refine lv_iload_n hx hb d_law_478 rfl (lv_at hl 0 rfl) ?_
        refine lv_iconst (v := 2) hx hb d_law_479 (by decide) ?_
        refine lv_iadd hx hb d_law_480 ?_
        refine hm_top (z := nI (4 + 6 * B + 2)) (nI_add _ 2) ?_
        refine va_sld hx hb hX hbl hbA hS (vp_in_nI (n := 4 + 6 * B + 2) (N := L) (by omega) (by omega)) d_law_481 ?_
        refine hm_top (z := xs (4 + 6 * B + 2)) (by rw [nI_clamp (by omega)]) ?_
        refine hm_top (z := x2) ex2 ?_
        refine hm_calli hS hM hA (va_runV (As := [.int x1, .int x2]) (rest := [.int (-8)]) X (m_c_ck_seal l D k f h9 adM sk v c x1 x2 (S.tn 0) (c 23) (fun j => (S.tx 0 j).toNatClampNeg) hmo hrl.t0.vn rfl hrl.t0.le hxm hn11 hfo2 (fun z => hse ((z_sealed_cg hn11 hcg).mpr (hrl.sk ▸ z))) H.size) (hm_cwV hts me_GrantServerModel_check wl_GrantServerLaw_57 rfl rfl ⟨Nat.le_of_ble_eq_true rfl, Nat.le_of_ble_eq_true rfl⟩) (hm_preV hM hK hmo.1 rfl) rfl rfl hl.1 rfl (lv_room (Nat.le_of_ble_eq_true rfl)) d_law_482 ⟨(show C + 0 + 0 ≤ 600000 by omega), (show Sl + 0 + 0 ≤ 7302250 by omega)⟩) (fun r106 f104 H locs p105 hM hS => ?_)
        obtain ⟨rfl, rfl⟩ := p105
        refine lv_icmp_eq (tgt := 749) hx hb d_law_485 (by decide) (fun h107 => ?_) (fun h107 => ?_)
        · refine W.widen (k := C + 1) (n := Sl + 3) (by omega) (by omega) ?_
          exact next _ _ _ _ _ _ _ _ rfl ⟨hcs, hdj, hmo, hrl.same⟩ hM hS
        · exact absurd rfl h107
    · refine hm_calli hS hM hA (va_runV (As := [.int x1, .int x2]) (rest := []) X (c_ck_form l D k sA sV f (aF a 0) S.u (aF a) (S.tn 0) (S.tx 0) (fun j => (S.tx 0 j).toNatClampNeg) S.ky x1 x2 (hcs.F 0 rfl) (hcs.F 7 rfl) (hcs.F 17 rfl) (hcs.F 11 rfl) hrl.t0.le hrl.t0.cx hn11 hfo H.size) (hm_cwV hts me_GrantServer_check wl_GrantServerLaw_54 rfl rfl ⟨Nat.le_of_ble_eq_true rfl, Nat.le_of_ble_eq_true rfl⟩) (hm_preVZ hZ hS hA hM hK (hcs.F 0 rfl) rfl) rfl rfl hl.1 rfl (lv_room (Nat.le_of_ble_eq_true rfl)) d_law_468 ⟨(show C + 0 ≤ 600000 by omega), (show Sl + 0 ≤ 7302250 by omega)⟩) (fun r103 f101 H locs p102 hM hS => ?_)
      obtain ⟨rfl, rfl⟩ := p102
      refine lv_aload_n hx hb d_law_471 rfl (lv_at hl 1 rfl) ?_
      refine lv_aload_n hx hb d_law_472 rfl (lv_at hl 3 rfl) ?_
      refine lv_iload_n hx hb d_law_473 rfl (lv_at hl 0 rfl) ?_
      refine lv_iconst (v := 1) hx hb d_law_474 (by decide) ?_
      refine lv_iadd hx hb d_law_475 ?_
      refine hm_top (z := nI (4 + 6 * B + 1)) (nI_add _ 1) ?_
      refine va_sld hx hb hX hbl hbA hS (vp_in_nI (n := 4 + 6 * B + 1) (N := L) (by omega) (by omega)) d_law_476 ?_
      refine hm_top (z := xs (4 + 6 * B + 1)) (by rw [nI_clamp (by omega)]) ?_
      refine hm_top (z := x1) ex1 ?_
      refine lv_aload_n hx hb d_law_477 rfl (lv_at hl 3 rfl) ?_
      refine lv_iload_n hx hb d_law_478 rfl (lv_at hl 0 rfl) ?_
      refine lv_iconst (v := 2) hx hb d_law_479 (by decide) ?_
      refine lv_iadd hx hb d_law_480 ?_
      refine hm_top (z := nI (4 + 6 * B + 2)) (nI_add _ 2) ?_
      refine va_sld hx hb hX hbl hbA hS (vp_in_nI (n := 4 + 6 * B + 2) (N := L) (by omega) (by omega)) d_law_481 ?_
      refine hm_top (z := xs (4 + 6 * B + 2)) (by rw [nI_clamp (by omega)]) ?_
      refine hm_top (z := x2) ex2 ?_
      refine hm_calli hS hM hA (va_runV (As := [.int x1, .int x2]) (rest := [.int (-7)]) X (m_c_ck_form l D k f h9 adM sk v c x1 x2 (S.tn 0) (c 23) (fun j => (S.tx 0 j).toNatClampNeg) hmo hrl.t0.vn rfl hrl.t0.le hxm hn11 (fun z => hfo ((z_form_cg hcg).mpr z)) H.size) (hm_cwV hts me_GrantServerModel_check wl_GrantServerLaw_57 rfl rfl ⟨Nat.le_of_ble_eq_true rfl, Nat.le_of_ble_eq_true rfl⟩) (hm_preV hM hK hmo.1 rfl) rfl rfl hl.1 rfl (lv_room (Nat.le_of_ble_eq_true rfl)) d_law_482 ⟨(show C + 0 + 0 ≤ 600000 by omega), (show Sl + 0 + 0 ≤ 7302250 by omega)⟩) (fun r106 f104 H locs p105 hM hS => ?_)
      obtain ⟨rfl, rfl⟩ := p105
      refine lv_icmp_eq (tgt := 749) hx hb d_law_485 (by decide) (fun h107 => ?_) (fun h107 => ?_)
      · refine W.widen (k := C + 1) (n := Sl + 3) (by omega) (by omega) ?_
        exact next _ _ _ _ _ _ _ _ rfl ⟨hcs, hdj, hmo, hrl.same⟩ hM hS
      · exact absurd rfl h107
