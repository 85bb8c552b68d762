set_option maxRecDepth 20000 in
theorem me_GrantServerLaw_cell : hm_meS y_GrantServerLaw_cell b_GrantServerLaw_cell 2 (some .int) 2 := ⟨⟨(TBm 682 rfl rfl), (TBm 39 (by decide +kernel) rfl), by decide +kernel⟩, (TBm 681 (by decide +kernel) rfl)⟩
set_option maxRecDepth 20000 in
theorem me_GrantServerModel_init : hm_meI y_GrantServerModel_init b_GrantServerModel_init 5 4 := ⟨⟨(TBm 687 rfl rfl), (TBm 47 (by decide +kernel) rfl), by decide +kernel⟩, (TBm 686 (by decide +kernel) rfl), rfl⟩
set_option maxRecDepth 20000 in
theorem me_GrantServer_init : hm_meI y_GrantServer_init b_GrantServer_init 5 4 := ⟨⟨(TBm 60 rfl rfl), (TBm 40 (by decide +kernel) rfl), by decide +kernel⟩, (TBm 59 (by decide +kernel) rfl), rfl⟩
set_option maxRecDepth 20000 in
theorem nw_GrantServerLaw_18 : hm_nw vwCl TB R_GrantServerLaw 18 8 31 [.long 0, .int 0, .int 0, .int 0, .int 0, .null, .null, .null, .int 0, .int 0, .null, .null, .null, .null, .null, .null, .null, .null, .int 0, .null, .null, .null, .int 0, .null, .int 0, .null, .int 0, .null, .int 0, .int 0, .null] := ⟨_, _, _, cl_GrantServerModel, (TBm 683 (by decide +kernel) rfl), (TBm 684 (by decide +kernel) rfl), (TBm 47 (by decide +kernel) rfl), by decide +kernel⟩
set_option maxRecDepth 20000 in
theorem nw_GrantServerLaw_7 : hm_nw vwCl TB R_GrantServerLaw 7 0 16 [.int 0, .int 0, .int 0, .null, .null, .null, .null, .null, .null, .null, .null, .null, .int 0, .int 0, .int 0, .int 0] := ⟨_, _, _, cl_GrantServer, (TBm 56 (by decide +kernel) rfl), (TBm 57 (by decide +kernel) rfl), (TBm 40 (by decide +kernel) rfl), by decide +kernel⟩
set_option maxRecDepth 20000 in
theorem wl_GrantServerLaw_15 : Cond.methodLink R_GrantServerLaw 15 y_GrantServer_init ∈ TB := TBm 58 (by decide +kernel) rfl
set_option maxRecDepth 20000 in
theorem wl_GrantServerLaw_20 : Cond.methodLink R_GrantServerLaw 20 y_GrantServerModel_init ∈ TB := TBm 685 (by decide +kernel) rfl
set_option maxRecDepth 20000 in
theorem wl_GrantServerLaw_9 : Cond.methodLink R_GrantServerLaw 9 y_GrantServerLaw_cell ∈ TB := TBm 680 (by decide +kernel) rfl
set_option maxHeartbeats 40000000 in
set_option maxRecDepth 100000 in
theorem whole_start {p : Program} {e : Env} {s : State} {m : MethodId} {below : List Frame} {meth : Method} {c : Code} (l : Launch) {b L : Nat} {xs : Nat → Int32} (hL : L ≤ 3076) (C0 : lw_At p s m meth c b L xs) : W p l e room_1 s m #[Value.ref b] below meth c s.heap [] 0 0 (lw_Z below #[Value.ref b] s) (entryFrame m ([Value.ref b] : List Value).toArray 4) := by
  obtain ⟨hx, hb, hr, hml, hown, hts0, hX, hbl, hlk, hgv⟩ := C0
  have hts : ∀ w ∈ TB, w.before #[Value.ref b] s = true := fun w h => hts0 w (List.mem_filter.mp h).1
  obtain ⟨D, k, hK⟩ := law_K hts0
  obtain ⟨A, hA, hbA, hAe⟩ : ∃ A : Nat → Prop, (∀ q, s.heap.size ≤ q → A q) ∧ ¬ A b ∧ (∀ q, A q → s.heap.size ≤ q) := ⟨fun q => s.heap.size ≤ q, fun _ h => h, Nat.not_le.mpr hbl, fun _ h => h⟩
  obtain ⟨sA, sV, hZ⟩ := law_Z (A := A) hts0 hgv (fun a h1 h2 => absurd (hAe a h2) (Nat.not_le.mpr h1))
  obtain ⟨f0, hM⟩ : ∃ f0 : hm, hm_W D vwCl A f0 s.heap := ⟨fun _ => none, hm_W.nil⟩
  have X : CallFix p m c code 4 s #[Value.ref b] TB R_GrantServerLaw := ⟨hx, hb, hml, hown, hts⟩
  have hS : va_S A s.heap s.heap [] := va_S.rf
  rw [lg_entry_eq]
  have hl := lv_entry ([Value.ref b]) (n := 4) (Nat.le_of_ble_eq_true rfl)
  generalize (lg_sl ([Value.ref b]) ++ List.replicate (4 - (lg_sl ([Value.ref b])).length) Slot.unset).toArray = ls at hl ⊢
  have hl : lv_has ls 4 [(0, .ref b)] := hl
  refine hm_new X hK hM hS hA nw_GrantServerLaw_7 (by decide) (by decide) d_law_0 (fun q1 f2 H e3 z4 hM hS => ?_)
  have g5 : f2 q1 = some (.inr (0, [.int 0, .int 0, .int 0, .null, .null, .null, .null, .null, .null, .null, .null, .null, .int 0, .int 0, .int 0, .int 0])) := hm_new1 e3
  refine lv_dup hx hb d_law_3 rfl ?_
  refine lv_aload_n hx hb d_law_4 rfl (lv_at hl 0 rfl) ?_
  refine lv_iconst (v := 0) hx hb d_law_5 (by decide) ?_
  refine hm_calli hS hM hA (va_runS (As := [.ref b, .int 0]) (rest := [.ref q1, .ref q1]) X (c_cell l D k f2 b L xs 0 (by omega) (by decide) H.size) (hm_cwS hts me_GrantServerLaw_cell wl_GrantServerLaw_9 rfl rfl ⟨Nat.le_of_ble_eq_true rfl, Nat.le_of_ble_eq_true rfl⟩) (hm_preSX hX hbl hbA hS hA hM hK) rfl rfl hl.1 rfl (lv_room (Nat.le_of_ble_eq_true rfl)) d_law_6 ⟨Nat.le_of_ble_eq_true rfl, Nat.le_of_ble_eq_true rfl⟩) (fun r7 f8 H locs p6 hM hS => ?_)
  obtain ⟨rfl, rfl⟩ := p6
  refine lv_topi (fun y0 ey0 => ?_)
  refine lv_aload_n hx hb d_law_9 rfl (lv_at hl 0 rfl) ?_
  refine lv_iconst (v := 1) hx hb d_law_10 (by decide) ?_
  refine hm_calli hS hM hA (va_runS (As := [.ref b, .int 1]) (rest := [.int y0, .ref q1, .ref q1]) X (c_cell l D k f2 b L xs 1 (by omega) (by decide) H.size) (hm_cwS hts me_GrantServerLaw_cell wl_GrantServerLaw_9 rfl rfl ⟨Nat.le_of_ble_eq_true rfl, Nat.le_of_ble_eq_true rfl⟩) (hm_preSX hX hbl hbA hS hA hM hK) rfl rfl hl.1 rfl (lv_room (Nat.le_of_ble_eq_true rfl)) d_law_11 ⟨Nat.le_of_ble_eq_true rfl, Nat.le_of_ble_eq_true rfl⟩) (fun r10 f11 H locs p9 hM hS => ?_)
  obtain ⟨rfl, rfl⟩ := p9
  refine lv_topi (fun y1 ey1 => ?_)
  refine lv_aload_n hx hb d_law_14 rfl (lv_at hl 0 rfl) ?_
  refine lv_iconst (v := 2) hx hb d_law_15 (by decide) ?_
  refine hm_calli hS hM hA (va_runS (As := [.ref b, .int 2]) (rest := [.int y1, .int y0, .ref q1, .ref q1]) X (c_cell l D k f2 b L xs 2 (by omega) (by decide) H.size) (hm_cwS hts me_GrantServerLaw_cell wl_GrantServerLaw_9 rfl rfl ⟨Nat.le_of_ble_eq_true rfl, Nat.le_of_ble_eq_true rfl⟩) (hm_preSX hX hbl hbA hS hA hM hK) rfl rfl hl.1 rfl (lv_room (Nat.le_of_ble_eq_true rfl)) d_law_16 ⟨Nat.le_of_ble_eq_true rfl, Nat.le_of_ble_eq_true rfl⟩) (fun r13 f14 H locs p12 hM hS => ?_)
  obtain ⟨rfl, rfl⟩ := p12
  refine lv_topi (fun y2 ey2 => ?_)
  refine lv_aload_n hx hb d_law_19 rfl (lv_at hl 0 rfl) ?_
  refine lv_iconst (v := 3) hx hb d_law_20 (by decide) ?_
  refine hm_calli hS hM hA (va_runS (As := [.ref b, .int 3]) (rest := [.int y2, .int y1, .int y0, .ref q1, .ref q1]) X (c_cell l D k f2 b L xs 3 (by omega) (by decide) H.size) (hm_cwS hts me_GrantServerLaw_cell wl_GrantServerLaw_9 rfl rfl ⟨Nat.le_of_ble_eq_true rfl, Nat.le_of_ble_eq_true rfl⟩) (hm_preSX hX hbl hbA hS hA hM hK) rfl rfl hl.1 rfl (lv_room (Nat.le_of_ble_eq_true rfl)) d_law_21 ⟨Nat.le_of_ble_eq_true rfl, Nat.le_of_ble_eq_true rfl⟩) (fun r16 f17 H locs p15 hM hS => ?_)
  obtain ⟨rfl, rfl⟩ := p15
  refine lv_topi (fun y3 ey3 => ?_)
  refine hm_callv hS hM hA (va_runI (As := [.int y0, .int y1, .int y2, .int y3]) (rest := [.ref q1]) X (c_GS_init l D k f2 q1 y0 y1 y2 y3 g5 H.size) (hm_cwI hts me_GrantServer_init wl_GrantServerLaw_15 rfl rfl ⟨Nat.le_of_ble_eq_true rfl, Nat.le_of_ble_eq_true rfl⟩) (hm_preS hM hK) rfl rfl hl.1 rfl (lv_room (Nat.le_of_ble_eq_true rfl)) d_law_24 ⟨Nat.le_of_ble_eq_true rfl, Nat.le_of_ble_eq_true rfl⟩) (fun f18 H locs p19 hM hS => ?_)
  obtain ⟨adC, g9, hgs, hap, hnoC, hrC, hfrC⟩ := p19
  have hcs := cs_0 hgs hap hrC
  refine lv_astore_n (lv' := [(1, .ref q1), (0, .ref b)]) hx hb d_law_27 rfl hl (by decide) rfl (fun ls hl => ?_)
  refine hm_new X hK hM hS hA nw_GrantServerLaw_18 (by decide) (by decide) d_law_28 (fun q20 f21 H e22 z23 hM hS => ?_)
  have g24 : f21 q20 = some (.inr (8, [.long 0, .int 0, .int 0, .int 0, .int 0, .null, .null, .null, .int 0, .int 0, .null, .null, .null, .null, .null, .null, .null, .null, .int 0, .null, .null, .null, .int 0, .null, .int 0, .null, .int 0, .null, .int 0, .int 0, .null])) := hm_new1 e22
  refine lv_dup hx hb d_law_31 rfl ?_
  refine lv_aload_n hx hb d_law_32 rfl (lv_at hl 1 rfl) ?_
  refine lv_iconst (v := 0) hx hb d_law_33 (by decide) ?_
  refine hm_calli hS hM hA (va_runS (As := [.ref b, .int 0]) (rest := [.ref q20, .ref q20]) X (c_cell l D k f21 b L xs 0 (by omega) (by decide) H.size) (hm_cwS hts me_GrantServerLaw_cell wl_GrantServerLaw_9 rfl rfl ⟨Nat.le_of_ble_eq_true rfl, Nat.le_of_ble_eq_true rfl⟩) (hm_preSX hX hbl hbA hS hA hM hK) rfl rfl hl.1 rfl (lv_room (Nat.le_of_ble_eq_true rfl)) d_law_34 ⟨Nat.le_of_ble_eq_true rfl, Nat.le_of_ble_eq_true rfl⟩) (fun r26 f27 H locs p25 hM hS => ?_)
  obtain ⟨rfl, rfl⟩ := p25
  refine hm_top (z := y0) ey0.symm ?_
  refine lv_aload_n hx hb d_law_37 rfl (lv_at hl 1 rfl) ?_
  refine lv_iconst (v := 1) hx hb d_law_38 (by decide) ?_
  refine hm_calli hS hM hA (va_runS (As := [.ref b, .int 1]) (rest := [.int y0, .ref q20, .ref q20]) X (c_cell l D k f21 b L xs 1 (by omega) (by decide) H.size) (hm_cwS hts me_GrantServerLaw_cell wl_GrantServerLaw_9 rfl rfl ⟨Nat.le_of_ble_eq_true rfl, Nat.le_of_ble_eq_true rfl⟩) (hm_preSX hX hbl hbA hS hA hM hK) rfl rfl hl.1 rfl (lv_room (Nat.le_of_ble_eq_true rfl)) d_law_39 ⟨Nat.le_of_ble_eq_true rfl, Nat.le_of_ble_eq_true rfl⟩) (fun r29 f30 H locs p28 hM hS => ?_)
  obtain ⟨rfl, rfl⟩ := p28
  refine hm_top (z := y1) ey1.symm ?_
  refine lv_aload_n hx hb d_law_42 rfl (lv_at hl 1 rfl) ?_
  refine lv_iconst (v := 2) hx hb d_law_43 (by decide) ?_
  refine hm_calli hS hM hA (va_runS (As := [.ref b, .int 2]) (rest := [.int y1, .int y0, .ref q20, .ref q20]) X (c_cell l D k f21 b L xs 2 (by omega) (by decide) H.size) (hm_cwS hts me_GrantServerLaw_cell wl_GrantServerLaw_9 rfl rfl ⟨Nat.le_of_ble_eq_true rfl, Nat.le_of_ble_eq_true rfl⟩) (hm_preSX hX hbl hbA hS hA hM hK) rfl rfl hl.1 rfl (lv_room (Nat.le_of_ble_eq_true rfl)) d_law_44 ⟨Nat.le_of_ble_eq_true rfl, Nat.le_of_ble_eq_true rfl⟩) (fun r32 f33 H locs p31 hM hS => ?_)
  obtain ⟨rfl, rfl⟩ := p31
  refine hm_top (z := y2) ey2.symm ?_
  refine lv_aload_n hx hb d_law_47 rfl (lv_at hl 1 rfl) ?_
  refine lv_iconst (v := 3) hx hb d_law_48 (by decide) ?_
  refine hm_calli hS hM hA (va_runS (As := [.ref b, .int 3]) (rest := [.int y2, .int y1, .int y0, .ref q20, .ref q20]) X (c_cell l D k f21 b L xs 3 (by omega) (by decide) H.size) (hm_cwS hts me_GrantServerLaw_cell wl_GrantServerLaw_9 rfl rfl ⟨Nat.le_of_ble_eq_true rfl, Nat.le_of_ble_eq_true rfl⟩) (hm_preSX hX hbl hbA hS hA hM hK) rfl rfl hl.1 rfl (lv_room (Nat.le_of_ble_eq_true rfl)) d_law_49 ⟨Nat.le_of_ble_eq_true rfl, Nat.le_of_ble_eq_true rfl⟩) (fun r35 f36 H locs p34 hM hS => ?_)
  obtain ⟨rfl, rfl⟩ := p34
  refine hm_top (z := y3) ey3.symm ?_
  refine hm_callv hS hM hA (va_runI (As := [.int y0, .int y1, .int y2, .int y3]) (rest := [.ref q20]) X (m_c_init l D k f21 q20 y0 y1 y2 y3 g24 H.size) (hm_cwI hts me_GrantServerModel_init wl_GrantServerLaw_20 rfl rfl ⟨Nat.le_of_ble_eq_true rfl, Nat.le_of_ble_eq_true rfl⟩) (hm_preS hM hK) rfl rfl hl.1 rfl (lv_room (Nat.le_of_ble_eq_true rfl)) d_law_52 ⟨Nat.le_of_ble_eq_true rfl, Nat.le_of_ble_eq_true rfl⟩) (fun f37 H locs p38 hM hS => ?_)
  obtain ⟨adM, hmo, hnoM, hfrM⟩ := p38
  have hk9 : ∀ (zq : Nat) (zx : va_E), f18 zq = some zx → f37 zq = some zx := fun zq zx hq => hfrM _ _ (hm_ne0 hq z23) (hm_keep e22 (hm_ne0 hq z23) hq)
  have hdj0 : ∀ (zq : Nat) (zx : va_E), f18 zq = some zx → ¬ mo_own q20 adM zq := fun zq zx hq ho => ho.elim (fun h1 => (hm_ne0 hq z23) h1) (fun h1 => h1.elim (fun i h2 => (hm_ne0 hq (hm_none e22 (hnoM i h2.1 h2.2.1))) h2.2.2))
  have hI0 := (⟨⟨fun n hn => hk9 _ _ (hcs.1 n hn), hcs.2⟩, fun n hn => hdj0 _ _ (hcs.1 n hn), hmo, rl_0 y0 y1 y2 y3⟩ : lw_I k f37 _ _ q20 adM _ _ _ _ 0)
  refine lv_astore_n (lv' := [(2, .ref q20), (1, .ref q1), (0, .ref b)]) hx hb d_law_55 rfl hl (by decide) rfl (fun ls hl => ?_)
  refine lv_iconst (v := 4) hx hb d_law_56 (by decide) ?_
  refine hm_top (z := nI (4 + 6 * 0)) rfl ?_
  refine lv_istore_n (lv' := [(3, .int (nI (4 + 6 * 0))), (2, .ref q20), (1, .ref q1), (0, .ref b)]) hx hb d_law_57 rfl hl (by decide) rfl (fun ls hl => ?_)
  have loop : ∀ (fu B : Nat) (f : hm) (a : cA) (S : cS) (sg : Nat → Nat → Nat) (v : Nat → Int32) (c9 : Nat → Nat → Int32) (H : Heap) (locs : List Loc) (ls : Array Slot), 512 - B < fu → B ≤ 512 → aF a 0 = q1 → lw_I k f a S q20 adM y0.toInt64 v c9 sg B → hm_W D vwCl A f H → va_S A s.heap H locs → lv_has ls 4 [(3, .int (nI (4 + 6 * B))), (2, .ref q20), (1, .ref q1), (0, .ref b)] → W p l e room_1 s m #[Value.ref b] below meth c H locs (101 + B) (3440 + 3 * B) (lw_Z below #[Value.ref b] s) (F0 m 58 ls []) := by
    intro fu
    induction fu with
    | zero => intro B f a S sg v c9 H locs ls hmu; exact absurd hmu (Nat.not_lt_zero _)
    | succ fu ih =>
      intro B f a S sg v c9 H locs ls hmu hB5 eh hI hM hS hl
      subst eh
      have nx : B < 512 → ∀ (f' : hm) (a' : cA) (S' : cS) (sg' : Nat → Nat → Nat) (v' : Nat → Int32) (c' : Nat → Nat → Int32) (H' : Heap) (locs' : List Loc), aF a' 0 = aF a 0 → lw_I k f' a' S' q20 adM y0.toInt64 v' c' sg' (B + 1) → hm_W D vwCl A f' H' → va_S A s.heap H' locs' → W p l e room_1 s m #[Value.ref b] below meth c H' locs' (101 + B + 1) (3440 + 3 * B + 3) (lw_Z below #[Value.ref b] s) (F0 m 749 ls []) := by
        intro hB f' a' S' sg' v' c' H' locs' ea hI hM hS
        refine lv_iinc (lv' := [(3, .int (nI (4 + 6 * (B + 1)))), (2, .ref q20), (1, .ref (aF a 0)), (0, .ref b)]) hx hb d_law_749 hl (k := 0) rfl (nI_add (4 + 6 * B) 6) (by decide) rfl (fun ls hl => ?_)
        refine lv_goto (tgt := 58) hx hb d_law_752 (by decide) ?_
        exact ih (B + 1) f' a' S' sg' v' c' H' locs' ls (by omega) (by omega) ea hI hM hS hl
      refine lv_iload_n hx hb d_law_58 rfl (lv_at hl 0 rfl) ?_
      refine lv_aload_n hx hb d_law_59 rfl (lv_at hl 3 rfl) ?_
      refine va_slen hx hb hX hbl hbA hS d_law_60 ?_
      refine hm_top (z := nI L) rfl ?_
      refine lv_bipush (v := 6) hx hb d_law_61 (by decide) ?_
      refine lv_isub hx hb d_law_63 ?_
      refine lv_icmp_gt (tgt := 755) hx hb d_law_64 (by decide) (fun h201 => ?_) (fun h201 => ?_)
      · refine lv_iconst (v := 1) hx hb d_law_755 (by decide) ?_
        refine va_forget (fun q hq => hAe _ (hS.2.2 q hq)) ?_
        refine W.widen (k := 600000) (n := 7302250) (by omega) (by omega) ?_
        exact lw_ret hx hb hr hlk d_law_756
      · have hlt : 4 + 6 * B + 6 ≤ L := by have z := mt (lw_cmp (i := 4 + 6 * B) (by omega) (by omega)).mpr h201; omega
        have hB : B < 512 := by omega
        refine lv_aload_n hx hb d_law_67 rfl (lv_at hl 3 rfl) ?_
        refine lv_iload_n hx hb d_law_68 rfl (lv_at hl 0 rfl) ?_
        refine va_sld hx hb hX hbl hbA hS (vp_in_nI (n := 4 + 6 * B) (N := L) (by omega) (by omega)) d_law_69 ?_
        refine hm_top (z := xs (4 + 6 * B)) (by rw [nI_clamp (by omega)]) ?_
        refine lv_bipush (v := 31) hx hb d_law_70 (by decide) ?_
        refine lv_iand hx hb d_law_72 ?_
        refine lv_topi (fun sw esw => ?_)
        by_cases h202 : sw = 0
        · refine lv_tableIn (tgt := 156) hx hb d_law_73 (by rw [h202]; decide) (by rw [h202]; decide) (by rw [h202]; rfl) (by decide) ?_
          exact lw_c0 X hX hbl hbA hK hA hZ hB hlt hL (by omega) (by omega) hI hM hS hl (nx hB)
        by_cases h203 : sw = 1
        · refine lv_tableIn (tgt := 199) hx hb d_law_73 (by rw [h203]; decide) (by rw [h203]; decide) (by rw [h203]; rfl) (by decide) ?_
          exact lw_c1 X hX hbl hbA hK hA hZ hB hlt hL (by omega) (by omega) hI hM hS hl (nx hB)
        by_cases h204 : sw = 2
        · refine lv_tableIn (tgt := 232) hx hb d_law_73 (by rw [h204]; decide) (by rw [h204]; decide) (by rw [h204]; rfl) (by decide) ?_
          exact lw_c2 X hX hbl hbA hK hA hZ hB hlt hL (by omega) (by omega) hI hM hS hl (nx hB)
        by_cases h205 : sw = 3
        · refine lv_tableIn (tgt := 295) hx hb d_law_73 (by rw [h205]; decide) (by rw [h205]; decide) (by rw [h205]; rfl) (by decide) ?_
          exact lw_c3 X hX hbl hbA hK hA hZ hB hlt hL (by omega) (by omega) hI hM hS hl (nx hB)
        by_cases h206 : sw = 4
        · refine lv_tableIn (tgt := 348) hx hb d_law_73 (by rw [h206]; decide) (by rw [h206]; decide) (by rw [h206]; rfl) (by decide) ?_
          exact lw_c4 X hX hbl hbA hK hA hZ hB hlt hL (by omega) (by omega) hI hM hS hl (nx hB)
        by_cases h207 : sw = 5
        · refine lv_tableIn (tgt := 391) hx hb d_law_73 (by rw [h207]; decide) (by rw [h207]; decide) (by rw [h207]; rfl) (by decide) ?_
          exact lw_c5 X hX hbl hbA hK hA hZ hB hlt hL (by omega) (by omega) hI hM hS hl (nx hB)
        by_cases h208 : sw = 6
        · refine lv_tableIn (tgt := 424) hx hb d_law_73 (by rw [h208]; decide) (by rw [h208]; decide) (by rw [h208]; rfl) (by decide) ?_
          exact lw_c6 X hX hbl hbA hK hA hZ hB hlt hL (by omega) (by omega) hI hM hS hl (nx hB)
        by_cases h209 : sw = 7
        · refine lv_tableIn (tgt := 457) hx hb d_law_73 (by rw [h209]; decide) (by rw [h209]; decide) (by rw [h209]; rfl) (by decide) ?_
          exact lw_c7 X hX hbl hbA hK hA hZ hB hlt hL (by omega) (by omega) hI hM hS hl (nx hB)
        by_cases h210 : sw = 8
        · refine lv_tableIn (tgt := 490) hx hb d_law_73 (by rw [h210]; decide) (by rw [h210]; decide) (by rw [h210]; rfl) (by decide) ?_
          exact lw_c8 X hX hbl hbA hK hA hZ hB hlt hL (by omega) (by omega) hI hM hS hl (nx hB)
        by_cases h211 : sw = 9
        · refine lv_tableIn (tgt := 515) hx hb d_law_73 (by rw [h211]; decide) (by rw [h211]; decide) (by rw [h211]; rfl) (by decide) ?_
          exact lw_c9 X hX hbl hbA hK hA hZ hB hlt hL (by omega) (by omega) hI hM hS hl (nx hB)
        by_cases h212 : sw = 10
        · refine lv_tableIn (tgt := 550) hx hb d_law_73 (by rw [h212]; decide) (by rw [h212]; decide) (by rw [h212]; rfl) (by decide) ?_
          exact lw_c10 X hX hbl hbA hK hA hZ hB hlt hL (by omega) (by omega) hI hM hS hl (nx hB)
        by_cases h213 : sw = 11
        · refine lv_tableIn (tgt := 589) hx hb d_law_73 (by rw [h213]; decide) (by rw [h213]; decide) (by rw [h213]; rfl) (by decide) ?_
          exact lw_c11 X hX hbl hbA hK hA hZ hB hlt hL (by omega) (by omega) hI hM hS hl (nx hB)
        by_cases h214 : sw = 12
        · refine lv_tableIn (tgt := 638) hx hb d_law_73 (by rw [h214]; decide) (by rw [h214]; decide) (by rw [h214]; rfl) (by decide) ?_
          exact lw_c12 X hX hbl hbA hK hA hZ hB hlt hL (by omega) (by omega) hI hM hS hl (nx hB)
        by_cases h215 : sw = 13
        · refine lv_tableIn (tgt := 651) hx hb d_law_73 (by rw [h215]; decide) (by rw [h215]; decide) (by rw [h215]; rfl) (by decide) ?_
          exact lw_c13 X hX hbl hbA hK hA hZ hB hlt hL (by omega) (by omega) hI hM hS hl (nx hB)
        by_cases h216 : sw = 14
        · refine lv_tableIn (tgt := 664) hx hb d_law_73 (by rw [h216]; decide) (by rw [h216]; decide) (by rw [h216]; rfl) (by decide) ?_
          exact lw_c14 X hX hbl hbA hK hA hZ hB hlt hL (by omega) (by omega) hI hM hS hl (nx hB)
        by_cases h217 : sw = 15
        · refine lv_tableIn (tgt := 687) hx hb d_law_73 (by rw [h217]; decide) (by rw [h217]; decide) (by rw [h217]; rfl) (by decide) ?_
          exact lw_c15 X hX hbl hbA hK hA hZ hB hlt hL (by omega) (by omega) hI hM hS hl (nx hB)
        by_cases h218 : sw = 16
        · refine lv_tableIn (tgt := 700) hx hb d_law_73 (by rw [h218]; decide) (by rw [h218]; decide) (by rw [h218]; rfl) (by decide) ?_
          exact lw_c16 X hX hbl hbA hK hA hZ hB hlt hL (by omega) (by omega) hI hM hS hl (nx hB)
        refine lv_tableOut (tgt := 749) hx hb d_law_73 (hm_sw17 h202 h203 h204 h205 h206 h207 h208 h209 h210 h211 h212 h213 h214 h215 h216 h217 h218) (by decide) ?_
        refine W.widen (k := 101 + B + 1) (n := 3440 + 3 * B + 3) (by omega) (by omega) ?_
        exact nx hB _ _ _ _ _ _ _ _ rfl ⟨hI.1, hI.2.1, hI.2.2.1, hI.2.2.2.same⟩ hM hS
  exact loop 513 0 _ _ _ _ _ _ H locs ls (by omega) (by omega) rfl hI0 hM hS (lv_sub hl [0, 1, 2, 3] rfl)
