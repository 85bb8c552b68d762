theorem hm_arr {args : Array Value} {s : State} {ty : FieldType} (hp : match ty with | .object _ => False | _ => True) (h : (Cond.arrayClass ty).before args s = true) : ∃ cA, ArrOfT s cA ty ∧ va_RA s cA ty := by
  obtain ⟨cA, kA, comp, h1, h2, h3⟩ := Cond.arrayClass_spec h
  refine ⟨cA, fun n z => ⟨fun k h => (by cases h), kA, h2, comp, h3⟩, ?_⟩
  cases ty with
  | object C => exact hp.elim
  | _ => exact h1
theorem hm_arrO {args : Array Value} {s : State} {C : String} (h : (Cond.arrayOver (.object C)).before args s = true) : ∃ cA, ArrOfT s cA (.object C) ∧ va_RA s cA (.object C) := by
  obtain ⟨comp, cA, kA, h1, h2, h3, h4, h5⟩ := Cond.arrayOver_spec h
  exact ⟨cA, fun n z => ⟨fun k h => (by cases h), kA, h3, comp, h4⟩, kA, comp, h3, h4, h1, h5⟩
set_option maxRecDepth 100000 in
theorem law_K {args : Array Value} {s : State} (hts : ∀ w ∈ lw_tbl, w.before args s = true) : ∃ (D : va_G) (k : Nat → ClassId), hm_K D vwCl (tyL k) s := by
  have h : ∀ c : Nat, ∃ x : ClassId × (Nat → Nat), ∀ q, vwCl[c]? = some q → u_Kn s q.1 q.2.1 q.2.2 x.1 x.2 := by
    intro c
    match c with
    | 0 => obtain ⟨a, i, h⟩ := u_known (C := R_GrantServer) (T := F_GrantServer) (N := 16) (n := 16) hts (fun w h => (List.mem_filter.mp (cl_GrantServer.2.1 w h)).1) (hts (Cond.instantiable R_GrantServer 16) (List.mem_of_getElem? (i := 57) (by decide +kernel))); exact ⟨(a, i), fun q hq => by cases hq; exact h⟩
    | 1 => obtain ⟨a, i, h⟩ := u_known (C := R_Client) (T := F_Client) (N := 3) (n := 3) hts (fun w h => (List.mem_filter.mp (cl_Client.2.1 w h)).1) (hts (Cond.instantiable R_Client 3) (List.mem_of_getElem? (i := 231) (by decide +kernel))); exact ⟨(a, i), fun q hq => by cases hq; exact h⟩
    | 2 => obtain ⟨a, i, h⟩ := u_known (C := R_Family) (T := F_Family) (N := 3) (n := 3) hts (fun w h => (List.mem_filter.mp (cl_Family.2.1 w h)).1) (hts (Cond.instantiable R_Family 3) (List.mem_of_getElem? (i := 315) (by decide +kernel))); exact ⟨(a, i), fun q hq => by cases hq; exact h⟩
    | 3 => obtain ⟨a, i, h⟩ := u_known (C := R_Grant) (T := F_Grant) (N := 9) (n := 9) hts (fun w h => (List.mem_filter.mp (cl_Grant.2.1 w h)).1) (hts (Cond.instantiable R_Grant 9) (List.mem_of_getElem? (i := 74) (by decide +kernel))); exact ⟨(a, i), fun q hq => by cases hq; exact h⟩
    | 4 => obtain ⟨a, i, h⟩ := u_known (C := R_Shelf) (T := F_Shelf) (N := 2) (n := 2) hts (fun w h => (List.mem_filter.mp (cl_Shelf.2.1 w h)).1) (hts (Cond.instantiable R_Shelf 2) (List.mem_of_getElem? (i := 67) (by decide +kernel))); exact ⟨(a, i), fun q hq => by cases hq; exact h⟩
    | 5 => obtain ⟨a, i, h⟩ := u_known (C := R_Text) (T := F_Text) (N := 2) (n := 2) hts (fun w h => (List.mem_filter.mp (cl_Text.2.1 w h)).1) (hts (Cond.instantiable R_Text 2) (List.mem_of_getElem? (i := 125) (by decide +kernel))); exact ⟨(a, i), fun q hq => by cases hq; exact h⟩
    | 6 => obtain ⟨a, i, h⟩ := u_known (C := R_Wrapping) (T := F_Wrapping) (N := 1) (n := 1) hts (fun w h => (List.mem_filter.mp (cl_Wrapping.2.1 w h)).1) (hts (Cond.instantiable R_Wrapping 1) (List.mem_of_getElem? (i := 157) (by decide +kernel))); exact ⟨(a, i), fun q hq => by cases hq; exact h⟩
    | 7 => obtain ⟨a, i, h⟩ := u_known (C := R_ClaimsReader) (T := F_ClaimsReader) (N := 3) (n := 3) hts (fun w h => (List.mem_filter.mp (cl_ClaimsReader.2.1 w h)).1) (hts (Cond.instantiable R_ClaimsReader 3) (List.mem_of_getElem? (i := 139) (by decide +kernel))); exact ⟨(a, i), fun q hq => by cases hq; exact h⟩
    | 8 => obtain ⟨a, i, h⟩ := u_known (C := R_GrantServerModel) (T := F_GrantServerModel) (N := 31) (n := 31) hts (fun w h => (List.mem_filter.mp (cl_GrantServerModel.2.1 w h)).1) (hts (Cond.instantiable R_GrantServerModel 31) (List.mem_of_getElem? (i := 684) (by decide +kernel))); exact ⟨(a, i), fun q hq => by cases hq; exact h⟩
    | n + 9 => exact ⟨(0, id), fun q hq => by simp [vwCl] at hq⟩
  obtain ⟨F, hF⟩ := Classical.axiomOfChoice h
  obtain ⟨k0, hk0⟩ := hm_arr (ty := .int) trivial (hts (Cond.arrayClass .int) (List.mem_of_getElem? (i := 154) (by decide +kernel)))
  obtain ⟨k1, hk1⟩ := hm_arr (ty := .boolean) trivial (hts (Cond.arrayClass .boolean) (List.mem_of_getElem? (i := 155) (by decide +kernel)))
  obtain ⟨k2, hk2⟩ := hm_arr (ty := .char) trivial (hts (Cond.arrayClass .char) (List.mem_of_getElem? (i := 137) (by decide +kernel)))
  have ho3 := hts (Cond.arrayOver (.object "GrantServer$Grant")) (List.mem_of_getElem? (i := 73) (by decide +kernel))
  obtain ⟨k3, hk3⟩ := hm_arrO ho3
  have ho4 := hts (Cond.arrayOver (.object "GrantServer$Client")) (List.mem_of_getElem? (i := 65) (by decide +kernel))
  obtain ⟨k4, hk4⟩ := hm_arrO ho4
  refine ⟨(fun c => (F c).1, fun c => (F c).2), fun i => match i with | 0 => k0 | 1 => k1 | 2 => k2 | 3 => k3 | _ => k4, ⟨fun c q hq => hF c q hq, fun i q hq => ?_⟩, fun C hC => ?_⟩
  · match i, hq with
    | 0, hq => cases hq; exact hk0
    | 1, hq => cases hq; exact hk1
    | 2, hq => cases hq; exact hk2
    | 3, hq => cases hq; exact hk3
    | 4, hq => cases hq; exact hk4
    | n + 5, hq => simp [tyL] at hq
  · simp only [hm_ao, List.mem_cons, List.not_mem_nil, or_false] at hC
    rcases hC with rfl | rfl
    · exact va_AO.of ho3
    · exact va_AO.of ho4
def st_tm (i : Nat) : Term := .string (st_own i) (st_idx i)
set_option maxRecDepth 100000 in
theorem st_ex : ∀ i, i < 12 → Cond.exactly (st_tm i) "java/lang/String" ∈ flatC (Jvm.Cond.and given_1 narrow_1) := by decide +kernel
set_option maxRecDepth 100000 in
theorem st_co : ∀ i, i < 12 → Cond.eq (.field (st_tm i) "java/lang/String" "coder" "B") (.int 0) ∈ flatC (Jvm.Cond.and given_1 narrow_1) := by decide +kernel
set_option maxRecDepth 100000 in
theorem st_ar : ∀ i, i < 12 → Cond.arrayOf (.field (st_tm i) "java/lang/String" "value" "[B") .byte ∈ flatC (Jvm.Cond.and given_1 narrow_1) := by decide +kernel
set_option maxRecDepth 100000 in
theorem st_le : ∀ i, i < 12 → Cond.eq (.length (.field (st_tm i) "java/lang/String" "value" "[B")) (.int (Int32.ofNat (st_len.getD i 0))) ∈ flatC (Jvm.Cond.and given_1 narrow_1) := by decide +kernel
set_option maxRecDepth 100000 in
theorem st_el : ∀ i, i < 12 → ∀ j, j < st_len.getD i 0 → Cond.eq (.elem (.field (st_tm i) "java/lang/String" "value" "[B") (.int (Int32.ofNat j))) (.int ((st_byt.getD i []).getD j 0)) ∈ flatC (Jvm.Cond.and given_1 narrow_1) := by decide +kernel
set_option maxRecDepth 100000 in
theorem st_ne : ∀ i, i < 12 → ∀ j, j < 12 → i ≠ j → Cond.not (Cond.eq (st_tm i) (st_tm j)) ∈ flatC (Jvm.Cond.and given_1 narrow_1) ∨ Cond.not (Cond.eq (st_tm j) (st_tm i)) ∈ flatC (Jvm.Cond.and given_1 narrow_1) := by decide +kernel
def st_ps (i : Nat) : Nat := match i with
  | 0 => 345
  | 1 => 407
  | 2 => 408
  | 3 => 409
  | 4 => 410
  | 5 => 411
  | 6 => 424
  | 7 => 585
  | 8 => 586
  | 9 => 587
  | 10 => 588
  | _ => 589
theorem st_ref : ∀ i, i < 12 → lw_tbl[st_ps i]? = some (Cond.stringRef (st_own i) (st_idx i) (st_txt i)) := by decide +kernel
set_option maxRecDepth 100000 in
theorem law_Z {args : Array Value} {s : State} {A : Nat → Prop} (hts : ∀ w ∈ lw_tbl, w.before args s = true) (hgv : (Jvm.Cond.and given_1 narrow_1).before args s = true) (hA : ∀ a : Nat, a < s.heap.size → ¬ A a) : ∃ sA sV : Nat → Nat, hm_Z sA sV A s s.heap := by
  have hs := flat_of_before _ hgv
  obtain ⟨sA, sV, h1, h2⟩ := vk_Sof (N := 12) (tm := st_tm) (len := st_len) (byt := st_byt) (A := A) (fun i hi => Nat.lt_of_le_of_lt (st_ln i hi) (by decide)) (fun i hi => hs _ (st_ex i hi)) (fun i hi => hs _ (st_co i hi)) (fun i hi => hs _ (st_ar i hi)) (fun i hi => hs _ (st_le i hi)) (fun i hi j hj => hs _ (st_el i hi j hj)) (fun i j hi hj hij => (st_ne i hi j hj hij).imp (fun z => hs _ z) (fun z => hs _ z)) hA
  have hc := va_Zof (C := "java/lang/String") (n := "COMPACT_STRINGS") (d := "Z") (A := A) (hts (Cond.laysStatic "java/lang/String" "COMPACT_STRINGS" "Z") (List.mem_of_getElem? (i := 359) (by decide +kernel))) (hts (Cond.initialized "java/lang/String") (List.mem_of_getElem? (i := 50) (by decide +kernel))) (va_eqi (z := 1) (hs _ (by decide +kernel))) hA
  have hq := va_Zqof (C := "jdk/internal/util/Preconditions") (n := "SIOOBE_FORMATTER") (d := "Ljava/util/function/BiFunction;") (A := A) (hts (Cond.laysStatic "jdk/internal/util/Preconditions" "SIOOBE_FORMATTER" "Ljava/util/function/BiFunction;") (List.mem_of_getElem? (i := 375) (by decide +kernel))) (hts (Cond.initialized "jdk/internal/util/Preconditions") (List.mem_of_getElem? (i := 52) (by decide +kernel))) (hs _ (by decide +kernel)) hA
  refine ⟨sA, sV, h1, hc, fun i hi => vk_R.of (hts _ (List.mem_of_getElem? (st_ref i hi))) (h2 i hi), ?_⟩
  rcases hq with hq | ⟨t, hq⟩
  · exact ⟨none, hq⟩
  · exact ⟨some t, hq⟩
