section
/-! The world as a finite map from addresses to cells: every method gets the whole map and gives a whole map back. Rows over the kit's, proved once. -/
abbrev hm : Type := Nat → Option va_E
def hm_up (f : hm) (a : Nat) (e : va_E) : hm := fun q => if q = a then some e else f q
theorem hm_up_s (f : hm) (a : Nat) (e : va_E) : hm_up f a e a = some e := by simp [hm_up]
theorem hm_up_n {f : hm} {a b : Nat} {e : va_E} (h : b ≠ a) : hm_up f a e b = f b := by simp [hm_up, h]
def hm_ok (ws : va_W) (f : hm) : Prop := ∀ (a : Nat) (e : va_E), f a = some e ↔ ∃ k : Nat, ws[k]? = some (a, e)
def hm_W (D : va_G) (cl : List vw_C) (A : Nat → Prop) (f : hm) (H : Heap) : Prop := ∃ ws : va_W, va_P D cl ws H ∧ va_D A ws ∧ hm_ok ws f
def hm_A (f : hm) (sz : Nat) : Nat → Prop := fun q => f q ≠ none ∨ sz ≤ q
def hm_B (D : va_G) (cl : List vw_C) (tys : List (ClassId × FieldType)) (f : hm) (sz : Nat) (U : State) : Prop := U.heap.size = sz ∧ hm_W D cl (fun _ => True) f U.heap ∧ va_K D cl tys U
def hm_R (D : va_G) (cl : List vw_C) (tys : List (ClassId × FieldType)) (f : hm) (sz : Nat) (f1 : hm) (t : State) : Prop := hm_W D cl (hm_A f sz) f1 t.heap ∧ va_K D cl tys t
theorem hm_new1 {f f1 : hm} {a : Nat} {e : va_E} (h : f1 = hm_up f a e) : f1 a = some e := by rw [h, hm_up_s]
theorem hm_keep {f f1 : hm} {a b : Nat} {e : va_E} {x : Option va_E} (h : f1 = hm_up f a e) (hn : b ≠ a) (hb : f b = x) : f1 b = x := by rw [h, hm_up_n hn, hb]
theorem hm_ne {f : hm} {a b : Nat} {x y : va_E} (ha : f a = some x) (hb : f b = some y) (h : x ≠ y) : a ≠ b := fun q => h (by rw [q, hb] at ha; exact (Option.some.inj ha).symm)
theorem hm_ne0 {f : hm} {a b : Nat} {x : va_E} (ha : f a = some x) (hb : f b = none) : a ≠ b := fun q => by rw [q, hb] at ha; cases ha
theorem hm_ok.set {ws : va_W} {f : hm} {A : Nat → Prop} {k a : Nat} {e0 : va_E} (e : va_E) (hD : va_D A ws) (h : hm_ok ws f) (hk : ws[k]? = some (a, e0)) : hm_ok (ws.set k (a, e)) (hm_up f a e) := by
  have hl := (List.getElem?_eq_some_iff.mp hk).1
  intro b e'
  by_cases hb : b = a
  · rw [hb, hm_up_s]
    constructor
    · intro q
      cases q
      exact ⟨k, List.getElem?_set_self hl⟩
    · rintro ⟨j, hj⟩
      by_cases hjk : j = k
      · rw [hjk, List.getElem?_set_self hl] at hj
        cases hj
        rfl
      · rw [List.getElem?_set_ne (Ne.symm hjk)] at hj
        exact absurd (hD.1 j k _ _ hj hk rfl) hjk
  · rw [hm_up_n hb, h b e']
    constructor
    · rintro ⟨j, hj⟩
      refine ⟨j, ?_⟩
      rw [List.getElem?_set_ne]
      · exact hj
      · intro q
        rw [q, hj] at hk
        cases hk
        exact hb rfl
    · rintro ⟨j, hj⟩
      by_cases hjk : j = k
      · rw [hjk, List.getElem?_set_self hl] at hj
        cases hj
        exact absurd rfl hb
      · rw [List.getElem?_set_ne (Ne.symm hjk)] at hj
        exact ⟨j, hj⟩
theorem hm_ok.push {ws : va_W} {f : hm} {A : Nat → Prop} {q : Nat} {e : va_E} (hD : va_D A (ws ++ [(q, e)])) (h : hm_ok ws f) : hm_ok (ws ++ [(q, e)]) (hm_up f q e) ∧ f q = none := by
  have h2 : (ws ++ [(q, e)])[ws.length]? = some (q, e) := by rw [List.getElem?_append_right (Nat.le_refl _), Nat.sub_self]; rfl
  have up : ∀ (k : Nat) (x : Nat × va_E), ws[k]? = some x → (ws ++ [(q, e)])[k]? = some x := fun k x hx => by
    rw [List.getElem?_append_left (List.getElem?_eq_some_iff.mp hx).1]; exact hx
  have hn : f q = none := by
    cases hf : f q with
    | none => rfl
    | some e1 =>
      obtain ⟨k, hk⟩ := (h q e1).mp hf
      have h3 := hD.1 _ _ _ _ (up k _ hk) h2 rfl
      have hl := (List.getElem?_eq_some_iff.mp hk).1
      omega
  refine ⟨fun b e' => ?_, hn⟩
  by_cases hb : b = q
  · rw [hb, hm_up_s]
    constructor
    · intro z
      cases z
      exact ⟨_, h2⟩
    · rintro ⟨j, hj⟩
      have hj2 := hD.1 _ _ _ _ hj h2 rfl
      rw [hj2, h2] at hj
      cases hj
      rfl
  · rw [hm_up_n hb, h b e']
    constructor
    · rintro ⟨j, hj⟩
      exact ⟨j, up j _ hj⟩
    · rintro ⟨j, hj⟩
      by_cases hl : j < ws.length
      · rw [List.getElem?_append_left hl] at hj
        exact ⟨j, hj⟩
      · rw [List.getElem?_append_right (by omega)] at hj
        have hz : j - ws.length < 1 := (List.getElem?_eq_some_iff.mp hj).1
        rw [show j - ws.length = 0 by omega] at hj
        cases hj
        exact absurd rfl hb
theorem hm_W.weaken {D : va_G} {cl : List vw_C} {A B : Nat → Prop} {f : hm} {H : Heap} (h : hm_W D cl A f H) (hab : ∀ q, A q → B q) : hm_W D cl B f H := by
  obtain ⟨ws, a, b, c⟩ := h
  exact ⟨ws, a, b.weaken (fun _ q _ h => hab q.1 h), c⟩
theorem hm_W.self {D : va_G} {cl : List vw_C} {A : Nat → Prop} {f : hm} {H : Heap} {sz : Nat} (h : hm_W D cl A f H) : hm_W D cl (hm_A f sz) f H := by
  obtain ⟨ws, a, b, c⟩ := h
  exact ⟨ws, a, ⟨b.1, fun k q hk => Or.inl (by rw [(c q.1 q.2).mpr ⟨k, hk⟩]; exact fun z => by cases z)⟩, c⟩
theorem hm_W.inA {D : va_G} {cl : List vw_C} {A : Nat → Prop} {f : hm} {H : Heap} (h : hm_W D cl A f H) {q : Nat} (hq : f q ≠ none) : A q := by
  obtain ⟨ws, hP, hD, hc⟩ := h
  cases hf : f q with
  | none => exact absurd hf hq
  | some e =>
    obtain ⟨k, hk⟩ := (hc q e).mp hf
    exact hD.2 k _ hk
theorem hm_W.free {D : va_G} {cl : List vw_C} {A : Nat → Prop} {f : hm} {H H0 : Heap} {locs : List Loc} (h : hm_W D cl A f H) (hS : va_S A H0 H locs) (hA : ∀ q, H0.size ≤ q → A q) : ∀ q, hm_A f H.size q → A q := by
  intro q hq
  rcases hq with hq | hq
  · exact h.inA hq
  · exact hA q (Nat.le_trans hS.1 hq)
theorem hm_W.nil {D : va_G} {cl : List vw_C} {A : Nat → Prop} {H : Heap} : hm_W D cl A (fun _ => none) H := ⟨[], fun k q h => by simp at h, ⟨fun i j x y h => by simp at h, fun k q h => by simp at h⟩, fun a e => ⟨fun h => by simp at h, fun ⟨k, hk⟩ => by simp at hk⟩⟩
theorem hm_ra {s : State} {ty : FieldType} {c1 c2 : ClassId} (h1 : va_RA s c1 ty) (h2 : va_RA s c2 ty) : c1 = c2 := by
  cases ty with
  | object C =>
    obtain ⟨_, _, _, _, _, h1⟩ := h1
    obtain ⟨_, _, _, _, _, h2⟩ := h2
    exact Option.some.inj (h1.symm.trans h2)
  | _ =>
    have a : s.vm.findClass _ = some c1 := h1
    have b : s.vm.findClass _ = some c2 := h2
    exact Option.some.inj (a.symm.trans b)
/-- a class of the tables: its place in cl, its words, its fields' types, their names apart -/
def hm_cl (cl : List vw_C) (Ts : List Cond) (ci : Nat) (C : String) (T : u_T) (N : Nat) (ty : Nat → FieldType) : Prop :=
  cl[ci]? = some (C, T, N) ∧ (∀ w ∈ u_ws C T N, w ∈ Ts) ∧ (∀ k, k < N → parseFieldDescriptor (T k).2.2.1 = some (ty k)) ∧ (∀ a, a < N → ∀ b, b < N → a ≠ b → (T a).2.1 ≠ (T b).2.1)
/-- a field as a class's code names it -/
def hm_fl (cl : List vw_C) (Ts : List Cond) (own : String) (index ci k : Nat) (fin : Bool) (tk : FieldType) : Prop :=
  ∃ (C : String) (T : u_T) (N : Nat) (ty : Nat → FieldType), hm_cl cl Ts ci C T N ty ∧ k < N ∧ Cond.fieldLink own index (T k).1 (T k).2.1 (T k).2.2.1 ∈ Ts ∧ (T k).2.2.2 = fin ∧ ty k = tk ∧ (fin = true → (T k).1 = own)
/-- a class as a class's code makes it -/
def hm_nw (cl : List vw_C) (Ts : List Cond) (own : String) (index ci N : Nat) (fs : List Value) : Prop :=
  ∃ (C : String) (T : u_T) (ty : Nat → FieldType), hm_cl cl Ts ci C T N ty ∧ Cond.classLink own index C ∈ Ts ∧ Cond.instantiable C N ∈ Ts ∧ Cond.initialized C ∈ Ts ∧ ∀ j, j < N → defaultValue (ty j) = vp_V fs j
section HMR
variable {p : Program} {l : Launch} {e : Env} {R : Room} {s : State} {m : MethodId} {args : Array Value} {below : List Frame} {meth : Method} {c : Code} {H : Heap} {locs : List Loc} {cells slots : Nat} {Q : State → Prop}
variable {cc : ByteArray} {pc : Nat} {ls : Array Slot} {rest : List Value} {D : va_G} {cl : List vw_C} {A : Nat → Prop} {a : Nat} {tys : List (ClassId × FieldType)} {H0 : Heap} {f : hm} {nL : Nat} {Ts : List Cond} {own : String}
theorem hm_get (X : CallFix p m c cc nL s args Ts own) (hK : va_K D cl tys s) (hM : hm_W D cl A f H) {fs : List Value} {ci k index : Nat} {fin : Bool} {tk : FieldType} (he : f a = some (.inr (ci, fs))) (hF : hm_fl cl Ts own index ci k fin tk) {v : Value} (hv : fs[k]? = some v) (hdg : decode cc pc = .ok (.getfield index, 3))
    (kk : W p l e R s m args below meth c H locs cells slots Q (F0 m (pc + 3) ls (v :: rest))) : W p l e R s m args below meth c H locs cells slots Q (F0 m pc ls (.ref a :: rest)) := by
  obtain ⟨hx, hb, -, hown, hts⟩ := X
  obtain ⟨ws, hP, hD, hok⟩ := hM
  obtain ⟨q0, hq⟩ := (hok _ _).mp he
  obtain ⟨C, T, N, ty, ⟨hc, hin, -, -⟩, hk, hlink, -, -, -⟩ := hF
  exact va_get hx hb hts hin hown hK hP q0 hq hc k hk (hts _ hlink) (fun x h => h) hv hdg kk
theorem hm_put (X : CallFix p m c cc nL s args Ts own) (hK : va_K D cl tys s) (hM : hm_W D cl A f H) (hS : va_S A H0 H locs) {fs fs' : List Value} {ci k index : Nat} {tk : FieldType} (he : f a = some (.inr (ci, fs))) (hF : hm_fl cl Ts own index ci k false tk) {v : Value} (hn : narrow tk v = v) (hfit : fits tk v = true) (hl : k < fs.length) (hfs : fs.set k v = fs') (hdg : decode cc pc = .ok (.putfield index, 3))
    (kk : ∀ (f1 : hm) (H1 : Heap) (locs1 : List Loc), f1 = hm_up f a (.inr (ci, fs')) → hm_W D cl A f1 H1 → va_S A H0 H1 locs1 → W p l e R s m args below meth c H1 locs1 cells slots Q (F0 m (pc + 3) ls rest)) : W p l e R s m args below meth c H locs cells slots Q (F0 m pc ls (v :: .ref a :: rest)) := by
  obtain ⟨hx, hb, -, hown, hts⟩ := X
  obtain ⟨ws, hP, hD, hok⟩ := hM
  obtain ⟨q0, hq⟩ := (hok _ _).mp he
  obtain ⟨C, T, N, ty, ⟨hc, hin, hty, hnm⟩, hk, hlink, hfin, htk, -⟩ := hF
  subst hfs
  exact va_put hx hb hts hin ty hty hnm hown hK hP hD hS q0 hq hc k hk (hts _ hlink) (fun x h => h) hfin (ty := tk) (by rw [← htk]; exact hty k hk) hn hfit hl hdg (fun H1 locs1 hP1 hD1 hS1 => kk _ H1 locs1 rfl ⟨_, hP1, hD1, hok.set _ hD hq⟩ hS1)
theorem hm_putF (X : CallFix p m c cc nL s args Ts own) (hK : va_K D cl tys s) (hM : hm_W D cl A f H) (hS : va_S A H0 H locs) {fs fs' : List Value} {ci k index : Nat} {tk : FieldType} (he : f a = some (.inr (ci, fs))) (hF : hm_fl cl Ts own index ci k true tk) (hin2 : meth.name = "<init>") {v : Value} (hn : narrow tk v = v) (hfit : fits tk v = true) (hl : k < fs.length) (hfs : fs.set k v = fs') (hdg : decode cc pc = .ok (.putfield index, 3))
    (kk : ∀ (f1 : hm) (H1 : Heap) (locs1 : List Loc), f1 = hm_up f a (.inr (ci, fs')) → hm_W D cl A f1 H1 → va_S A H0 H1 locs1 → W p l e R s m args below meth c H1 locs1 cells slots Q (F0 m (pc + 3) ls rest)) : W p l e R s m args below meth c H locs cells slots Q (F0 m pc ls (v :: .ref a :: rest)) := by
  obtain ⟨hx, hb, -, hown, hts⟩ := X
  obtain ⟨ws, hP, hD, hok⟩ := hM
  obtain ⟨q0, hq⟩ := (hok _ _).mp he
  obtain ⟨C, T, N, ty, ⟨hc, hin, hty, hnm⟩, hk, hlink, hfin, htk, hdecl⟩ := hF
  subst hfs
  exact va_putF hx hb hts hin ty hty hnm hown hK hP hD hS q0 hq hc k hk (hts _ hlink) (fun x h => h) hfin hin2 (hdecl rfl) (ty := tk) (by rw [← htk]; exact hty k hk) hn hfit hl hdg (fun H1 locs1 hP1 hD1 hS1 => kk _ H1 locs1 rfl ⟨_, hP1, hD1, hok.set _ hD hq⟩ hS1)
theorem hm_new (X : CallFix p m c cc nL s args Ts own) (hK : va_K D cl tys s) (hM : hm_W D cl A f H) (hS : va_S A H0 H locs) (hA : ∀ q, H0.size ≤ q → A q) {fs : List Value} {ci N index : Nat} (hN : hm_nw cl Ts own index ci N fs) (hcells : cells + 1 ≤ R.cells) (hslots : slots + N ≤ R.slots) (hdg : decode cc pc = .ok (.new index, 3))
    (kk : ∀ (q : Nat) (f1 : hm) (H1 : Heap), f1 = hm_up f q (.inr (ci, fs)) → f q = none → hm_W D cl A f1 H1 → va_S A H0 H1 locs → W p l e R s m args below meth c H1 locs (cells + 1) (slots + N) Q (F0 m (pc + 3) ls (.ref q :: rest))) : W p l e R s m args below meth c H locs cells slots Q (F0 m pc ls rest) := by
  obtain ⟨hx, hb, -, hown, hts⟩ := X
  obtain ⟨ws, hP, hD, hok⟩ := hM
  obtain ⟨C, T, ty, ⟨hc, hin, hty, -⟩, h1, h2, h3, hfs⟩ := hN
  exact va_new hx hb hts hin ty hty hown (hts _ h1) (hts _ h2) (hts _ h3) hK hP hD hS hA hc hfs hcells hslots hdg (fun q H1 hP1 hD1 hS1 => kk q _ H1 rfl (hok.push hD1).2 ⟨_, hP1, hD1, (hok.push hD1).1⟩ hS1)
theorem hm_newa (X : CallFix p m c cc nL s args Ts own) (hK : va_K D cl tys s) (hM : hm_W D cl A f H) (hS : va_S A H0 H locs) (hA : ∀ q, H0.size ≤ q → A q) {atype : ArrayType} {ty : FieldType} (hty : newarray.typeOf atype = ty) (harr : Cond.arrayClass ty ∈ Ts) (t0 : Nat) {cA : ClassId} (ht : tys[t0]? = some (cA, ty)) {n : Int32} {N' : Nat} {a0 : vp_A} (ha : ∀ cA : ClassId, vp_cell cA a0 = arrV cA N' (fun _ => defaultValue ty)) (hn : ¬ n < 0) (hN : n.toNatClampNeg = N') (hbytes : N' * componentBytes ty ≤ 536870912) (hcells : cells + 1 ≤ R.cells) (hslots : slots + N' ≤ R.slots) (hdg : decode cc pc = .ok (.newarray atype, 2))
    (kk : ∀ (q : Nat) (f1 : hm) (H1 : Heap), f1 = hm_up f q (.inl (cA, a0)) → f q = none → hm_W D cl A f1 H1 → va_S A H0 H1 locs → W p l e R s m args below meth c H1 locs (cells + 1) (slots + N') Q (F0 m (pc + 2) ls (.ref q :: rest))) : W p l e R s m args below meth c H locs cells slots Q (F0 m pc ls (.int n :: rest)) := by
  obtain ⟨hx, hb, -, hown, hts⟩ := X
  obtain ⟨ws, hP, hD, hok⟩ := hM
  refine va_newa hx hb (by rw [hty]; exact hts _ harr) hty hK hP hD hS hA ha hn hN hbytes hcells hslots hdg (fun q cA' H1 hK1 hP1 hD1 hS1 => ?_)
  have hc : cA' = cA := hm_ra (hK1.2 tys.length (cA', ty) (by rw [List.getElem?_append_right (Nat.le_refl _), Nat.sub_self]; rfl)).2 (hK.2 t0 _ ht).2
  subst hc
  exact kk q _ H1 rfl (hok.push hD1).2 ⟨_, hP1, hD1, (hok.push hD1).1⟩ hS1
theorem hm_newq (X : CallFix p m c cc nL s args Ts own) (hK : va_K D cl tys s) (hM : hm_W D cl A f H) (hS : va_S A H0 H locs) (hA : ∀ q, H0.size ≤ q → A q) {C : String} {index : Nat} (hlk : Cond.classLink own index C ∈ Ts) (hov : Cond.arrayOver (.object C) ∈ Ts) (t0 : Nat) {cA : ClassId} (ht : tys[t0]? = some (cA, .object C)) {n : Int32} {N' : Nat} (hn : ¬ n < 0) (hN : n.toNatClampNeg = N') (hbytes : N' * 4 ≤ 536870912) (hcells : cells + 1 ≤ R.cells) (hslots : slots + N' ≤ R.slots) (hdg : decode cc pc = .ok (.anewarray index, 3))
    (kk : ∀ (q : Nat) (f1 : hm) (H1 : Heap), f1 = hm_up f q (.inl (cA, N', .inr (.inr (.inr (.inr (fun _ => none)))))) → f q = none → hm_W D cl A f1 H1 → va_S A H0 H1 locs → W p l e R s m args below meth c H1 locs (cells + 1) (slots + N') Q (F0 m (pc + 3) ls (.ref q :: rest))) : W p l e R s m args below meth c H locs cells slots Q (F0 m pc ls (.int n :: rest)) := by
  obtain ⟨hx, hb, -, hown, hts⟩ := X
  obtain ⟨ws, hP, hD, hok⟩ := hM
  refine va_newq hx hb hown (hts _ hlk) (va_AO.of (hts _ hov)) hK hP hD hS hA hn hN hbytes hcells hslots hdg (fun q cA' H1 hK1 hP1 hD1 hS1 => ?_)
  have hc : cA' = cA := hm_ra (hK1.2 tys.length (cA', .object C) (by rw [List.getElem?_append_right (Nat.le_refl _), Nat.sub_self]; rfl)).2 (hK.2 t0 _ ht).2
  subst hc
  exact kk q _ H1 rfl (hok.push hD1).2 ⟨_, hP1, hD1, (hok.push hD1).1⟩ hS1
theorem hm_in {i : Int32} {j n : Nat} (hi : i = nI j) (hj : j < n) (hn : n < 2 ^ 31) : vp_in i n ∧ i.toNatClampNeg = j := by
  subst hi
  exact ⟨vp_in_nI hj hn, nI_clamp (by omega)⟩
theorem hm_iald (X : CallFix p m c cc nL s args Ts own) (hK : va_K D cl tys s) (hM : hm_W D cl A f H) {cA : ClassId} {n : Nat} {g : Nat → Int32} (he : f a = some (.inl (cA, n, .inl g))) (t0 : Nat) (ht : tys[t0]? = some (cA, .int)) {i : Int32} (j : Nat) (hi : i = nI j) (hj : j < n) (hn : n < 2 ^ 31) (hdg : decode cc pc = .ok (.iaload, 1))
    (kk : W p l e R s m args below meth c H locs cells slots Q (F0 m (pc + 1) ls (.int (g j) :: rest))) : W p l e R s m args below meth c H locs cells slots Q (F0 m pc ls (.int i :: .ref a :: rest)) := by
  obtain ⟨hx, hb, -, hown, hts⟩ := X
  obtain ⟨ws, hP, hD, hok⟩ := hM
  obtain ⟨q0, hq⟩ := (hok _ _).mp he
  obtain ⟨h1, h2⟩ := hm_in hi hj hn
  exact va_iald hx hb hK hP q0 t0 hq ht h1 hdg (by rw [h2]; exact kk)
theorem hm_zald (X : CallFix p m c cc nL s args Ts own) (hK : va_K D cl tys s) (hM : hm_W D cl A f H) {cA : ClassId} {n : Nat} {g : Nat → Int32} (he : f a = some (.inl (cA, n, .inl g))) (t0 : Nat) (ht : tys[t0]? = some (cA, .boolean)) {i : Int32} (j : Nat) (hi : i = nI j) (hj : j < n) (hn : n < 2 ^ 31) (hdg : decode cc pc = .ok (.baload, 1))
    (kk : W p l e R s m args below meth c H locs cells slots Q (F0 m (pc + 1) ls (.int (g j) :: rest))) : W p l e R s m args below meth c H locs cells slots Q (F0 m pc ls (.int i :: .ref a :: rest)) := by
  obtain ⟨hx, hb, -, hown, hts⟩ := X
  obtain ⟨ws, hP, hD, hok⟩ := hM
  obtain ⟨q0, hq⟩ := (hok _ _).mp he
  obtain ⟨h1, h2⟩ := hm_in hi hj hn
  exact va_zald hx hb hK hP q0 t0 hq ht h1 hdg (by rw [h2]; exact kk)
theorem hm_cald (X : CallFix p m c cc nL s args Ts own) (hK : va_K D cl tys s) (hM : hm_W D cl A f H) {cA : ClassId} {n : Nat} {g : Nat → Int32} (he : f a = some (.inl (cA, n, .inl g))) (t0 : Nat) (ht : tys[t0]? = some (cA, .char)) {i : Int32} (j : Nat) (hi : i = nI j) (hj : j < n) (hn : n < 2 ^ 31) (hdg : decode cc pc = .ok (.caload, 1))
    (kk : W p l e R s m args below meth c H locs cells slots Q (F0 m (pc + 1) ls (.int (g j) :: rest))) : W p l e R s m args below meth c H locs cells slots Q (F0 m pc ls (.int i :: .ref a :: rest)) := by
  obtain ⟨hx, hb, -, hown, hts⟩ := X
  obtain ⟨ws, hP, hD, hok⟩ := hM
  obtain ⟨q0, hq⟩ := (hok _ _).mp he
  obtain ⟨h1, h2⟩ := hm_in hi hj hn
  exact va_cald hx hb hK hP q0 t0 hq ht h1 hdg (by rw [h2]; exact kk)
theorem hm_aald (X : CallFix p m c cc nL s args Ts own) (hK : va_K D cl tys s) (hM : hm_W D cl A f H) {cA : ClassId} {n : Nat} {C : String} {g : Nat → Option Nat} (he : f a = some (.inl (cA, n, .inr (.inr (.inr (.inr g)))))) (t0 : Nat) (ht : tys[t0]? = some (cA, .object C)) {i : Int32} (j : Nat) (hi : i = nI j) (hj : j < n) (hn : n < 2 ^ 31) (hdg : decode cc pc = .ok (.aaload, 1))
    (kk : W p l e R s m args below meth c H locs cells slots Q (F0 m (pc + 1) ls (va_rf (g j) :: rest))) : W p l e R s m args below meth c H locs cells slots Q (F0 m pc ls (.int i :: .ref a :: rest)) := by
  obtain ⟨hx, hb, -, hown, hts⟩ := X
  obtain ⟨ws, hP, hD, hok⟩ := hM
  obtain ⟨q0, hq⟩ := (hok _ _).mp he
  obtain ⟨h1, h2⟩ := hm_in hi hj hn
  exact va_aldq hx hb hK hP q0 t0 hq ht h1 hdg (by rw [h2]; exact kk)
theorem hm_alen (X : CallFix p m c cc nL s args Ts own) (hK : va_K D cl tys s) (hM : hm_W D cl A f H) {cA : ClassId} {x : vp_A} (he : f a = some (.inl (cA, x))) (t0 : Nat) {ty : FieldType} (ht : tys[t0]? = some (cA, ty)) {v : Int32} (hv : nI x.1 = v) (hdg : decode cc pc = .ok (.arraylength, 1))
    (kk : W p l e R s m args below meth c H locs cells slots Q (F0 m (pc + 1) ls (.int v :: rest))) : W p l e R s m args below meth c H locs cells slots Q (F0 m pc ls (.ref a :: rest)) := by
  obtain ⟨hx, hb, -, hown, hts⟩ := X
  obtain ⟨ws, hP, hD, hok⟩ := hM
  obtain ⟨q0, hq⟩ := (hok _ _).mp he
  exact va_alen hx hb hK hP q0 t0 hq ht hv hdg kk
theorem hm_iast (X : CallFix p m c cc nL s args Ts own) (hK : va_K D cl tys s) (hM : hm_W D cl A f H) (hS : va_S A H0 H locs) {cA : ClassId} {n : Nat} {g : Nat → Int32} (he : f a = some (.inl (cA, n, .inl g))) (t0 : Nat) (ht : tys[t0]? = some (cA, .int)) {i x : Int32} (j : Nat) (hi : i = nI j) (hj : j < n) (hn : n < 2 ^ 31) (hdg : decode cc pc = .ok (.iastore, 1))
    (kk : ∀ (f1 : hm) (H1 : Heap) (locs1 : List Loc), f1 = hm_up f a (.inl (cA, n, .inl (upd g j x))) → hm_W D cl A f1 H1 → va_S A H0 H1 locs1 → W p l e R s m args below meth c H1 locs1 cells slots Q (F0 m (pc + 1) ls rest)) : W p l e R s m args below meth c H locs cells slots Q (F0 m pc ls (.int x :: .int i :: .ref a :: rest)) := by
  obtain ⟨hx, hb, -, hown, hts⟩ := X
  obtain ⟨ws, hP, hD, hok⟩ := hM
  obtain ⟨q0, hq⟩ := (hok _ _).mp he
  obtain ⟨h1, h2⟩ := hm_in hi hj hn
  refine va_iast hx hb hK hP hD hS q0 t0 hq ht h1 hdg (fun H1 locs1 hP1 hD1 hS1 => ?_)
  rw [h2] at hP1 hD1
  exact kk _ H1 locs1 rfl ⟨_, hP1, hD1, hok.set _ hD hq⟩ hS1
theorem hm_zast (X : CallFix p m c cc nL s args Ts own) (hK : va_K D cl tys s) (hM : hm_W D cl A f H) (hS : va_S A H0 H locs) {cA : ClassId} {n : Nat} {g : Nat → Int32} (he : f a = some (.inl (cA, n, .inl g))) (t0 : Nat) (ht : tys[t0]? = some (cA, .boolean)) {i x : Int32} (j : Nat) (hi : i = nI j) (hj : j < n) (hn : n < 2 ^ 31) {y : Int32} (hy : vp_nar .boolean x = y) (hdg : decode cc pc = .ok (.bastore, 1))
    (kk : ∀ (f1 : hm) (H1 : Heap) (locs1 : List Loc), f1 = hm_up f a (.inl (cA, n, .inl (upd g j y))) → hm_W D cl A f1 H1 → va_S A H0 H1 locs1 → W p l e R s m args below meth c H1 locs1 cells slots Q (F0 m (pc + 1) ls rest)) : W p l e R s m args below meth c H locs cells slots Q (F0 m pc ls (.int x :: .int i :: .ref a :: rest)) := by
  obtain ⟨hx, hb, -, hown, hts⟩ := X
  obtain ⟨ws, hP, hD, hok⟩ := hM
  obtain ⟨q0, hq⟩ := (hok _ _).mp he
  obtain ⟨h1, h2⟩ := hm_in hi hj hn
  refine va_zast hx hb hK hP hD hS q0 t0 hq ht h1 hdg (fun H1 locs1 hP1 hD1 hS1 => ?_)
  rw [h2, hy] at hP1 hD1
  exact kk _ H1 locs1 rfl ⟨_, hP1, hD1, hok.set _ hD hq⟩ hS1
theorem hm_cast (X : CallFix p m c cc nL s args Ts own) (hK : va_K D cl tys s) (hM : hm_W D cl A f H) (hS : va_S A H0 H locs) {cA : ClassId} {n : Nat} {g : Nat → Int32} (he : f a = some (.inl (cA, n, .inl g))) (t0 : Nat) (ht : tys[t0]? = some (cA, .char)) {i x : Int32} (j : Nat) (hi : i = nI j) (hj : j < n) (hn : n < 2 ^ 31) {y : Int32} (hy : vp_nar .char x = y) (hdg : decode cc pc = .ok (.castore, 1))
    (kk : ∀ (f1 : hm) (H1 : Heap) (locs1 : List Loc), f1 = hm_up f a (.inl (cA, n, .inl (upd g j y))) → hm_W D cl A f1 H1 → va_S A H0 H1 locs1 → W p l e R s m args below meth c H1 locs1 cells slots Q (F0 m (pc + 1) ls rest)) : W p l e R s m args below meth c H locs cells slots Q (F0 m pc ls (.int x :: .int i :: .ref a :: rest)) := by
  obtain ⟨hx, hb, -, hown, hts⟩ := X
  obtain ⟨ws, hP, hD, hok⟩ := hM
  obtain ⟨q0, hq⟩ := (hok _ _).mp he
  obtain ⟨h1, h2⟩ := hm_in hi hj hn
  refine va_cast hx hb hK hP hD hS q0 t0 hq ht h1 hdg (fun H1 locs1 hP1 hD1 hS1 => ?_)
  rw [h2, hy] at hP1 hD1
  exact kk _ H1 locs1 rfl ⟨_, hP1, hD1, hok.set _ hD hq⟩ hS1
theorem hm_aast (X : CallFix p m c cc nL s args Ts own) (hK : va_K D cl tys s) (hM : hm_W D cl A f H) (hS : va_S A H0 H locs) {cA : ClassId} {n v ci : Nat} {r : vw_C} {vs : List Value} {g : Nat → Option Nat} (he : f a = some (.inl (cA, n, .inr (.inr (.inr (.inr g)))))) (hv : f v = some (.inr (ci, vs))) (hc : cl[ci]? = some r) (t0 : Nat) (ht : tys[t0]? = some (cA, .object r.1)) {i : Int32} (j : Nat) (hi : i = nI j) (hj : j < n) (hn : n < 2 ^ 31) (hdg : decode cc pc = .ok (.aastore, 1))
    (kk : ∀ (f1 : hm) (H1 : Heap) (locs1 : List Loc), f1 = hm_up f a (.inl (cA, n, .inr (.inr (.inr (.inr (va_up g j (some v))))))) → hm_W D cl A f1 H1 → va_S A H0 H1 locs1 → W p l e R s m args below meth c H1 locs1 cells slots Q (F0 m (pc + 1) ls rest)) : W p l e R s m args below meth c H locs cells slots Q (F0 m pc ls (.ref v :: .int i :: .ref a :: rest)) := by
  obtain ⟨hx, hb, -, hown, hts⟩ := X
  obtain ⟨ws, hP, hD, hok⟩ := hM
  obtain ⟨q0, hq⟩ := (hok _ _).mp he
  obtain ⟨qk, hqk⟩ := (hok _ _).mp hv
  obtain ⟨h1, h2⟩ := hm_in hi hj hn
  refine va_astq hx hb hK hP hD hS q0 t0 qk ci hq ht hqk hc h1 hdg (fun H1 locs1 hP1 hD1 hS1 => ?_)
  rw [h2] at hP1 hD1
  exact kk _ H1 locs1 rfl ⟨_, hP1, hD1, hok.set _ hD hq⟩ hS1
end HMR
/-! Calls, entries and returns over the map world. -/
section HMC
variable {p : Program} {l : Launch} {e : Env} {R : Room} {s : State} {m : MethodId} {args : Array Value} {below : List Frame} {meth : Method} {c : Code} {H : Heap} {locs : List Loc} {cells slots : Nat} {Q : State → Prop}
variable {cc : ByteArray} {pc : Nat} {ls : Array Slot} {rest st0 : List Value} {D : va_G} {cl : List vw_C} {A : Nat → Prop} {tys : List (ClassId × FieldType)} {H0 : Heap} {f f0 : hm} {nL mc ms : Nat} {Ts : List Cond} {own : String} {av : Array Value}
theorem hm_blind {sz : Nat} {as : List Value} : FrameBlind (va_Pc as (hm_B D cl tys f sz)) := fun a U g mk q => by
  obtain ⟨q0, q1, qP, qK⟩ := q
  exact ⟨q0, q1, qP, va_K.moved (u := U) (U := U.calling g mk a) (Vm.Alike.refl U.vm) qK⟩
theorem hm_preS (hM : hm_W D cl A f H) (hK : va_K D cl tys s) {as : List Value} : PreS s H (va_Pc as (hm_B D cl tys f H.size)) as :=
  ⟨hm_blind, fun U hU hW => ⟨rfl, by rw [hU], by rw [hU]; exact hM.weaken (fun _ _ => trivial), va_K.moved hW.alike hK⟩⟩
theorem hm_preV (hM : hm_W D cl A f H) (hK : va_K D cl tys s) {as : List Value} {b ci N : Nat} {fs : List Value} {C : String} {T : u_T} (he : f b = some (.inr (ci, fs))) (hc : cl[ci]? = some (C, T, N)) : PreV s H C b (va_Pc (.ref b :: as) (hm_B D cl tys f H.size)) as := by
  refine ⟨hm_blind, ?_, fun U hU hW => ⟨rfl, by rw [hU], by rw [hU]; exact hM.weaken (fun _ _ => trivial), va_K.moved hW.alike hK⟩⟩
  obtain ⟨ws, hP, hD, hok⟩ := hM
  obtain ⟨q0, hq⟩ := (hok _ _).mp he
  exact va_recv hK hP hc hq
theorem hm_calli {post : Int32 → hm → Prop} (hS : va_S A H0 H locs) (hM : hm_W D cl A f H) (hA : ∀ q, H0.size ≤ q → A q) (hr : va_Run p l e R s m args below meth c H locs cells slots mc ms (F0 m pc ls st0) rest (va_Qi post (hm_R D cl tys f H.size) (hm_A f H.size) av) (hm_A f H.size))
    (kk : ∀ (r : Int32) (f1 : hm) (H1 : Heap) (locs1 : List Loc), post r f1 → hm_W D cl A f1 H1 → va_S A H0 H1 locs1 → W p l e R s m args below meth c H1 locs1 (cells + mc) (slots + ms) Q (F0 m (pc + 3) ls (.int r :: rest))) : W p l e R s m args below meth c H locs cells slots Q (F0 m pc ls st0) := by
  have hF := hM.free hS hA
  refine va_calli hr hS (fun q _ h => hF q h) hF (fun r u t H1 locs1 ht hvm hp hB hz hk hS1 => ?_)
  obtain ⟨hM1, -⟩ := hB
  rw [ht] at hM1
  exact kk r u H1 locs1 hp (hM1.weaken hF) hS1
theorem hm_calll {post : Int64 → hm → Prop} (hS : va_S A H0 H locs) (hM : hm_W D cl A f H) (hA : ∀ q, H0.size ≤ q → A q) (hr : va_Run p l e R s m args below meth c H locs cells slots mc ms (F0 m pc ls st0) rest (va_Ql post (hm_R D cl tys f H.size) (hm_A f H.size) av) (hm_A f H.size))
    (kk : ∀ (r : Int64) (f1 : hm) (H1 : Heap) (locs1 : List Loc), post r f1 → hm_W D cl A f1 H1 → va_S A H0 H1 locs1 → W p l e R s m args below meth c H1 locs1 (cells + mc) (slots + ms) Q (F0 m (pc + 3) ls (.long r :: rest))) : W p l e R s m args below meth c H locs cells slots Q (F0 m pc ls st0) := by
  have hF := hM.free hS hA
  refine va_calll hr hS (fun q _ h => hF q h) hF (fun r u t H1 locs1 ht hvm hp hB hz hk hS1 => ?_)
  obtain ⟨hM1, -⟩ := hB
  rw [ht] at hM1
  exact kk r u H1 locs1 hp (hM1.weaken hF) hS1
theorem hm_callv {post : hm → Prop} (hS : va_S A H0 H locs) (hM : hm_W D cl A f H) (hA : ∀ q, H0.size ≤ q → A q) (hr : va_Run p l e R s m args below meth c H locs cells slots mc ms (F0 m pc ls st0) rest (va_Qv post (hm_R D cl tys f H.size) (hm_A f H.size) av) (hm_A f H.size))
    (kk : ∀ (f1 : hm) (H1 : Heap) (locs1 : List Loc), post f1 → hm_W D cl A f1 H1 → va_S A H0 H1 locs1 → W p l e R s m args below meth c H1 locs1 (cells + mc) (slots + ms) Q (F0 m (pc + 3) ls rest)) : W p l e R s m args below meth c H locs cells slots Q (F0 m pc ls st0) := by
  have hF := hM.free hS hA
  refine va_callv hr hS (fun q _ h => hF q h) hF (fun u t H1 locs1 ht hvm hp hB hz hk hS1 => ?_)
  obtain ⟨hM1, -⟩ := hB
  rw [ht] at hM1
  exact kk u H1 locs1 hp (hM1.weaken hF) hS1
theorem hm_callq {post : Option Nat → hm → Prop} (hS : va_S A H0 H locs) (hM : hm_W D cl A f H) (hA : ∀ q, H0.size ≤ q → A q) (hr : va_Run p l e R s m args below meth c H locs cells slots mc ms (F0 m pc ls st0) rest (va_Qq post (hm_R D cl tys f H.size) (hm_A f H.size) av) (hm_A f H.size))
    (kk : ∀ (r : Option Nat) (f1 : hm) (H1 : Heap) (locs1 : List Loc), post r f1 → hm_W D cl A f1 H1 → va_S A H0 H1 locs1 → W p l e R s m args below meth c H1 locs1 (cells + mc) (slots + ms) Q (F0 m (pc + 3) ls (va_rf r :: rest))) : W p l e R s m args below meth c H locs cells slots Q (F0 m pc ls st0) := by
  have hF := hM.free hS hA
  refine va_callq hr hS (fun q _ h => hF q h) hF (fun r u t H1 locs1 ht hvm hp hB hz hk hS1 => ?_)
  obtain ⟨hM1, -⟩ := hB
  rw [ht] at hM1
  exact kk r u H1 locs1 hp (hM1.weaken hF) hS1
theorem hm_iret {post : Int32 → hm → Prop} (X : CallFix p m c cc nL s args Ts own) (hQ : MQ below (va_Qi post (hm_R D cl tys f0 s.heap.size) (hm_A f0 s.heap.size)) args s cells slots (hm_A f0 s.heap.size) = Q) (hr : meth.sig.returnType = some .int) (hlk : meth.locks = false) (hK : va_K D cl tys s) (hM : hm_W D cl (hm_A f0 s.heap.size) f H) (hS : va_S (hm_A f0 s.heap.size) s.heap H locs) {v : Int32} (hdg : decode cc pc = .ok (.ireturn, 1)) (hp : post v f) :
    W p l e R s m args below meth c H locs cells slots Q (F0 m pc ls [.int v]) := hQ ▸
  W.iret X.1 X.2.1 hr (fun t ht hW => ⟨⟨v, f, rfl, hp, by rw [ht]; exact hM, va_K.moved hW.alike hK⟩, hS.F ht⟩) hS.2.2 hdg hlk
theorem hm_zret {post : Int32 → hm → Prop} {ty : FieldType} (X : CallFix p m c cc nL s args Ts own) (hQ : MQ below (va_Qi post (hm_R D cl tys f0 s.heap.size) (hm_A f0 s.heap.size)) args s cells slots (hm_A f0 s.heap.size) = Q) (hr : meth.sig.returnType = some ty) (hlk : meth.locks = false) (hK : va_K D cl tys s) (hM : hm_W D cl (hm_A f0 s.heap.size) f H) (hS : va_S (hm_A f0 s.heap.size) s.heap H locs) {v : Int32} (hn : narrow ty (.int v) = .int v) (hdg : decode cc pc = .ok (.ireturn, 1)) (hp : post v f) :
    W p l e R s m args below meth c H locs cells slots Q (F0 m pc ls [.int v]) := hQ ▸
  W.zret X.1 X.2.1 hr hn (fun t ht hW => ⟨⟨v, f, rfl, hp, by rw [ht]; exact hM, va_K.moved hW.alike hK⟩, hS.F ht⟩) hS.2.2 hdg hlk
theorem hm_lret {post : Int64 → hm → Prop} (X : CallFix p m c cc nL s args Ts own) (hQ : MQ below (va_Ql post (hm_R D cl tys f0 s.heap.size) (hm_A f0 s.heap.size)) args s cells slots (hm_A f0 s.heap.size) = Q) (hr : meth.sig.returnType = some .long) (hlk : meth.locks = false) (hK : va_K D cl tys s) (hM : hm_W D cl (hm_A f0 s.heap.size) f H) (hS : va_S (hm_A f0 s.heap.size) s.heap H locs) {v : Int64} (hdg : decode cc pc = .ok (.lreturn, 1)) (hp : post v f) :
    W p l e R s m args below meth c H locs cells slots Q (F0 m pc ls [.long v]) := hQ ▸
  W.lret X.1 X.2.1 hr (fun t ht hW => ⟨⟨v, f, rfl, hp, by rw [ht]; exact hM, va_K.moved hW.alike hK⟩, hS.F ht⟩) hS.2.2 hdg hlk
theorem hm_vret {post : hm → Prop} (X : CallFix p m c cc nL s args Ts own) (hQ : MQ below (va_Qv post (hm_R D cl tys f0 s.heap.size) (hm_A f0 s.heap.size)) args s cells slots (hm_A f0 s.heap.size) = Q) (hr : meth.sig.returnType = none) (hlk : meth.locks = false) (hK : va_K D cl tys s) (hM : hm_W D cl (hm_A f0 s.heap.size) f H) (hS : va_S (hm_A f0 s.heap.size) s.heap H locs) (hdg : decode cc pc = .ok (.return_, 1)) (hp : post f) :
    W p l e R s m args below meth c H locs cells slots Q (F0 m pc ls []) := hQ ▸
  W.vret X.1 X.2.1 hr (fun t ht hW => ⟨⟨f, rfl, hp, by rw [ht]; exact hM, va_K.moved hW.alike hK⟩, hS.F ht⟩) hS.2.2 hdg hlk
theorem hm_aret {post : Option Nat → hm → Prop} {rt : FieldType} (X : CallFix p m c cc nL s args Ts own) (hQ : MQ below (va_Qq post (hm_R D cl tys f0 s.heap.size) (hm_A f0 s.heap.size)) args s cells slots (hm_A f0 s.heap.size) = Q) (hr : meth.sig.returnType = some rt) (hrt : (∃ n, rt = .object n) ∨ ∃ t, rt = .array t) (hlk : meth.locks = false) (hK : va_K D cl tys s) (hM : hm_W D cl (hm_A f0 s.heap.size) f H) (hS : va_S (hm_A f0 s.heap.size) s.heap H locs) (r : Option Nat) (hdg : decode cc pc = .ok (.areturn, 1)) (hp : post r f) :
    W p l e R s m args below meth c H locs cells slots Q (F0 m pc ls [va_rf r]) := hQ ▸
  W.aret X.1 X.2.1 hr hrt (va_rf_or r) (fun t ht hW => ⟨⟨r, f, rfl, hp, by rw [ht]; exact hM, va_K.moved hW.alike hK⟩, hS.F ht⟩) hS.2.2 hdg hlk
/-- the contract: from the map f, at any size of the heap -/
theorem hm_enter {y : MethodName} {ws ws' : List Cond} {rm : Room} {as : List Value} {Qc : Nat → Array Value → State → Outcome → State → Prop} {maxL : Nat} {ret : Option FieldType} (hy : plainName y.cls = true) (hw : ws = Cond.code y cc maxL ret :: ws') (hlen : (lg_sl as).length ≤ maxL)
    (body : ∀ (p : Program) (e : Env) (s : State) (m : MethodId) (below : List Frame) (meth : Method) (c : Code) (ls : Array Slot), CallFix p m c cc maxL s as.toArray ws y.cls → meth.sig.returnType = ret → meth.locks = false → meth.name = y.name → va_K D cl tys s → hm_W D cl (hm_A f s.heap.size) f s.heap → va_S (hm_A f s.heap.size) s.heap s.heap [] → (∀ q, s.heap.size ≤ q → hm_A f s.heap.size q) → lv_has ls maxL (lv_args 0 as) →
      ∀ Q : State → Prop, MQ below (Qc s.heap.size) as.toArray s mc ms (hm_A f s.heap.size) = Q → W p l e rm s m as.toArray below meth c s.heap [] 0 0 Q (F0 m 0 ls [])) : ∀ sz, Met l y ws rm (va_Pc as (hm_B D cl tys f sz)) (Qc sz) mc ms (hm_A f sz) := by
  intro sz
  refine Met.ofW (cc := cc) (maxL := maxL) (ret := ret) hy hw ?_
  intro p e s m args below meth c s₁ B hml hv
  obtain ⟨rfl, rfl, hM, hK⟩ := hv
  rw [lg_entry_eq]
  exact body p e s m below meth c _ ⟨B.exec, B.bytes, hml, findClass_of_methodNamed B.named, atoms_spec (ws := ws) B.pre⟩ B.returns B.notSynchronized (name_of_methodNamed B.named B.method).1 hK hM.self va_S.rf (fun q h => Or.inr h) (lv_entry as hlen) _ rfl
theorem hm_ref {o : Option Nat} {a : Nat} (h : o = some a) (k : W p l e R s m args below meth c H locs cells slots Q (F0 m pc ls (.ref a :: rest))) : W p l e R s m args below meth c H locs cells slots Q (F0 m pc ls (va_rf o :: rest)) := by
  subst h; exact k
theorem hm_nul {o : Option Nat} (h : o = none) (k : W p l e R s m args below meth c H locs cells slots Q (F0 m pc ls (.null :: rest))) : W p l e R s m args below meth c H locs cells slots Q (F0 m pc ls (va_rf o :: rest)) := by
  subst h; exact k
theorem hm_aload_nq (hx : p.tables.exec = Jvm.exec) (hb : c.code = cc) {k : Fin 4} {i : Nat} {o : Option Nat} (hdg : decode cc pc = .ok (.aload_n k, 1)) (hi : (k : Nat) = i) (hl : ls[i]? = some (.val (va_rf o))) (kk : W p l e R s m args below meth c H locs cells slots Q (F0 m (pc + 1) ls (va_rf o :: rest))) : W p l e R s m args below meth c H locs cells slots Q (F0 m pc ls rest) := by
  cases o with
  | none => exact lv_aload_nN hx hb hdg hi hl kk
  | some a => exact lv_aload_n hx hb hdg hi hl kk
theorem hm_aloadq (hx : p.tables.exec = Jvm.exec) (hb : c.code = cc) {i : Nat} {o : Option Nat} (hdg : decode cc pc = .ok (.aload i, 2)) (hl : ls[i]? = some (.val (va_rf o))) (kk : W p l e R s m args below meth c H locs cells slots Q (F0 m (pc + 2) ls (va_rf o :: rest))) : W p l e R s m args below meth c H locs cells slots Q (F0 m pc ls rest) := by
  cases o with
  | none => exact lv_aloadN hx hb hdg hl kk
  | some a => exact lv_aload hx hb hdg hl kk
theorem hm_astore_nq (hx : p.tables.exec = Jvm.exec) (hb : c.code = cc) {k : Fin 4} {i : Nat} {o : Option Nat} {lv lv' : List (Nat × Value)} (hdg : decode cc pc = .ok (.astore_n k, 1)) (hi : (k : Nat) = i) (h : lv_has ls nL lv) (hn : i < nL) (hl : (i, va_rf o) :: lv.filter (fun q => !(q.1 == i) && !(q.1 + 1 == i && q.2.category == 2)) = lv')
    (kk : ∀ ls' : Array Slot, lv_has ls' nL lv' → W p l e R s m args below meth c H locs cells slots Q (F0 m (pc + 1) ls' rest)) : W p l e R s m args below meth c H locs cells slots Q (F0 m pc ls (va_rf o :: rest)) := by
  cases o with
  | none => exact lv_astore_nN hx hb hdg hi h hn hl kk
  | some a => exact lv_astore_n hx hb hdg hi h hn hl kk
theorem hm_astoreq (hx : p.tables.exec = Jvm.exec) (hb : c.code = cc) {i : Nat} {o : Option Nat} {lv lv' : List (Nat × Value)} (hdg : decode cc pc = .ok (.astore i, 2)) (h : lv_has ls nL lv) (hn : i < nL) (hl : (i, va_rf o) :: lv.filter (fun q => !(q.1 == i) && !(q.1 + 1 == i && q.2.category == 2)) = lv')
    (kk : ∀ ls' : Array Slot, lv_has ls' nL lv' → W p l e R s m args below meth c H locs cells slots Q (F0 m (pc + 2) ls' rest)) : W p l e R s m args below meth c H locs cells slots Q (F0 m pc ls (va_rf o :: rest)) := by
  cases o with
  | none => exact lv_astoreN hx hb hdg h hn hl kk
  | some a => exact lv_astore hx hb hdg h hn hl kk
theorem hm_ifnullq (hx : p.tables.exec = Jvm.exec) (hb : c.code = cc) {o : Option Nat} {off : Int} {tgt : Nat} (hdg : decode cc pc = .ok (.ifnull off, 3)) (ht : (pc : Int) + off = (tgt : Int)) (kt : o = none → W p l e R s m args below meth c H locs cells slots Q (F0 m tgt ls rest)) (kf : ∀ a, o = some a → W p l e R s m args below meth c H locs cells slots Q (F0 m (pc + 3) ls rest)) : W p l e R s m args below meth c H locs cells slots Q (F0 m pc ls (va_rf o :: rest)) := by
  cases o with
  | none => exact lv_ifnullN hx hb hdg ht (kt rfl)
  | some a => exact lv_ifnull hx hb hdg (kf a rfl)
theorem hm_ifnonnullq (hx : p.tables.exec = Jvm.exec) (hb : c.code = cc) {o : Option Nat} {off : Int} {tgt : Nat} (hdg : decode cc pc = .ok (.ifnonnull off, 3)) (ht : (pc : Int) + off = (tgt : Int)) (kt : o = none → W p l e R s m args below meth c H locs cells slots Q (F0 m (pc + 3) ls rest)) (kf : ∀ a, o = some a → W p l e R s m args below meth c H locs cells slots Q (F0 m tgt ls rest)) : W p l e R s m args below meth c H locs cells slots Q (F0 m pc ls (va_rf o :: rest)) := by
  cases o with
  | none => exact lv_ifnonnullN hx hb hdg (kt rfl)
  | some a => exact lv_ifnonnull hx hb hdg ht (kf a rfl)
theorem hm_top {x z : Int32} (h : x = z) (k : W p l e R s m args below meth c H locs cells slots Q (F0 m pc ls (.int z :: rest))) : W p l e R s m args below meth c H locs cells slots Q (F0 m pc ls (.int x :: rest)) := h ▸ k
theorem hm_cs {cells' slots' : Nat} {g : JFrame} (hc : cells = cells') (hs : slots = slots') (k : W p l e R s m args below meth c H locs cells' slots' Q g) : W p l e R s m args below meth c H locs cells slots Q g := by
  subst hc; subst hs; exact k
end HMC
theorem hm_neI {f : hm} {a b ci cj : Nat} {fs gs : List Value} (ha : f a = some (.inr (ci, fs))) (hb : f b = some (.inr (cj, gs))) (h : ci ≠ cj) : a ≠ b := hm_ne ha hb (fun q => h (by cases q; rfl))
theorem hm_neA {f : hm} {a b : Nat} {o : Nat × List Value} {x : ClassId × vp_A} (ha : f a = some (.inr o)) (hb : f b = some (.inl x)) : a ≠ b := hm_ne ha hb (fun q => by cases q)
theorem hm_neL {f : hm} {a b n1 n2 : Nat} {c1 c2 : ClassId} {x y : (Nat → Int32) ⊕ (Nat → Int64) ⊕ (Nat → UInt32) ⊕ (Nat → UInt64) ⊕ (Nat → Option Nat)} (ha : f a = some (.inl (c1, n1, x))) (hb : f b = some (.inl (c2, n2, y))) (h : n1 ≠ n2) : a ≠ b := hm_ne ha hb (fun q => h (by cases q; rfl))
theorem hm_none {f f1 : hm} {a b : Nat} {e : va_E} (h : f1 = hm_up f a e) (hb : f1 b = none) : f b = none := by
  by_cases q : b = a
  · rw [h, q, hm_up_s] at hb
    cases hb
  · rw [h, hm_up_n q] at hb
    exact hb
theorem hm_noneF {f f1 : hm} {b : Nat} (h : ∀ x : va_E, f b = some x → f1 b = some x) (hb : f1 b = none) : f b = none := by
  cases q : f b with
  | none => rfl
  | some x =>
    rw [h x q] at hb
    cases hb
theorem hm_narq (C : String) (o : Option Nat) : narrow (.object C) (va_rf o) = va_rf o := by cases o <;> rfl
theorem hm_fitq (C : String) (o : Option Nat) : fits (.object C) (va_rf o) = true := by cases o <;> rfl
theorem hm_narZ {x : Int32} (h : x = 0 ∨ x = 1) : narrow .boolean (.int x) = .int x := by
  rcases h with h | h <;> (subst h; rfl)
theorem hm_inc (j : Nat) : nI j + Int32.ofInt 1 = nI (j + 1) := nI_1 j
/-- contracts over the map: void, int (boolean, char), long, a reference or null -/
abbrev hm_Mv (l : Launch) (D : va_G) (cl : List vw_C) (tys : List (ClassId × FieldType)) (y : MethodName) (ws : List Cond) (rm : Room) (as : List Value) (f : hm) (post : hm → Prop) (mc ms : Nat) : Prop := ∀ sz : Nat, Met l y ws rm (va_Pc as (hm_B D cl tys f sz)) (va_Qv post (hm_R D cl tys f sz) (hm_A f sz)) mc ms (hm_A f sz)
abbrev hm_Mi (l : Launch) (D : va_G) (cl : List vw_C) (tys : List (ClassId × FieldType)) (y : MethodName) (ws : List Cond) (rm : Room) (as : List Value) (f : hm) (post : Int32 → hm → Prop) (mc ms : Nat) : Prop := ∀ sz : Nat, Met l y ws rm (va_Pc as (hm_B D cl tys f sz)) (va_Qi post (hm_R D cl tys f sz) (hm_A f sz)) mc ms (hm_A f sz)
abbrev hm_Ml (l : Launch) (D : va_G) (cl : List vw_C) (tys : List (ClassId × FieldType)) (y : MethodName) (ws : List Cond) (rm : Room) (as : List Value) (f : hm) (post : Int64 → hm → Prop) (mc ms : Nat) : Prop := ∀ sz : Nat, Met l y ws rm (va_Pc as (hm_B D cl tys f sz)) (va_Ql post (hm_R D cl tys f sz) (hm_A f sz)) mc ms (hm_A f sz)
abbrev hm_Mq (l : Launch) (D : va_G) (cl : List vw_C) (tys : List (ClassId × FieldType)) (y : MethodName) (ws : List Cond) (rm : Room) (as : List Value) (f : hm) (post : Option Nat → hm → Prop) (mc ms : Nat) : Prop := ∀ sz : Nat, Met l y ws rm (va_Pc as (hm_B D cl tys f sz)) (va_Qq post (hm_R D cl tys f sz) (hm_A f sz)) mc ms (hm_A f sz)
end
section
-- ===== PART A: goes FIRST, ahead of the names: the tables' words, and 'selects' of the private methods out of them =====
/-- a private method of a class that the tables say can be made, by its rows of tables_1 -/
def lw_okq (q : MethodName × Nat) : Prop := (q.1.cls ≠ "java/lang/invoke/MethodHandle" ∧ q.1.cls ≠ "java/lang/invoke/VarHandle") ∧ Cond.instantiable q.1.cls q.2 ∈ tables_1 ∧ Cond.privateMethod q.1 ∈ tables_1 ∧ Cond.instanceMethod q.1 ∈ tables_1
theorem lw_p0 : lw_okq (⟨"GrantServer", "clientWith", "(I)LGrantServer$Client;"⟩, 16) := ⟨⟨by decide +kernel, by decide +kernel⟩, List.mem_of_getElem? (i := 18) (by decide +kernel), List.mem_of_getElem? (i := 215) (by decide +kernel), List.mem_of_getElem? (i := 216) (by decide +kernel)⟩
theorem lw_p1 : lw_okq (⟨"GrantServer", "isFree", "(I)Z"⟩, 16) := ⟨⟨by decide +kernel, by decide +kernel⟩, List.mem_of_getElem? (i := 18) (by decide +kernel), List.mem_of_getElem? (i := 227) (by decide +kernel), List.mem_of_getElem? (i := 228) (by decide +kernel)⟩
theorem lw_p2 : lw_okq (⟨"GrantServer", "refusalOfNewTokens", "(I)I"⟩, 16) := ⟨⟨by decide +kernel, by decide +kernel⟩, List.mem_of_getElem? (i := 18) (by decide +kernel), List.mem_of_getElem? (i := 272) (by decide +kernel), List.mem_of_getElem? (i := 273) (by decide +kernel)⟩
theorem lw_p3 : lw_okq (⟨"GrantServer", "giveTokens", "(LGrantServer$Family;III)I"⟩, 16) := ⟨⟨by decide +kernel, by decide +kernel⟩, List.mem_of_getElem? (i := 18) (by decide +kernel), List.mem_of_getElem? (i := 295) (by decide +kernel), List.mem_of_getElem? (i := 296) (by decide +kernel)⟩
theorem lw_p4 : lw_okq (⟨"GrantServer", "writeClaims", "(LGrantServer$Grant;I)V"⟩, 16) := ⟨⟨by decide +kernel, by decide +kernel⟩, List.mem_of_getElem? (i := 18) (by decide +kernel), List.mem_of_getElem? (i := 299) (by decide +kernel), List.mem_of_getElem? (i := 300) (by decide +kernel)⟩
theorem lw_p5 : lw_okq (⟨"GrantServer$Wrapping", "sealOf", "(LGrantServer$Text;I)J"⟩, 1) := ⟨⟨by decide +kernel, by decide +kernel⟩, List.mem_of_getElem? (i := 118) (by decide +kernel), List.mem_of_getElem? (i := 397) (by decide +kernel), List.mem_of_getElem? (i := 398) (by decide +kernel)⟩
theorem lw_p6 : lw_okq (⟨"GrantServer", "activeTokens", "()I"⟩, 16) := ⟨⟨by decide +kernel, by decide +kernel⟩, List.mem_of_getElem? (i := 18) (by decide +kernel), List.mem_of_getElem? (i := 414) (by decide +kernel), List.mem_of_getElem? (i := 415) (by decide +kernel)⟩
theorem lw_p7 : lw_okq (⟨"GrantServer", "shelfOf", "(I)LGrantServer$Shelf;"⟩, 16) := ⟨⟨by decide +kernel, by decide +kernel⟩, List.mem_of_getElem? (i := 18) (by decide +kernel), List.mem_of_getElem? (i := 433) (by decide +kernel), List.mem_of_getElem? (i := 434) (by decide +kernel)⟩
theorem lw_p8 : lw_okq (⟨"GrantServer$ClaimsReader", "begin", "()V"⟩, 3) := ⟨⟨by decide +kernel, by decide +kernel⟩, List.mem_of_getElem? (i := 100) (by decide +kernel), List.mem_of_getElem? (i := 522) (by decide +kernel), List.mem_of_getElem? (i := 523) (by decide +kernel)⟩
theorem lw_p9 : lw_okq (⟨"GrantServer$ClaimsReader", "readsMark", "(LGrantServer$Text;C)Z"⟩, 3) := ⟨⟨by decide +kernel, by decide +kernel⟩, List.mem_of_getElem? (i := 100) (by decide +kernel), List.mem_of_getElem? (i := 526) (by decide +kernel), List.mem_of_getElem? (i := 527) (by decide +kernel)⟩
theorem lw_p10 : lw_okq (⟨"GrantServer$ClaimsReader", "skipSpaces", "(LGrantServer$Text;)V"⟩, 3) := ⟨⟨by decide +kernel, by decide +kernel⟩, List.mem_of_getElem? (i := 100) (by decide +kernel), List.mem_of_getElem? (i := 530) (by decide +kernel), List.mem_of_getElem? (i := 531) (by decide +kernel)⟩
theorem lw_p11 : lw_okq (⟨"GrantServer$ClaimsReader", "readsMember", "(LGrantServer$Text;)Z"⟩, 3) := ⟨⟨by decide +kernel, by decide +kernel⟩, List.mem_of_getElem? (i := 100) (by decide +kernel), List.mem_of_getElem? (i := 536) (by decide +kernel), List.mem_of_getElem? (i := 537) (by decide +kernel)⟩
theorem lw_p12 : lw_okq (⟨"GrantServer$ClaimsReader", "readName", "(LGrantServer$Text;)I"⟩, 3) := ⟨⟨by decide +kernel, by decide +kernel⟩, List.mem_of_getElem? (i := 100) (by decide +kernel), List.mem_of_getElem? (i := 540) (by decide +kernel), List.mem_of_getElem? (i := 541) (by decide +kernel)⟩
theorem lw_p13 : lw_okq (⟨"GrantServer$ClaimsReader", "standsHere", "(LGrantServer$Text;Ljava/lang/String;)Z"⟩, 3) := ⟨⟨by decide +kernel, by decide +kernel⟩, List.mem_of_getElem? (i := 100) (by decide +kernel), List.mem_of_getElem? (i := 552) (by decide +kernel), List.mem_of_getElem? (i := 553) (by decide +kernel)⟩
theorem lw_p14 : lw_okq (⟨"GrantServer$ClaimsReader", "readNumber", "(LGrantServer$Text;)I"⟩, 3) := ⟨⟨by decide +kernel, by decide +kernel⟩, List.mem_of_getElem? (i := 100) (by decide +kernel), List.mem_of_getElem? (i := 558) (by decide +kernel), List.mem_of_getElem? (i := 559) (by decide +kernel)⟩
theorem lw_p15 : lw_okq (⟨"GrantServer", "judgeClaims", "(II)I"⟩, 16) := ⟨⟨by decide +kernel, by decide +kernel⟩, List.mem_of_getElem? (i := 18) (by decide +kernel), List.mem_of_getElem? (i := 565) (by decide +kernel), List.mem_of_getElem? (i := 566) (by decide +kernel)⟩
def lw_privs_1 : List (MethodName × Nat) := [(⟨"GrantServer", "clientWith", "(I)LGrantServer$Client;"⟩, 16), (⟨"GrantServer", "isFree", "(I)Z"⟩, 16), (⟨"GrantServer", "refusalOfNewTokens", "(I)I"⟩, 16), (⟨"GrantServer", "giveTokens", "(LGrantServer$Family;III)I"⟩, 16), (⟨"GrantServer", "writeClaims", "(LGrantServer$Grant;I)V"⟩, 16), (⟨"GrantServer$Wrapping", "sealOf", "(LGrantServer$Text;I)J"⟩, 1), (⟨"GrantServer", "activeTokens", "()I"⟩, 16), (⟨"GrantServer", "shelfOf", "(I)LGrantServer$Shelf;"⟩, 16), (⟨"GrantServer$ClaimsReader", "begin", "()V"⟩, 3), (⟨"GrantServer$ClaimsReader", "readsMark", "(LGrantServer$Text;C)Z"⟩, 3), (⟨"GrantServer$ClaimsReader", "skipSpaces", "(LGrantServer$Text;)V"⟩, 3), (⟨"GrantServer$ClaimsReader", "readsMember", "(LGrantServer$Text;)Z"⟩, 3), (⟨"GrantServer$ClaimsReader", "readName", "(LGrantServer$Text;)I"⟩, 3), (⟨"GrantServer$ClaimsReader", "standsHere", "(LGrantServer$Text;Ljava/lang/String;)Z"⟩, 3), (⟨"GrantServer$ClaimsReader", "readNumber", "(LGrantServer$Text;)I"⟩, 3), (⟨"GrantServer", "judgeClaims", "(II)I"⟩, 16)]
theorem lw_r1 : ∀ q ∈ lw_privs_1, lw_okq q := List.forall_mem_cons.mpr ⟨lw_p0, List.forall_mem_cons.mpr ⟨lw_p1, List.forall_mem_cons.mpr ⟨lw_p2, List.forall_mem_cons.mpr ⟨lw_p3, List.forall_mem_cons.mpr ⟨lw_p4, List.forall_mem_cons.mpr ⟨lw_p5, List.forall_mem_cons.mpr ⟨lw_p6, List.forall_mem_cons.mpr ⟨lw_p7, List.forall_mem_cons.mpr ⟨lw_p8, List.forall_mem_cons.mpr ⟨lw_p9, List.forall_mem_cons.mpr ⟨lw_p10, List.forall_mem_cons.mpr ⟨lw_p11, List.forall_mem_cons.mpr ⟨lw_p12, List.forall_mem_cons.mpr ⟨lw_p13, List.forall_mem_cons.mpr ⟨lw_p14, List.forall_mem_cons.mpr ⟨lw_p15, fun _ h => absurd h List.not_mem_nil⟩⟩⟩⟩⟩⟩⟩⟩⟩⟩⟩⟩⟩⟩⟩⟩
theorem lw_p16 : lw_okq (⟨"GrantServer$Shelf", "swap", "(II)V"⟩, 2) := ⟨⟨by decide +kernel, by decide +kernel⟩, List.mem_of_getElem? (i := 28) (by decide +kernel), List.mem_of_getElem? (i := 630) (by decide +kernel), List.mem_of_getElem? (i := 631) (by decide +kernel)⟩
theorem lw_p17 : lw_okq (⟨"GrantServerModel", "isClient", "(I)Z"⟩, 31) := ⟨⟨by decide +kernel, by decide +kernel⟩, List.mem_of_getElem? (i := 645) (by decide +kernel), List.mem_of_getElem? (i := 756) (by decide +kernel), List.mem_of_getElem? (i := 757) (by decide +kernel)⟩
theorem lw_p18 : lw_okq (⟨"GrantServerModel", "isFree", "(I)Z"⟩, 31) := ⟨⟨by decide +kernel, by decide +kernel⟩, List.mem_of_getElem? (i := 645) (by decide +kernel), List.mem_of_getElem? (i := 765) (by decide +kernel), List.mem_of_getElem? (i := 766) (by decide +kernel)⟩
theorem lw_p19 : lw_okq (⟨"GrantServerModel", "find", "(II)I"⟩, 31) := ⟨⟨by decide +kernel, by decide +kernel⟩, List.mem_of_getElem? (i := 645) (by decide +kernel), List.mem_of_getElem? (i := 770) (by decide +kernel), List.mem_of_getElem? (i := 771) (by decide +kernel)⟩
theorem lw_p20 : lw_okq (⟨"GrantServerModel", "room", "(I)I"⟩, 31) := ⟨⟨by decide +kernel, by decide +kernel⟩, List.mem_of_getElem? (i := 645) (by decide +kernel), List.mem_of_getElem? (i := 780) (by decide +kernel), List.mem_of_getElem? (i := 781) (by decide +kernel)⟩
theorem lw_p21 : lw_okq (⟨"GrantServerModel", "put", "(IIIIII)V"⟩, 31) := ⟨⟨by decide +kernel, by decide +kernel⟩, List.mem_of_getElem? (i := 645) (by decide +kernel), List.mem_of_getElem? (i := 784) (by decide +kernel), List.mem_of_getElem? (i := 785) (by decide +kernel)⟩
theorem lw_p22 : lw_okq (⟨"GrantServerModel", "grant", "(IIII)I"⟩, 31) := ⟨⟨by decide +kernel, by decide +kernel⟩, List.mem_of_getElem? (i := 645) (by decide +kernel), List.mem_of_getElem? (i := 798) (by decide +kernel), List.mem_of_getElem? (i := 799) (by decide +kernel)⟩
theorem lw_p23 : lw_okq (⟨"GrantServerModel", "say", "(II)V"⟩, 31) := ⟨⟨by decide +kernel, by decide +kernel⟩, List.mem_of_getElem? (i := 645) (by decide +kernel), List.mem_of_getElem? (i := 802) (by decide +kernel), List.mem_of_getElem? (i := 803) (by decide +kernel)⟩
theorem lw_p24 : lw_okq (⟨"GrantServerModel", "member", "(II)V"⟩, 31) := ⟨⟨by decide +kernel, by decide +kernel⟩, List.mem_of_getElem? (i := 645) (by decide +kernel), List.mem_of_getElem? (i := 806) (by decide +kernel), List.mem_of_getElem? (i := 807) (by decide +kernel)⟩
theorem lw_p25 : lw_okq (⟨"GrantServerModel", "sayNumber", "(I)V"⟩, 31) := ⟨⟨by decide +kernel, by decide +kernel⟩, List.mem_of_getElem? (i := 645) (by decide +kernel), List.mem_of_getElem? (i := 813) (by decide +kernel), List.mem_of_getElem? (i := 814) (by decide +kernel)⟩
theorem lw_p26 : lw_okq (⟨"GrantServerModel", "wrapPlain", "()V"⟩, 31) := ⟨⟨by decide +kernel, by decide +kernel⟩, List.mem_of_getElem? (i := 645) (by decide +kernel), List.mem_of_getElem? (i := 817) (by decide +kernel), List.mem_of_getElem? (i := 818) (by decide +kernel)⟩
theorem lw_p27 : lw_okq (⟨"GrantServerModel", "six", "(I)I"⟩, 31) := ⟨⟨by decide +kernel, by decide +kernel⟩, List.mem_of_getElem? (i := 645) (by decide +kernel), List.mem_of_getElem? (i := 821) (by decide +kernel), List.mem_of_getElem? (i := 822) (by decide +kernel)⟩
theorem lw_p28 : lw_okq (⟨"GrantServerModel", "isActive", "(I)Z"⟩, 31) := ⟨⟨by decide +kernel, by decide +kernel⟩, List.mem_of_getElem? (i := 645) (by decide +kernel), List.mem_of_getElem? (i := 837) (by decide +kernel), List.mem_of_getElem? (i := 838) (by decide +kernel)⟩
theorem lw_p29 : lw_okq (⟨"GrantServerModel", "activeTokens", "()I"⟩, 31) := ⟨⟨by decide +kernel, by decide +kernel⟩, List.mem_of_getElem? (i := 645) (by decide +kernel), List.mem_of_getElem? (i := 845) (by decide +kernel), List.mem_of_getElem? (i := 846) (by decide +kernel)⟩
theorem lw_p30 : lw_okq (⟨"GrantServerModel", "isForm", "()Z"⟩, 31) := ⟨⟨by decide +kernel, by decide +kernel⟩, List.mem_of_getElem? (i := 645) (by decide +kernel), List.mem_of_getElem? (i := 893) (by decide +kernel), List.mem_of_getElem? (i := 894) (by decide +kernel)⟩
theorem lw_p31 : lw_okq (⟨"GrantServerModel", "isSealed", "()Z"⟩, 31) := ⟨⟨by decide +kernel, by decide +kernel⟩, List.mem_of_getElem? (i := 645) (by decide +kernel), List.mem_of_getElem? (i := 900) (by decide +kernel), List.mem_of_getElem? (i := 901) (by decide +kernel)⟩
def lw_privs_2 : List (MethodName × Nat) := [(⟨"GrantServer$Shelf", "swap", "(II)V"⟩, 2), (⟨"GrantServerModel", "isClient", "(I)Z"⟩, 31), (⟨"GrantServerModel", "isFree", "(I)Z"⟩, 31), (⟨"GrantServerModel", "find", "(II)I"⟩, 31), (⟨"GrantServerModel", "room", "(I)I"⟩, 31), (⟨"GrantServerModel", "put", "(IIIIII)V"⟩, 31), (⟨"GrantServerModel", "grant", "(IIII)I"⟩, 31), (⟨"GrantServerModel", "say", "(II)V"⟩, 31), (⟨"GrantServerModel", "member", "(II)V"⟩, 31), (⟨"GrantServerModel", "sayNumber", "(I)V"⟩, 31), (⟨"GrantServerModel", "wrapPlain", "()V"⟩, 31), (⟨"GrantServerModel", "six", "(I)I"⟩, 31), (⟨"GrantServerModel", "isActive", "(I)Z"⟩, 31), (⟨"GrantServerModel", "activeTokens", "()I"⟩, 31), (⟨"GrantServerModel", "isForm", "()Z"⟩, 31), (⟨"GrantServerModel", "isSealed", "()Z"⟩, 31)]
theorem lw_r2 : ∀ q ∈ lw_privs_2, lw_okq q := List.forall_mem_cons.mpr ⟨lw_p16, List.forall_mem_cons.mpr ⟨lw_p17, List.forall_mem_cons.mpr ⟨lw_p18, List.forall_mem_cons.mpr ⟨lw_p19, List.forall_mem_cons.mpr ⟨lw_p20, List.forall_mem_cons.mpr ⟨lw_p21, List.forall_mem_cons.mpr ⟨lw_p22, List.forall_mem_cons.mpr ⟨lw_p23, List.forall_mem_cons.mpr ⟨lw_p24, List.forall_mem_cons.mpr ⟨lw_p25, List.forall_mem_cons.mpr ⟨lw_p26, List.forall_mem_cons.mpr ⟨lw_p27, List.forall_mem_cons.mpr ⟨lw_p28, List.forall_mem_cons.mpr ⟨lw_p29, List.forall_mem_cons.mpr ⟨lw_p30, List.forall_mem_cons.mpr ⟨lw_p31, fun _ h => absurd h List.not_mem_nil⟩⟩⟩⟩⟩⟩⟩⟩⟩⟩⟩⟩⟩⟩⟩⟩
theorem lw_p32 : lw_okq (⟨"GrantServerModel", "unwrap", "()V"⟩, 31) := ⟨⟨by decide +kernel, by decide +kernel⟩, List.mem_of_getElem? (i := 645) (by decide +kernel), List.mem_of_getElem? (i := 904) (by decide +kernel), List.mem_of_getElem? (i := 905) (by decide +kernel)⟩
theorem lw_p33 : lw_okq (⟨"GrantServerModel", "readClaims", "()Z"⟩, 31) := ⟨⟨by decide +kernel, by decide +kernel⟩, List.mem_of_getElem? (i := 645) (by decide +kernel), List.mem_of_getElem? (i := 908) (by decide +kernel), List.mem_of_getElem? (i := 909) (by decide +kernel)⟩
theorem lw_p34 : lw_okq (⟨"GrantServerModel", "reads", "(I)Z"⟩, 31) := ⟨⟨by decide +kernel, by decide +kernel⟩, List.mem_of_getElem? (i := 645) (by decide +kernel), List.mem_of_getElem? (i := 912) (by decide +kernel), List.mem_of_getElem? (i := 913) (by decide +kernel)⟩
theorem lw_p35 : lw_okq (⟨"GrantServerModel", "next", "()I"⟩, 31) := ⟨⟨by decide +kernel, by decide +kernel⟩, List.mem_of_getElem? (i := 645) (by decide +kernel), List.mem_of_getElem? (i := 916) (by decide +kernel), List.mem_of_getElem? (i := 917) (by decide +kernel)⟩
theorem lw_p36 : lw_okq (⟨"GrantServerModel", "readMember", "()Z"⟩, 31) := ⟨⟨by decide +kernel, by decide +kernel⟩, List.mem_of_getElem? (i := 645) (by decide +kernel), List.mem_of_getElem? (i := 920) (by decide +kernel), List.mem_of_getElem? (i := 921) (by decide +kernel)⟩
theorem lw_p37 : lw_okq (⟨"GrantServerModel", "readName", "()I"⟩, 31) := ⟨⟨by decide +kernel, by decide +kernel⟩, List.mem_of_getElem? (i := 645) (by decide +kernel), List.mem_of_getElem? (i := 924) (by decide +kernel), List.mem_of_getElem? (i := 925) (by decide +kernel)⟩
theorem lw_p38 : lw_okq (⟨"GrantServerModel", "readNumber", "()I"⟩, 31) := ⟨⟨by decide +kernel, by decide +kernel⟩, List.mem_of_getElem? (i := 645) (by decide +kernel), List.mem_of_getElem? (i := 928) (by decide +kernel), List.mem_of_getElem? (i := 929) (by decide +kernel)⟩
def lw_privs_3 : List (MethodName × Nat) := [(⟨"GrantServerModel", "unwrap", "()V"⟩, 31), (⟨"GrantServerModel", "readClaims", "()Z"⟩, 31), (⟨"GrantServerModel", "reads", "(I)Z"⟩, 31), (⟨"GrantServerModel", "next", "()I"⟩, 31), (⟨"GrantServerModel", "readMember", "()Z"⟩, 31), (⟨"GrantServerModel", "readName", "()I"⟩, 31), (⟨"GrantServerModel", "readNumber", "()I"⟩, 31)]
theorem lw_r3 : ∀ q ∈ lw_privs_3, lw_okq q := List.forall_mem_cons.mpr ⟨lw_p32, List.forall_mem_cons.mpr ⟨lw_p33, List.forall_mem_cons.mpr ⟨lw_p34, List.forall_mem_cons.mpr ⟨lw_p35, List.forall_mem_cons.mpr ⟨lw_p36, List.forall_mem_cons.mpr ⟨lw_p37, List.forall_mem_cons.mpr ⟨lw_p38, fun _ h => absurd h List.not_mem_nil⟩⟩⟩⟩⟩⟩⟩
def lw_privs : List (MethodName × Nat) := lw_privs_1 ++ (lw_privs_2 ++ (lw_privs_3))
def lw_tbl : List Cond := k2_sels lw_privs ++ tables_1
theorem lw_privs_ok : ∀ q ∈ lw_privs, lw_okq q := by
  show ∀ q ∈ lw_privs_1 ++ (lw_privs_2 ++ (lw_privs_3)), lw_okq q
  exact List.forall_mem_append.mpr ⟨lw_r1, List.forall_mem_append.mpr ⟨lw_r2, lw_r3⟩⟩
end
section
def R_GrantServer : String := "GrantServer"
def R_Client : String := "GrantServer$Client"
def R_Family : String := "GrantServer$Family"
def R_Grant : String := "GrantServer$Grant"
def R_Shelf : String := "GrantServer$Shelf"
def R_Text : String := "GrantServer$Text"
def R_Wrapping : String := "GrantServer$Wrapping"
def R_ClaimsReader : String := "GrantServer$ClaimsReader"
def R_GrantServerModel : String := "GrantServerModel"
def R_GrantServerLaw : String := "GrantServerLaw"
def F_GrantServer : u_T := fun k => match k with
  | 0 => ("GrantServer", "codeLife", "I", true)
  | 1 => ("GrantServer", "accessLife", "I", true)
  | 2 => ("GrantServer", "refreshLife", "I", true)
  | 3 => ("GrantServer", "clients", "[LGrantServer$Client;", true)
  | 4 => ("GrantServer", "codes", "LGrantServer$Shelf;", true)
  | 5 => ("GrantServer", "refreshTokens", "LGrantServer$Shelf;", true)
  | 6 => ("GrantServer", "accessTokens", "LGrantServer$Shelf;", true)
  | 7 => ("GrantServer", "input", "LGrantServer$Text;", true)
  | 8 => ("GrantServer", "output", "LGrantServer$Text;", true)
  | 9 => ("GrantServer", "plain", "LGrantServer$Text;", true)
  | 10 => ("GrantServer", "reader", "LGrantServer$ClaimsReader;", true)
  | 11 => ("GrantServer", "wrapping", "LGrantServer$Wrapping;", true)
  | 12 => ("GrantServer", "clientCount", "I", false)
  | 13 => ("GrantServer", "loggedIn", "I", false)
  | 14 => ("GrantServer", "accessTokensMade", "I", false)
  | _ => ("GrantServer", "time", "I", false)
def t_GrantServer : Nat → FieldType := fun k => match k with
  | 0 => .int
  | 1 => .int
  | 2 => .int
  | 3 => .array (.object "GrantServer$Client")
  | 4 => .object "GrantServer$Shelf"
  | 5 => .object "GrantServer$Shelf"
  | 6 => .object "GrantServer$Shelf"
  | 7 => .object "GrantServer$Text"
  | 8 => .object "GrantServer$Text"
  | 9 => .object "GrantServer$Text"
  | 10 => .object "GrantServer$ClaimsReader"
  | 11 => .object "GrantServer$Wrapping"
  | 12 => .int
  | 13 => .int
  | 14 => .int
  | _ => .int
def F_Client : u_T := fun k => match k with
  | 0 => ("GrantServer$Client", "secret", "I", true)
  | 1 => ("GrantServer$Client", "redirect", "I", true)
  | _ => ("GrantServer$Client", "scopes", "I", true)
def t_Client : Nat → FieldType := fun k => match k with
  | 0 => .int
  | 1 => .int
  | _ => .int
def F_Family : u_T := fun k => match k with
  | 0 => ("GrantServer$Family", "scopes", "I", true)
  | 1 => ("GrantServer$Family", "audience", "I", true)
  | _ => ("GrantServer$Family", "revoked", "Z", false)
def t_Family : Nat → FieldType := fun k => match k with
  | 0 => .int
  | 1 => .int
  | _ => .boolean
def F_Grant : u_T := fun k => match k with
  | 0 => ("GrantServer$Grant", "number", "I", false)
  | 1 => ("GrantServer$Grant", "owner", "I", false)
  | 2 => ("GrantServer$Grant", "scopes", "I", false)
  | 3 => ("GrantServer$Grant", "end", "I", false)
  | 4 => ("GrantServer$Grant", "redirect", "I", false)
  | 5 => ("GrantServer$Grant", "challenge", "I", false)
  | 6 => ("GrantServer$Grant", "spent", "Z", false)
  | 7 => ("GrantServer$Grant", "revoked", "Z", false)
  | _ => ("GrantServer$Grant", "family", "LGrantServer$Family;", false)
def t_Grant : Nat → FieldType := fun k => match k with
  | 0 => .int
  | 1 => .int
  | 2 => .int
  | 3 => .int
  | 4 => .int
  | 5 => .int
  | 6 => .boolean
  | 7 => .boolean
  | _ => .object "GrantServer$Family"
def F_Shelf : u_T := fun k => match k with
  | 0 => ("GrantServer$Shelf", "grants", "[LGrantServer$Grant;", true)
  | _ => ("GrantServer$Shelf", "used", "I", false)
def t_Shelf : Nat → FieldType := fun k => match k with
  | 0 => .array (.object "GrantServer$Grant")
  | _ => .int
def F_Text : u_T := fun k => match k with
  | 0 => ("GrantServer$Text", "chars", "[C", true)
  | _ => ("GrantServer$Text", "length", "I", false)
def t_Text : Nat → FieldType := fun k => match k with
  | 0 => .array .char
  | _ => .int
def F_Wrapping : u_T := fun k => match k with
  | _ => ("GrantServer$Wrapping", "sealKey", "I", true)
def t_Wrapping : Nat → FieldType := fun k => match k with
  | _ => .int
def F_ClaimsReader : u_T := fun k => match k with
  | 0 => ("GrantServer$ClaimsReader", "values", "[I", true)
  | 1 => ("GrantServer$ClaimsReader", "seen", "[Z", true)
  | _ => ("GrantServer$ClaimsReader", "at", "I", false)
def t_ClaimsReader : Nat → FieldType := fun k => match k with
  | 0 => .array .int
  | 1 => .array .boolean
  | _ => .int
def F_GrantServerModel : u_T := fun k => match k with
  | 0 => ("GrantServerModel", "sealKey", "J", true)
  | 1 => ("GrantServerModel", "codeLife", "I", true)
  | 2 => ("GrantServerModel", "accessLife", "I", true)
  | 3 => ("GrantServerModel", "refreshLife", "I", true)
  | 4 => ("GrantServerModel", "now", "I", false)
  | 5 => ("GrantServerModel", "secrets", "[I", true)
  | 6 => ("GrantServerModel", "redirects", "[I", true)
  | 7 => ("GrantServerModel", "allowed", "[I", true)
  | 8 => ("GrantServerModel", "clients", "I", false)
  | 9 => ("GrantServerModel", "user", "I", false)
  | 10 => ("GrantServerModel", "number", "[I", true)
  | 11 => ("GrantServerModel", "owner", "[I", true)
  | 12 => ("GrantServerModel", "scopesOf", "[I", true)
  | 13 => ("GrantServerModel", "end", "[I", true)
  | 14 => ("GrantServerModel", "over", "[Z", true)
  | 15 => ("GrantServerModel", "family", "[I", true)
  | 16 => ("GrantServerModel", "codeRedirect", "[I", true)
  | 17 => ("GrantServerModel", "codeChallenge", "[I", true)
  | 18 => ("GrantServerModel", "made", "I", false)
  | 19 => ("GrantServerModel", "familyScopes", "[I", true)
  | 20 => ("GrantServerModel", "familyAudience", "[I", true)
  | 21 => ("GrantServerModel", "revoked", "[Z", true)
  | 22 => ("GrantServerModel", "families", "I", false)
  | 23 => ("GrantServerModel", "input", "[I", true)
  | 24 => ("GrantServerModel", "inputs", "I", false)
  | 25 => ("GrantServerModel", "output", "[I", true)
  | 26 => ("GrantServerModel", "outputs", "I", false)
  | 27 => ("GrantServerModel", "plain", "[I", true)
  | 28 => ("GrantServerModel", "plains", "I", false)
  | 29 => ("GrantServerModel", "at", "I", false)
  | _ => ("GrantServerModel", "claim", "[I", true)
def t_GrantServerModel : Nat → FieldType := fun k => match k with
  | 0 => .long
  | 1 => .int
  | 2 => .int
  | 3 => .int
  | 4 => .int
  | 5 => .array .int
  | 6 => .array .int
  | 7 => .array .int
  | 8 => .int
  | 9 => .int
  | 10 => .array .int
  | 11 => .array .int
  | 12 => .array .int
  | 13 => .array .int
  | 14 => .array .boolean
  | 15 => .array .int
  | 16 => .array .int
  | 17 => .array .int
  | 18 => .int
  | 19 => .array .int
  | 20 => .array .int
  | 21 => .array .boolean
  | 22 => .int
  | 23 => .array .int
  | 24 => .int
  | 25 => .array .int
  | 26 => .int
  | 27 => .array .int
  | 28 => .int
  | 29 => .int
  | _ => .array .int
abbrev vwCl : List vw_C := [(R_GrantServer, F_GrantServer, 16), (R_Client, F_Client, 3), (R_Family, F_Family, 3), (R_Grant, F_Grant, 9), (R_Shelf, F_Shelf, 2), (R_Text, F_Text, 2), (R_Wrapping, F_Wrapping, 1), (R_ClaimsReader, F_ClaimsReader, 3), (R_GrantServerModel, F_GrantServerModel, 31)]
abbrev tyL (k : Nat → ClassId) : List (ClassId × FieldType) := [(k 0, .int), (k 1, .boolean), (k 2, .char), (k 3, .object "GrantServer$Grant"), (k 4, .object "GrantServer$Client")]
abbrev b_GrantServer_init : ByteArray := prog_1_method_1_code
def y_GrantServer_init : MethodName := ⟨R_GrantServer, "<init>", "(IIII)V"⟩
abbrev b_GrantServer_client : ByteArray := prog_1_method_2_code
def y_GrantServer_client : MethodName := ⟨R_GrantServer, "client", "(III)I"⟩
abbrev b_GrantServer_login : ByteArray := prog_1_method_3_code
def y_GrantServer_login : MethodName := ⟨R_GrantServer, "login", "(II)Z"⟩
abbrev b_GrantServer_authorize : ByteArray := prog_1_method_4_code
def y_GrantServer_authorize : MethodName := ⟨R_GrantServer, "authorize", "(IIIII)I"⟩
abbrev b_GrantServer_exchange : ByteArray := prog_1_method_5_code
def y_GrantServer_exchange : MethodName := ⟨R_GrantServer, "exchange", "(IIII)I"⟩
abbrev b_GrantServer_refresh : ByteArray := prog_1_method_6_code
def y_GrantServer_refresh : MethodName := ⟨R_GrantServer, "refresh", "(III)I"⟩
abbrev b_GrantServer_revoke : ByteArray := prog_1_method_7_code
def y_GrantServer_revoke : MethodName := ⟨R_GrantServer, "revoke", "(II)I"⟩
abbrev b_GrantServer_active : ByteArray := prog_1_method_8_code
def y_GrantServer_active : MethodName := ⟨R_GrantServer, "active", "(II)Z"⟩
abbrev b_GrantServer_check : ByteArray := prog_1_method_9_code
def y_GrantServer_check : MethodName := ⟨R_GrantServer, "check", "(II)I"⟩
abbrev b_GrantServer_key : ByteArray := prog_1_method_10_code
def y_GrantServer_key : MethodName := ⟨R_GrantServer, "key", "(C)Z"⟩
abbrev b_GrantServer_alter : ByteArray := prog_1_method_11_code
def y_GrantServer_alter : MethodName := ⟨R_GrantServer, "alter", "(IC)Z"⟩
abbrev b_GrantServer_take : ByteArray := prog_1_method_12_code
def y_GrantServer_take : MethodName := ⟨R_GrantServer, "take", "(Z)I"⟩
abbrev b_GrantServer_letter : ByteArray := prog_1_method_13_code
def y_GrantServer_letter : MethodName := ⟨R_GrantServer, "letter", "(ZI)I"⟩
abbrev b_GrantServer_challenge : ByteArray := prog_1_method_14_code
def y_GrantServer_challenge : MethodName := ⟨R_GrantServer, "challenge", "()I"⟩
abbrev b_GrantServer_wrap : ByteArray := prog_1_method_15_code
def y_GrantServer_wrap : MethodName := ⟨R_GrantServer, "wrap", "()I"⟩
abbrev b_GrantServer_tick : ByteArray := prog_1_method_16_code
def y_GrantServer_tick : MethodName := ⟨R_GrantServer, "tick", "(I)Z"⟩
abbrev b_GrantServer_sweep : ByteArray := prog_1_method_17_code
def y_GrantServer_sweep : MethodName := ⟨R_GrantServer, "sweep", "()I"⟩
abbrev b_GrantServer_count : ByteArray := prog_1_method_18_code
def y_GrantServer_count : MethodName := ⟨R_GrantServer, "count", "(IZ)I"⟩
abbrev b_GrantServer_keptLife : ByteArray := prog_1_method_19_code
def y_GrantServer_keptLife : MethodName := ⟨R_GrantServer, "keptLife", "(I)I"⟩
abbrev b_GrantServer_isSomeScopes : ByteArray := prog_1_method_20_code
def y_GrantServer_isSomeScopes : MethodName := ⟨R_GrantServer, "isSomeScopes", "(I)Z"⟩
abbrev b_GrantServer_isWithin : ByteArray := prog_1_method_21_code
def y_GrantServer_isWithin : MethodName := ⟨R_GrantServer, "isWithin", "(II)Z"⟩
abbrev b_GrantServer_isWritable : ByteArray := prog_1_method_22_code
def y_GrantServer_isWritable : MethodName := ⟨R_GrantServer, "isWritable", "(C)Z"⟩
abbrev b_GrantServer_clientWith : ByteArray := prog_1_method_23_code
def y_GrantServer_clientWith : MethodName := ⟨R_GrantServer, "clientWith", "(I)LGrantServer$Client;"⟩
abbrev b_GrantServer_shelfOf : ByteArray := prog_1_method_24_code
def y_GrantServer_shelfOf : MethodName := ⟨R_GrantServer, "shelfOf", "(I)LGrantServer$Shelf;"⟩
abbrev b_GrantServer_isFree : ByteArray := prog_1_method_25_code
def y_GrantServer_isFree : MethodName := ⟨R_GrantServer, "isFree", "(I)Z"⟩
abbrev b_GrantServer_refusalOfNewTokens : ByteArray := prog_1_method_26_code
def y_GrantServer_refusalOfNewTokens : MethodName := ⟨R_GrantServer, "refusalOfNewTokens", "(I)I"⟩
abbrev b_GrantServer_giveTokens : ByteArray := prog_1_method_27_code
def y_GrantServer_giveTokens : MethodName := ⟨R_GrantServer, "giveTokens", "(LGrantServer$Family;III)I"⟩
abbrev b_GrantServer_writeClaims : ByteArray := prog_1_method_28_code
def y_GrantServer_writeClaims : MethodName := ⟨R_GrantServer, "writeClaims", "(LGrantServer$Grant;I)V"⟩
abbrev b_GrantServer_judgeClaims : ByteArray := prog_1_method_29_code
def y_GrantServer_judgeClaims : MethodName := ⟨R_GrantServer, "judgeClaims", "(II)I"⟩
abbrev b_GrantServer_activeTokens : ByteArray := prog_1_method_30_code
def y_GrantServer_activeTokens : MethodName := ⟨R_GrantServer, "activeTokens", "()I"⟩
abbrev b_GrantServer_revokeFamilyOf : ByteArray := prog_1_method_31_code
def y_GrantServer_revokeFamilyOf : MethodName := ⟨R_GrantServer, "revokeFamilyOf", "(LGrantServer$Grant;)V"⟩
abbrev b_GrantServer_revokeAlone : ByteArray := prog_1_method_32_code
def y_GrantServer_revokeAlone : MethodName := ⟨R_GrantServer, "revokeAlone", "(LGrantServer$Grant;)V"⟩
abbrev b_Client_init : ByteArray := prog_3_method_1_code
def y_Client_init : MethodName := ⟨R_Client, "<init>", "(III)V"⟩
abbrev b_Family_init : ByteArray := prog_4_method_1_code
def y_Family_init : MethodName := ⟨R_Family, "<init>", "(II)V"⟩
abbrev b_Grant_init : ByteArray := prog_5_method_1_code
def y_Grant_init : MethodName := ⟨R_Grant, "<init>", "()V"⟩
abbrev b_Grant_begin : ByteArray := prog_5_method_2_code
def y_Grant_begin : MethodName := ⟨R_Grant, "begin", "(IIIILGrantServer$Family;)V"⟩
abbrev b_Grant_isActive : ByteArray := prog_5_method_3_code
def y_Grant_isActive : MethodName := ⟨R_Grant, "isActive", "(I)Z"⟩
abbrev b_Grant_revokeFamily : ByteArray := prog_5_method_4_code
def y_Grant_revokeFamily : MethodName := ⟨R_Grant, "revokeFamily", "()V"⟩
abbrev b_Shelf_init : ByteArray := prog_6_method_1_code
def y_Shelf_init : MethodName := ⟨R_Shelf, "<init>", "(I)V"⟩
abbrev b_Shelf_rows : ByteArray := prog_6_method_2_code
def y_Shelf_rows : MethodName := ⟨R_Shelf, "rows", "()I"⟩
abbrev b_Shelf_isFull : ByteArray := prog_6_method_3_code
def y_Shelf_isFull : MethodName := ⟨R_Shelf, "isFull", "()Z"⟩
abbrev b_Shelf_nextRow : ByteArray := prog_6_method_4_code
def y_Shelf_nextRow : MethodName := ⟨R_Shelf, "nextRow", "()LGrantServer$Grant;"⟩
abbrev b_Shelf_find : ByteArray := prog_6_method_5_code
def y_Shelf_find : MethodName := ⟨R_Shelf, "find", "(I)LGrantServer$Grant;"⟩
abbrev b_Shelf_findOwned : ByteArray := prog_6_method_6_code
def y_Shelf_findOwned : MethodName := ⟨R_Shelf, "findOwned", "(II)LGrantServer$Grant;"⟩
abbrev b_Shelf_hasActive : ByteArray := prog_6_method_7_code
def y_Shelf_hasActive : MethodName := ⟨R_Shelf, "hasActive", "(II)Z"⟩
abbrev b_Shelf_activeRows : ByteArray := prog_6_method_8_code
def y_Shelf_activeRows : MethodName := ⟨R_Shelf, "activeRows", "(I)I"⟩
abbrev b_Shelf_dropEnded : ByteArray := prog_6_method_9_code
def y_Shelf_dropEnded : MethodName := ⟨R_Shelf, "dropEnded", "(I)I"⟩
abbrev b_Shelf_swap : ByteArray := prog_6_method_10_code
def y_Shelf_swap : MethodName := ⟨R_Shelf, "swap", "(II)V"⟩
abbrev b_Text_init : ByteArray := prog_7_method_1_code
def y_Text_init : MethodName := ⟨R_Text, "<init>", "()V"⟩
abbrev b_Text_size : ByteArray := prog_7_method_2_code
def y_Text_size : MethodName := ⟨R_Text, "size", "()I"⟩
abbrev b_Text_codeAt : ByteArray := prog_7_method_3_code
def y_Text_codeAt : MethodName := ⟨R_Text, "codeAt", "(I)I"⟩
abbrev b_Text_clear : ByteArray := prog_7_method_4_code
def y_Text_clear : MethodName := ⟨R_Text, "clear", "()V"⟩
abbrev b_Text_add : ByteArray := prog_7_method_5_code
def y_Text_add : MethodName := ⟨R_Text, "add", "(C)Z"⟩
abbrev b_Text_put : ByteArray := prog_7_method_6_code
def y_Text_put : MethodName := ⟨R_Text, "put", "(IC)Z"⟩
abbrev b_Text_copyFrom : ByteArray := prog_7_method_7_code
def y_Text_copyFrom : MethodName := ⟨R_Text, "copyFrom", "(LGrantServer$Text;)V"⟩
abbrev b_Text_addText : ByteArray := prog_7_method_8_code
def y_Text_addText : MethodName := ⟨R_Text, "addText", "(Ljava/lang/String;)V"⟩
abbrev b_Text_addNumber : ByteArray := prog_7_method_9_code
def y_Text_addNumber : MethodName := ⟨R_Text, "addNumber", "(I)V"⟩
abbrev b_Text_hash : ByteArray := prog_7_method_10_code
def y_Text_hash : MethodName := ⟨R_Text, "hash", "()I"⟩
abbrev b_Wrapping_init : ByteArray := prog_8_method_1_code
def y_Wrapping_init : MethodName := ⟨R_Wrapping, "<init>", "(I)V"⟩
abbrev b_Wrapping_sizeOfWrapped : ByteArray := prog_8_method_2_code
def y_Wrapping_sizeOfWrapped : MethodName := ⟨R_Wrapping, "sizeOfWrapped", "(LGrantServer$Text;)I"⟩
abbrev b_Wrapping_wrapInto : ByteArray := prog_8_method_3_code
def y_Wrapping_wrapInto : MethodName := ⟨R_Wrapping, "wrapInto", "(LGrantServer$Text;LGrantServer$Text;)V"⟩
abbrev b_Wrapping_hasForm : ByteArray := prog_8_method_4_code
def y_Wrapping_hasForm : MethodName := ⟨R_Wrapping, "hasForm", "(LGrantServer$Text;)Z"⟩
abbrev b_Wrapping_hasSeal : ByteArray := prog_8_method_5_code
def y_Wrapping_hasSeal : MethodName := ⟨R_Wrapping, "hasSeal", "(LGrantServer$Text;)Z"⟩
abbrev b_Wrapping_unwrapInto : ByteArray := prog_8_method_6_code
def y_Wrapping_unwrapInto : MethodName := ⟨R_Wrapping, "unwrapInto", "(LGrantServer$Text;LGrantServer$Text;)V"⟩
abbrev b_Wrapping_signsFor : ByteArray := prog_8_method_7_code
def y_Wrapping_signsFor : MethodName := ⟨R_Wrapping, "signsFor", "(LGrantServer$Text;)I"⟩
abbrev b_Wrapping_sixBits : ByteArray := prog_8_method_8_code
def y_Wrapping_sixBits : MethodName := ⟨R_Wrapping, "sixBits", "(LGrantServer$Text;I)I"⟩
abbrev b_Wrapping_eightBits : ByteArray := prog_8_method_9_code
def y_Wrapping_eightBits : MethodName := ⟨R_Wrapping, "eightBits", "(LGrantServer$Text;I)I"⟩
abbrev b_Wrapping_signValue : ByteArray := prog_8_method_10_code
def y_Wrapping_signValue : MethodName := ⟨R_Wrapping, "signValue", "(LGrantServer$Text;I)I"⟩
abbrev b_Wrapping_sealOf : ByteArray := prog_8_method_11_code
def y_Wrapping_sealOf : MethodName := ⟨R_Wrapping, "sealOf", "(LGrantServer$Text;I)J"⟩
abbrev b_Wrapping_sealSign : ByteArray := prog_8_method_12_code
def y_Wrapping_sealSign : MethodName := ⟨R_Wrapping, "sealSign", "(JI)C"⟩
abbrev b_ClaimsReader_init : ByteArray := prog_2_method_1_code
def y_ClaimsReader_init : MethodName := ⟨R_ClaimsReader, "<init>", "()V"⟩
abbrev b_ClaimsReader_value : ByteArray := prog_2_method_2_code
def y_ClaimsReader_value : MethodName := ⟨R_ClaimsReader, "value", "(I)I"⟩
abbrev b_ClaimsReader_reads : ByteArray := prog_2_method_3_code
def y_ClaimsReader_reads : MethodName := ⟨R_ClaimsReader, "reads", "(LGrantServer$Text;)Z"⟩
abbrev b_ClaimsReader_begin : ByteArray := prog_2_method_4_code
def y_ClaimsReader_begin : MethodName := ⟨R_ClaimsReader, "begin", "()V"⟩
abbrev b_ClaimsReader_readsMember : ByteArray := prog_2_method_5_code
def y_ClaimsReader_readsMember : MethodName := ⟨R_ClaimsReader, "readsMember", "(LGrantServer$Text;)Z"⟩
abbrev b_ClaimsReader_readsMark : ByteArray := prog_2_method_6_code
def y_ClaimsReader_readsMark : MethodName := ⟨R_ClaimsReader, "readsMark", "(LGrantServer$Text;C)Z"⟩
abbrev b_ClaimsReader_readName : ByteArray := prog_2_method_7_code
def y_ClaimsReader_readName : MethodName := ⟨R_ClaimsReader, "readName", "(LGrantServer$Text;)I"⟩
abbrev b_ClaimsReader_standsHere : ByteArray := prog_2_method_8_code
def y_ClaimsReader_standsHere : MethodName := ⟨R_ClaimsReader, "standsHere", "(LGrantServer$Text;Ljava/lang/String;)Z"⟩
abbrev b_ClaimsReader_readNumber : ByteArray := prog_2_method_9_code
def y_ClaimsReader_readNumber : MethodName := ⟨R_ClaimsReader, "readNumber", "(LGrantServer$Text;)I"⟩
abbrev b_ClaimsReader_skipSpaces : ByteArray := prog_2_method_10_code
def y_ClaimsReader_skipSpaces : MethodName := ⟨R_ClaimsReader, "skipSpaces", "(LGrantServer$Text;)V"⟩
abbrev b_ClaimsReader_isDigit : ByteArray := prog_2_method_11_code
def y_ClaimsReader_isDigit : MethodName := ⟨R_ClaimsReader, "isDigit", "(I)Z"⟩
abbrev b_ClaimsReader_quotedName : ByteArray := prog_2_method_12_code
def y_ClaimsReader_quotedName : MethodName := ⟨R_ClaimsReader, "quotedName", "(I)Ljava/lang/String;"⟩
abbrev b_GrantServerModel_init : ByteArray := prog_10_method_1_code
def y_GrantServerModel_init : MethodName := ⟨R_GrantServerModel, "<init>", "(IIII)V"⟩
abbrev b_GrantServerModel_within : ByteArray := prog_10_method_2_code
def y_GrantServerModel_within : MethodName := ⟨R_GrantServerModel, "within", "(I)I"⟩
abbrev b_GrantServerModel_client : ByteArray := prog_10_method_3_code
def y_GrantServerModel_client : MethodName := ⟨R_GrantServerModel, "client", "(III)I"⟩
abbrev b_GrantServerModel_isClient : ByteArray := prog_10_method_4_code
def y_GrantServerModel_isClient : MethodName := ⟨R_GrantServerModel, "isClient", "(I)Z"⟩
abbrev b_GrantServerModel_login : ByteArray := prog_10_method_5_code
def y_GrantServerModel_login : MethodName := ⟨R_GrantServerModel, "login", "(II)Z"⟩
abbrev b_GrantServerModel_from : ByteArray := prog_10_method_6_code
def y_GrantServerModel_from : MethodName := ⟨R_GrantServerModel, "from", "(I)I"⟩
abbrev b_GrantServerModel_to : ByteArray := prog_10_method_7_code
def y_GrantServerModel_to : MethodName := ⟨R_GrantServerModel, "to", "(I)I"⟩
abbrev b_GrantServerModel_find : ByteArray := prog_10_method_8_code
def y_GrantServerModel_find : MethodName := ⟨R_GrantServerModel, "find", "(II)I"⟩
abbrev b_GrantServerModel_room : ByteArray := prog_10_method_9_code
def y_GrantServerModel_room : MethodName := ⟨R_GrantServerModel, "room", "(I)I"⟩
abbrev b_GrantServerModel_isFree : ByteArray := prog_10_method_10_code
def y_GrantServerModel_isFree : MethodName := ⟨R_GrantServerModel, "isFree", "(I)Z"⟩
abbrev b_GrantServerModel_isActive : ByteArray := prog_10_method_11_code
def y_GrantServerModel_isActive : MethodName := ⟨R_GrantServerModel, "isActive", "(I)Z"⟩
abbrev b_GrantServerModel_put : ByteArray := prog_10_method_12_code
def y_GrantServerModel_put : MethodName := ⟨R_GrantServerModel, "put", "(IIIIII)V"⟩
abbrev b_GrantServerModel_authorize : ByteArray := prog_10_method_13_code
def y_GrantServerModel_authorize : MethodName := ⟨R_GrantServerModel, "authorize", "(IIIII)I"⟩
abbrev b_GrantServerModel_grant : ByteArray := prog_10_method_14_code
def y_GrantServerModel_grant : MethodName := ⟨R_GrantServerModel, "grant", "(IIII)I"⟩
abbrev b_GrantServerModel_exchange : ByteArray := prog_10_method_15_code
def y_GrantServerModel_exchange : MethodName := ⟨R_GrantServerModel, "exchange", "(IIII)I"⟩
abbrev b_GrantServerModel_refresh : ByteArray := prog_10_method_16_code
def y_GrantServerModel_refresh : MethodName := ⟨R_GrantServerModel, "refresh", "(III)I"⟩
abbrev b_GrantServerModel_activeTokens : ByteArray := prog_10_method_17_code
def y_GrantServerModel_activeTokens : MethodName := ⟨R_GrantServerModel, "activeTokens", "()I"⟩
abbrev b_GrantServerModel_revoke : ByteArray := prog_10_method_18_code
def y_GrantServerModel_revoke : MethodName := ⟨R_GrantServerModel, "revoke", "(II)I"⟩
abbrev b_GrantServerModel_active : ByteArray := prog_10_method_19_code
def y_GrantServerModel_active : MethodName := ⟨R_GrantServerModel, "active", "(II)Z"⟩
abbrev b_GrantServerModel_sweep : ByteArray := prog_10_method_20_code
def y_GrantServerModel_sweep : MethodName := ⟨R_GrantServerModel, "sweep", "()I"⟩
abbrev b_GrantServerModel_count : ByteArray := prog_10_method_21_code
def y_GrantServerModel_count : MethodName := ⟨R_GrantServerModel, "count", "(IZ)I"⟩
abbrev b_GrantServerModel_tick : ByteArray := prog_10_method_22_code
def y_GrantServerModel_tick : MethodName := ⟨R_GrantServerModel, "tick", "(I)Z"⟩
abbrev b_GrantServerModel_say : ByteArray := prog_10_method_23_code
def y_GrantServerModel_say : MethodName := ⟨R_GrantServerModel, "say", "(II)V"⟩
abbrev b_GrantServerModel_sayNumber : ByteArray := prog_10_method_24_code
def y_GrantServerModel_sayNumber : MethodName := ⟨R_GrantServerModel, "sayNumber", "(I)V"⟩
abbrev b_GrantServerModel_nameAt : ByteArray := prog_10_method_25_code
def y_GrantServerModel_nameAt : MethodName := ⟨R_GrantServerModel, "nameAt", "(II)I"⟩
abbrev b_GrantServerModel_member : ByteArray := prog_10_method_26_code
def y_GrantServerModel_member : MethodName := ⟨R_GrantServerModel, "member", "(II)V"⟩
abbrev b_GrantServerModel_sign : ByteArray := prog_10_method_27_code
def y_GrantServerModel_sign : MethodName := ⟨R_GrantServerModel, "sign", "(I)I"⟩
abbrev b_GrantServerModel_signValue : ByteArray := prog_10_method_28_code
def y_GrantServerModel_signValue : MethodName := ⟨R_GrantServerModel, "signValue", "(I)I"⟩
abbrev b_GrantServerModel_mixed : ByteArray := prog_10_method_29_code
def y_GrantServerModel_mixed : MethodName := ⟨R_GrantServerModel, "mixed", "(JI)J"⟩
abbrev b_GrantServerModel_six : ByteArray := prog_10_method_30_code
def y_GrantServerModel_six : MethodName := ⟨R_GrantServerModel, "six", "(I)I"⟩
abbrev b_GrantServerModel_wrapPlain : ByteArray := prog_10_method_31_code
def y_GrantServerModel_wrapPlain : MethodName := ⟨R_GrantServerModel, "wrapPlain", "()V"⟩
abbrev b_GrantServerModel_wrap : ByteArray := prog_10_method_32_code
def y_GrantServerModel_wrap : MethodName := ⟨R_GrantServerModel, "wrap", "()I"⟩
abbrev b_GrantServerModel_isText : ByteArray := prog_10_method_33_code
def y_GrantServerModel_isText : MethodName := ⟨R_GrantServerModel, "isText", "(I)Z"⟩
abbrev b_GrantServerModel_key : ByteArray := prog_10_method_34_code
def y_GrantServerModel_key : MethodName := ⟨R_GrantServerModel, "key", "(C)Z"⟩
abbrev b_GrantServerModel_alter : ByteArray := prog_10_method_35_code
def y_GrantServerModel_alter : MethodName := ⟨R_GrantServerModel, "alter", "(IC)Z"⟩
abbrev b_GrantServerModel_take : ByteArray := prog_10_method_36_code
def y_GrantServerModel_take : MethodName := ⟨R_GrantServerModel, "take", "(Z)I"⟩
abbrev b_GrantServerModel_letter : ByteArray := prog_10_method_37_code
def y_GrantServerModel_letter : MethodName := ⟨R_GrantServerModel, "letter", "(ZI)I"⟩
abbrev b_GrantServerModel_challenge : ByteArray := prog_10_method_38_code
def y_GrantServerModel_challenge : MethodName := ⟨R_GrantServerModel, "challenge", "()I"⟩
abbrev b_GrantServerModel_isForm : ByteArray := prog_10_method_39_code
def y_GrantServerModel_isForm : MethodName := ⟨R_GrantServerModel, "isForm", "()Z"⟩
abbrev b_GrantServerModel_isSealed : ByteArray := prog_10_method_40_code
def y_GrantServerModel_isSealed : MethodName := ⟨R_GrantServerModel, "isSealed", "()Z"⟩
abbrev b_GrantServerModel_unwrap : ByteArray := prog_10_method_41_code
def y_GrantServerModel_unwrap : MethodName := ⟨R_GrantServerModel, "unwrap", "()V"⟩
abbrev b_GrantServerModel_next : ByteArray := prog_10_method_42_code
def y_GrantServerModel_next : MethodName := ⟨R_GrantServerModel, "next", "()I"⟩
abbrev b_GrantServerModel_reads : ByteArray := prog_10_method_43_code
def y_GrantServerModel_reads : MethodName := ⟨R_GrantServerModel, "reads", "(I)Z"⟩
abbrev b_GrantServerModel_readName : ByteArray := prog_10_method_44_code
def y_GrantServerModel_readName : MethodName := ⟨R_GrantServerModel, "readName", "()I"⟩
abbrev b_GrantServerModel_readNumber : ByteArray := prog_10_method_45_code
def y_GrantServerModel_readNumber : MethodName := ⟨R_GrantServerModel, "readNumber", "()I"⟩
abbrev b_GrantServerModel_readMember : ByteArray := prog_10_method_46_code
def y_GrantServerModel_readMember : MethodName := ⟨R_GrantServerModel, "readMember", "()Z"⟩
abbrev b_GrantServerModel_readClaims : ByteArray := prog_10_method_47_code
def y_GrantServerModel_readClaims : MethodName := ⟨R_GrantServerModel, "readClaims", "()Z"⟩
abbrev b_GrantServerModel_check : ByteArray := prog_10_method_48_code
def y_GrantServerModel_check : MethodName := ⟨R_GrantServerModel, "check", "(II)I"⟩
abbrev b_GrantServerLaw_cell : ByteArray := method_2_code
def y_GrantServerLaw_cell : MethodName := ⟨R_GrantServerLaw, "cell", "([II)I"⟩
/-- the words that every method gets: the tables' good ones -/
def TB : List Cond := lw_tbl.filter goodWord
theorem TB_good {w : Cond} (h : w ∈ TB) : goodWord w = true := (List.mem_filter.mp h).2
theorem TBm {w : Cond} (i : Nat) (h : lw_tbl[i]? = some w) (g : goodWord w = true) : w ∈ TB := List.mem_filter.mpr ⟨List.mem_of_getElem? h, g⟩
theorem TBs {ws : List Cond} (ps : List Nat) (h : ws = ps.filterMap (fun i => lw_tbl[i]?)) (g : ws.all goodWord = true) : ∀ w ∈ ws, w ∈ TB := by
  intro w hw
  have h1 := List.all_eq_true.mp g w hw
  rw [h] at hw
  obtain ⟨i, -, hi⟩ := List.mem_filterMap.mp hw
  exact TBm i hi h1
theorem hm_gd {ws : List Cond} (h : ∀ w ∈ ws, w ∈ TB) : GoodIn TB ws := fun w hw => ⟨h w hw, good_of_word (TB_good (h w hw))⟩
/-- a method as its callers need it -/
def hm_me (y : MethodName) (bytes : ByteArray) (maxL : Nat) (ret : Option FieldType) (n : Nat) : Prop := Cond.code y bytes maxL ret ∈ TB ∧ Cond.initialized y.cls ∈ TB ∧ (y.cls ≠ "java/lang/invoke/MethodHandle" ∧ y.cls ≠ "java/lang/invoke/VarHandle" ∧ (parseMethodDescriptor y.desc).map (fun d => d.parameters.length) = some n)
def hm_meV (y : MethodName) (bytes : ByteArray) (maxL : Nat) (ret : Option FieldType) (n : Nat) : Prop := hm_me y bytes maxL ret n ∧ Cond.instanceMethod y ∈ TB ∧ Cond.selects y.cls y y ∈ TB
def hm_meS (y : MethodName) (bytes : ByteArray) (maxL : Nat) (ret : Option FieldType) (n : Nat) : Prop := hm_me y bytes maxL ret n ∧ Cond.static y ∈ TB
def hm_meI (y : MethodName) (bytes : ByteArray) (maxL : Nat) (n : Nat) : Prop := hm_me y bytes maxL none n ∧ Cond.instanceMethod y ∈ TB ∧ y.name = "<init>"
section HMW
variable {R : Room} {s : State} {args : Array Value} {own : String} {idx maxL mc ms n : Nat} {y : MethodName} {bytes : ByteArray} {ret : Option FieldType} {rm : Room}
theorem hm_cwV (hts : ∀ w ∈ TB, w.before args s = true) (hm : hm_meV y bytes maxL ret n) (hl : Cond.methodLink own idx y ∈ TB) (hrc : rm.cells = mc) (hrs : rm.slots = ms) (hR : rm.frames + 1 ≤ R.frames ∧ 8 + (maxL + 11) + rm.locals ≤ R.locals) : CallW R s args own y.cls idx y bytes maxL ret (Cond.code y bytes maxL ret :: TB) rm mc ms n := by
  obtain ⟨⟨h1, h2, h3⟩, h4, h5⟩ := hm
  refine cwV n hts (hm_gd fun w hw => ?_) rfl hrc hrs ⟨rfl, h3⟩ hR
  unfold wsV at hw
  rcases List.mem_append.mp hw with h | h
  · simp only [List.mem_cons, List.not_mem_nil, or_false] at h
    rcases h with rfl | rfl | rfl | rfl
    · exact hl
    · exact h4
    · exact h5
    · exact h2
  · rcases List.mem_cons.mp h with rfl | h
    · exact h1
    · exact h
theorem hm_cwS (hts : ∀ w ∈ TB, w.before args s = true) (hm : hm_meS y bytes maxL ret n) (hl : Cond.methodLink y.cls idx y ∈ TB) (hrc : rm.cells = mc) (hrs : rm.slots = ms) (hR : rm.frames + 1 ≤ R.frames ∧ 8 + (maxL + 11) + rm.locals ≤ R.locals) : CallB R s args y.cls idx y bytes maxL ret (Cond.code y bytes maxL ret :: TB) rm mc ms n ∧ (Cond.static y).before args s = true := by
  obtain ⟨⟨h1, h2, h3⟩, h4⟩ := hm
  refine cwS n hts (hm_gd fun w hw => ?_) rfl hrc hrs ⟨rfl, h3⟩ hR
  unfold wsS at hw
  rcases List.mem_append.mp hw with h | h
  · simp only [List.mem_cons, List.not_mem_nil, or_false] at h
    rcases h with rfl | rfl | rfl
    · exact hl
    · exact h4
    · exact h2
  · rcases List.mem_cons.mp h with rfl | h
    · exact h1
    · exact h
theorem hm_cwI (hts : ∀ w ∈ TB, w.before args s = true) (hm : hm_meI y bytes maxL n) (hl : Cond.methodLink own idx y ∈ TB) (hrc : rm.cells = mc) (hrs : rm.slots = ms) (hR : rm.frames + 1 ≤ R.frames ∧ 8 + (maxL + 11) + rm.locals ≤ R.locals) : CallB R s args own idx y bytes maxL none (Cond.code y bytes maxL none :: TB) rm mc ms n ∧ y.name = "<init>" ∧ (Cond.instanceMethod y).before args s = true := by
  obtain ⟨⟨h1, h2, h3⟩, h4, h5⟩ := hm
  refine cwI n hts (hm_gd fun w hw => ?_) rfl hrc hrs (hts _ h2) (hts _ hl) (hts _ h4) h5 h3 hR
  rcases List.mem_cons.mp hw with rfl | h
  · exact h1
  · exact h
end HMW
set_option maxRecDepth 20000 in
theorem cl_GrantServer : hm_cl vwCl TB 0 R_GrantServer F_GrantServer 16 t_GrantServer := ⟨rfl, TBs [191, 193, 195, 197, 199, 201, 203, 205, 207, 209, 211, 213, 215, 217, 219, 221] (by decide +kernel) (by decide +kernel), by decide +kernel, by decide +kernel⟩
set_option maxRecDepth 20000 in
theorem cl_Client : hm_cl vwCl TB 1 R_Client F_Client 3 t_Client := ⟨rfl, TBs [242, 244, 246] (by decide +kernel) (by decide +kernel), by decide +kernel, by decide +kernel⟩
set_option maxRecDepth 20000 in
theorem cl_Family : hm_cl vwCl TB 2 R_Family F_Family 3 t_Family := ⟨rfl, TBs [326, 328, 330] (by decide +kernel) (by decide +kernel), by decide +kernel, by decide +kernel⟩
set_option maxRecDepth 20000 in
theorem cl_Grant : hm_cl vwCl TB 3 R_Grant F_Grant 9 t_Grant := ⟨rfl, TBs [98, 100, 102, 104, 106, 108, 110, 112, 114] (by decide +kernel) (by decide +kernel), by decide +kernel, by decide +kernel⟩
set_option maxRecDepth 20000 in
theorem cl_Shelf : hm_cl vwCl TB 4 R_Shelf F_Shelf 2 t_Shelf := ⟨rfl, TBs [119, 121] (by decide +kernel) (by decide +kernel), by decide +kernel, by decide +kernel⟩
set_option maxRecDepth 20000 in
theorem cl_Text : hm_cl vwCl TB 5 R_Text F_Text 2 t_Text := ⟨rfl, TBs [132, 134] (by decide +kernel) (by decide +kernel), by decide +kernel, by decide +kernel⟩
set_option maxRecDepth 20000 in
theorem cl_Wrapping : hm_cl vwCl TB 6 R_Wrapping F_Wrapping 1 t_Wrapping := ⟨rfl, TBs [163] (by decide +kernel) (by decide +kernel), by decide +kernel, by decide +kernel⟩
set_option maxRecDepth 20000 in
theorem cl_ClaimsReader : hm_cl vwCl TB 7 R_ClaimsReader F_ClaimsReader 3 t_ClaimsReader := ⟨rfl, TBs [147, 149, 151] (by decide +kernel) (by decide +kernel), by decide +kernel, by decide +kernel⟩
set_option maxRecDepth 20000 in
theorem cl_GrantServerModel : hm_cl vwCl TB 8 R_GrantServerModel F_GrantServerModel 31 t_GrantServerModel := ⟨rfl, TBs [723, 725, 727, 729, 731, 733, 735, 737, 739, 741, 743, 745, 747, 749, 751, 753, 755, 757, 759, 761, 763, 765, 767, 769, 771, 773, 775, 777, 779, 781, 783] (by decide +kernel) (by decide +kernel), by decide +kernel, by decide +kernel⟩
end
section
/-! The words for what small methods answer. -/
def z_some (x : Int32) : Int32 := if x < 1 ∨ 15 < x then 0 else 1
def z_within (x y : Int32) : Int32 := if x &&& (y ^^^ (-1)) = 0 then 1 else 0
def z_text (x : Int32) : Int32 := if x < 32 ∨ 126 < x then 0 else 1
def z_kept (x : Int32) : Int32 := if 1 < (if x < 1000 then x else 1000) then (if x < 1000 then x else 1000) else 1
def z_at (n : Nat) (x : Nat → Int32) (i : Int32) : Int32 := if i < 0 ∨ nI n ≤ i then -1 else x i.toNatClampNeg
theorem z_at_in {n j : Nat} {x : Nat → Int32} (hj : j < n) (hn : n < 2 ^ 31) : z_at n x (nI j) = x j := by
  have h1 : ¬ nI j < 0 := nI_pos (by omega)
  have h2 : ¬ nI n ≤ nI j := nI_ge hj hn
  simp [z_at, h1, h2, nI_clamp (show j < 2 ^ 31 by omega)]
theorem hm_ix {i : Int32} {n : Nat} (h1 : ¬ i < 0) (h2 : ¬ nI n ≤ i) (hn : n < 2 ^ 31) : ∃ j : Nat, j < n ∧ i = nI j := by
  rcases pk_ix i hn with h | h | h
  · exact absurd h h1
  · exact absurd h h2
  · exact h
def m_kept (x : Int32) : Int32 := if x < 1 then 1 else if 1000 < x then 1000 else x
def m_from (x : Int32) : Int32 := if x = 0 then 0 else if x = 1 then 16 else 40
def m_to (x : Int32) : Int32 := if x = 0 then 16 else if x = 1 then 40 else 64
def m_isC (n x : Int32) : Int32 := if x < 0 ∨ n ≤ x then 0 else 1
def m_tick (x : Int32) : Int32 := if x < 0 ∨ ¬ x ≤ 10000 then 0 else 1
def m_tickV (v : Nat → Int32) (x : Int32) : Nat → Int32 := if x < 0 ∨ ¬ x ≤ 10000 then v else upd v 4 (v 4 + x)
abbrev gr0 : List Value := [.int 0, .int 0, .int 0, .int 0, .int 0, .int 0, .int 0, .int 0, .null]
/-- fresh rows of a shelf: they weren't there before, they are blank, each another one -/
def hm_rows0 (f f1 : hm) (g : Nat → Option Nat) (N : Nat) : Prop := (∀ i, i < N → ∃ q, g i = some q ∧ f q = none ∧ f1 q = some (.inr (3, gr0))) ∧ ∀ i j, i < N → j < N → g i = g j → i = j
theorem hm_rows0_0 {f f1 : hm} {g : Nat → Option Nat} : hm_rows0 f f1 g 0 := ⟨fun i h => absurd h (Nat.not_lt_zero i), fun i j h => absurd h (Nat.not_lt_zero i)⟩
theorem hm_rows0_add {f fL f1 : hm} {g : Nat → Option Nat} {j q a : Nat} {x : ClassId × vp_A} (h : hm_rows0 f fL g j) (ha : fL a = some (.inl x)) (hq : fL q = none) (hq0 : f q = none) (h1 : f1 q = some (.inr (3, gr0))) (hk : ∀ (b : Nat) (y : va_E), b ≠ a → fL b = some y → f1 b = some y) : hm_rows0 f f1 (va_up g j (some q)) (j + 1) := by
  refine ⟨fun i hi => ?_, fun i i' hi hi' hg => ?_⟩
  · by_cases e : i = j
    · exact ⟨q, by simp [va_up, e], hq0, h1⟩
    · obtain ⟨b, hb, hb0, hb1⟩ := h.1 i (by omega)
      exact ⟨b, by simp [va_up, e, hb], hb0, hk b _ (hm_neA hb1 ha) hb1⟩
  · have key : ∀ z, z < j → g z ≠ some q := by
      intro z hz q2
      obtain ⟨b, hb, hb0, hb1⟩ := h.1 z hz
      rw [hb] at q2
      cases q2
      rw [hq] at hb1
      cases hb1
    by_cases e : i = j
    · by_cases e' : i' = j
      · omega
      · simp [va_up, e, e'] at hg
        exact absurd hg.symm (key i' (by omega))
    · by_cases e' : i' = j
      · simp [va_up, e, e'] at hg
        exact absurd hg (key i (by omega))
      · simp [va_up, e, e'] at hg
        exact h.2 i i' (by omega) (by omega) hg
/-- a grant's cell: its numbers w (number, owner, scopes, end, redirect, challenge, spent, revoked), its family -/
abbrev gV (w : Nat → Int32) (m1 : Option Nat) : List Value := [.int (w 0), .int (w 1), .int (w 2), .int (w 3), .int (w 4), .int (w 5), .int (w 6), .int (w 7), va_rf m1]
def z_act (w : Nat → Int32) (m1 : Option Nat) (fv x : Int32) : Int32 := if ¬ w 6 = 0 ∨ ¬ w 7 = 0 ∨ (¬ m1 = none ∧ ¬ fv = 0) ∨ w 3 ≤ x then 0 else 1
def z_full (u N : Nat) : Int32 := if u < N then 0 else 1
theorem z_full_lt {u N : Nat} (h : u < N) : z_full u N = 0 := by simp [z_full, h]
theorem z_full_ge {u N : Nat} (h : ¬ u < N) : z_full u N = 1 := by simp [z_full, h]
theorem hm_pr_up {L : List Nat} {f f1 : hm} {a : Nat} {e : va_E} (h : ∀ q ∈ L, f q ≠ none) (he : f1 = hm_up f a e) : ∀ q ∈ L, f1 q ≠ none := by
  intro q hq
  rw [he]
  by_cases z : q = a
  · rw [z, hm_up_s]; exact fun w => by cases w
  · rw [hm_up_n z]; exact h q hq
theorem hm_pr_new {L : List Nat} {f f1 : hm} {a : Nat} {e : va_E} (h : ∀ q ∈ L, f q ≠ none) (he : f1 = hm_up f a e) : ∀ q ∈ a :: L, f1 q ≠ none := by
  intro q hq
  rcases List.mem_cons.mp hq with hq | hq
  · rw [he, hq, hm_up_s]; exact fun w => by cases w
  · exact hm_pr_up h he q hq
theorem hm_nd_new {L : List Nat} {f : hm} {a : Nat} (hn : L.Nodup) (h : ∀ q ∈ L, f q ≠ none) (hz : f a = none) : (a :: L).Nodup := List.nodup_cons.mpr ⟨fun hq => h a hq hz, hn⟩
theorem hm_nd_at {L : List Nat} (h : L.Nodup) {i j a b : Nat} (hi : L[i]? = some a) (hj : L[j]? = some b) (e : a = b) : i = j := by
  exact (List.getElem?_inj (List.getElem?_eq_some_iff.mp hi).1 h).mp (by rw [hi, hj, e])
def m_fromN (x : Int32) : Nat := if x = 0 then 0 else if x = 1 then 16 else 40
def m_toN (x : Int32) : Nat := if x = 0 then 16 else if x = 1 then 40 else 64
theorem m_from_eq (x : Int32) : m_from x = nI (m_fromN x) := by
  unfold m_from m_fromN
  split
  · rfl
  · split <;> rfl
theorem m_to_eq (x : Int32) : m_to x = nI (m_toN x) := by
  unfold m_to m_toN
  split
  · rfl
  · split <;> rfl
theorem m_ft (x : Int32) : m_fromN x ≤ m_toN x ∧ m_toN x ≤ 64 := by
  unfold m_fromN m_toN
  split
  · omega
  · split <;> omega
/-- the first place from k on, of t places, that holds y (y not zero) -/
def m_findF (g : Nat → Int32) (y : Int32) : Nat → Nat → Int32
  | 0, _ => -1
  | t + 1, j => if ¬ y = 0 ∧ g j = y then nI j else m_findF g y t (j + 1)
/-- the first place from k on, of t places, that holds zero -/
def m_roomF (g : Nat → Int32) : Nat → Nat → Int32
  | 0, _ => -1
  | t + 1, j => if g j = 0 then nI j else m_roomF g t (j + 1)
def m_act (v : Nat → Int32) (c : Nat → Nat → Int32) (j : Nat) : Int32 := if c 10 j = 0 ∨ ¬ c 14 j = 0 ∨ c 13 j ≤ v 4 ∨ (¬ c 15 j < 0 ∧ ¬ c 21 (c 15 j).toNatClampNeg = 0) then 0 else 1
theorem hm_pr_fr {L : List Nat} {f f1 : hm} {m1 : Nat} {y : va_E} (h : ∀ q ∈ L, f q ≠ none) (hfr : ∀ (q : Nat) (x : va_E), q ≠ m1 → f q = some x → f1 q = some x) (hm : f1 m1 = some y) : ∀ q ∈ L, f1 q ≠ none := by
  intro q hq
  by_cases z : q = m1
  · rw [z, hm]; exact fun w => by cases w
  · cases hf : f q with
    | none => exact absurd hf (h q hq)
    | some x => rw [hfr q x z hf]; exact fun w => by cases w
theorem hm_pr_cons {L : List Nat} {f1 : hm} {a : Nat} {y : va_E} (h : ∀ q ∈ L, f1 q ≠ none) (ha : f1 a = some y) : ∀ q ∈ a :: L, f1 q ≠ none := by
  intro q hq
  rcases List.mem_cons.mp hq with hq | hq
  · rw [hq, ha]; exact fun w => by cases w
  · exact h q hq
theorem hm_nd_new2 {L : List Nat} {f : hm} {a b : Nat} (hn : L.Nodup) (h : ∀ q ∈ L, f q ≠ none) (ha : f a = none) (hb : f b = none) (hab : a ≠ b) : (b :: a :: L).Nodup := List.nodup_cons.mpr ⟨fun hq => by
  rcases List.mem_cons.mp hq with hq | hq
  · exact hab hq.symm
  · exact h b hq hb, hm_nd_new hn h ha⟩
/-! The reference's object: its numbers v, its arrays c, at the addresses ad (by the numbers of the fields). -/
abbrev moV (sk : Int64) (v : Nat → Int32) (ad : Nat → Nat) : List Value := [.long sk, .int (v 1), .int (v 2), .int (v 3), .int (v 4), .ref (ad 5), .ref (ad 6), .ref (ad 7), .int (v 8), .int (v 9), .ref (ad 10), .ref (ad 11), .ref (ad 12), .ref (ad 13), .ref (ad 14), .ref (ad 15), .ref (ad 16), .ref (ad 17), .int (v 18), .ref (ad 19), .ref (ad 20), .ref (ad 21), .int (v 22), .ref (ad 23), .int (v 24), .ref (ad 25), .int (v 26), .ref (ad 27), .int (v 28), .int (v 29), .ref (ad 30)]
/-- which fields are arrays, of what kind, how long -/
def mo_t (i : Nat) : Nat := match i with
  | 14 => 1
  | 21 => 1
  | _ => 0
def mo_n (i : Nat) : Nat := match i with
  | 5 => 4 | 6 => 4 | 7 => 4
  | 10 => 64 | 11 => 64 | 12 => 64 | 13 => 64 | 14 => 64 | 15 => 64
  | 16 => 16 | 17 => 16
  | 19 => 520 | 20 => 520 | 21 => 520
  | 23 => 120 | 25 => 120 | 27 => 130 | 30 => 5
  | _ => 0
def mo (k : Nat → ClassId) (f : hm) (h : Nat) (ad : Nat → Nat) (sk : Int64) (v : Nat → Int32) (c : Nat → Nat → Int32) : Prop :=
  f h = some (.inr (8, moV sk v ad)) ∧ (∀ i, i < 31 → 0 < mo_n i → f (ad i) = some (.inl (k (mo_t i), mo_n i, .inl (c i)))) ∧ (∀ i j, i < 31 → j < 31 → 0 < mo_n i → 0 < mo_n j → ad i = ad j → i = j)
theorem mo.ne {k : Nat → ClassId} {f : hm} {h : Nat} {ad : Nat → Nat} {sk : Int64} {v : Nat → Int32} {c : Nat → Nat → Int32} (H : mo k f h ad sk v c) {i : Nat} (hi : i < 31) (hn : 0 < mo_n i) : h ≠ ad i := hm_neA H.1 (H.2.1 i hi hn)
theorem mo.arr {k : Nat → ClassId} {f : hm} {h : Nat} {ad : Nat → Nat} {sk : Int64} {v : Nat → Int32} {c : Nat → Nat → Int32} (H : mo k f h ad sk v c) (i : Nat) (hi : i < 31) (hn : 0 < mo_n i) : f (ad i) = some (.inl (k (mo_t i), mo_n i, .inl (c i))) := H.2.1 i hi hn
/-- a number is written -/
theorem mo.put {k : Nat → ClassId} {f f1 : hm} {h : Nat} {ad : Nat → Nat} {sk : Int64} {v v' : Nat → Int32} {c : Nat → Nat → Int32} (H : mo k f h ad sk v c) (e : f1 = hm_up f h (.inr (8, moV sk v' ad))) : mo k f1 h ad sk v' c :=
  ⟨hm_new1 e, fun i hi hn => hm_keep e (H.ne hi hn).symm (H.2.1 i hi hn), H.2.2⟩
/-- a place of an array is written -/
theorem mo.ast {k : Nat → ClassId} {f f1 : hm} {h : Nat} {ad : Nat → Nat} {sk : Int64} {v : Nat → Int32} {c : Nat → Nat → Int32} {g : Nat → Int32} (H : mo k f h ad sk v c) (i : Nat) (hi : i < 31) (hn : 0 < mo_n i) (e : f1 = hm_up f (ad i) (.inl (k (mo_t i), mo_n i, .inl g))) : mo k f1 h ad sk v (va_up c i g) := by
  refine ⟨hm_keep e (H.ne hi hn) H.1, fun j hj hm => ?_, H.2.2⟩
  by_cases q : j = i
  · subst q
    rw [hm_new1 e]
    simp [va_up]
  · rw [hm_keep e (fun z => q (H.2.2 j i hj hi hm hn z)) (H.2.1 j hj hm)]
    simp [va_up, q]
/-- what the reference owns -/
def mo_own (h : Nat) (ad : Nat → Nat) (q : Nat) : Prop := q = h ∨ ∃ i, i < 31 ∧ 0 < mo_n i ∧ q = ad i
theorem mo_keep1 {h : Nat} {ad : Nat → Nat} {f f1 : hm} {x : va_E} {e : va_E} {q : Nat} (hq : ¬ mo_own h ad q) (he : f1 = hm_up f h e) (h0 : f q = some x) : f1 q = some x := hm_keep he (fun z => hq (Or.inl z)) h0
theorem mo_keepA {h : Nat} {ad : Nat → Nat} {f f1 : hm} {x : va_E} {e : va_E} {q : Nat} (i : Nat) (hi : i < 31) (hn : 0 < mo_n i) (hq : ¬ mo_own h ad q) (he : f1 = hm_up f (ad i) e) (h0 : f q = some x) : f1 q = some x := hm_keep he (fun z => hq (Or.inr ⟨i, hi, hn, z⟩)) h0
/-- the reference's other cells stay -/
def mo_fr (h : Nat) (ad : Nat → Nat) (f f1 : hm) : Prop := ∀ (q : Nat) (x : va_E), ¬ mo_own h ad q → f q = some x → f1 q = some x
theorem mo_fr.rf {h : Nat} {ad : Nat → Nat} {f : hm} : mo_fr h ad f f := fun _ _ _ h => h
theorem mo_fr.put {h : Nat} {ad : Nat → Nat} {f f1 f2 : hm} {e : va_E} (H : mo_fr h ad f f1) (he : f2 = hm_up f1 h e) : mo_fr h ad f f2 := fun q x hq h0 => mo_keep1 hq he (H q x hq h0)
theorem mo_fr.ast {h : Nat} {ad : Nat → Nat} {f f1 f2 : hm} {e : va_E} (H : mo_fr h ad f f1) (i : Nat) (hi : i < 31) (hn : 0 < mo_n i) (he : f2 = hm_up f1 (ad i) e) : mo_fr h ad f f2 := fun q x hq h0 => mo_keepA i hi hn hq he (H q x hq h0)
theorem mo_fr.tr {h : Nat} {ad : Nat → Nat} {f f1 f2 : hm} (H : mo_fr h ad f f1) (K : mo_fr h ad f1 f2) : mo_fr h ad f f2 := fun q x hq h0 => K q x hq (H q x hq h0)
theorem mo.cv {k : Nat → ClassId} {f : hm} {h : Nat} {ad : Nat → Nat} {sk : Int64} {v v' : Nat → Int32} {c c' : Nat → Nat → Int32} (H : mo k f h ad sk v c) (e : v' = v) (e2 : c' = c) : mo k f h ad sk v' c' := by
  subst e; subst e2; exact H
/-- the places of the arrays' addresses in the list of what the constructor makes (the last first) -/
def mo_p (i : Nat) : Nat := match i with
  | 5 => 17 | 6 => 16 | 7 => 15 | 10 => 14 | 11 => 13 | 12 => 12 | 13 => 11 | 14 => 10 | 15 => 9 | 16 => 8 | 17 => 7 | 19 => 6 | 20 => 5 | 21 => 4 | 23 => 3 | 25 => 2 | 27 => 1 | _ => 0
theorem mo_p_inj : ∀ i, i < 31 → ∀ j, j < 31 → 0 < mo_n i → 0 < mo_n j → mo_p i = mo_p j → i = j := by decide +kernel
def mo_v0 (a b d : Int32) : Nat → Int32 := fun i => match i with
  | 1 => m_kept a
  | 2 => m_kept b
  | 3 => m_kept d
  | 9 => -1
  | _ => 0
theorem mo_inj {L : List Nat} (h : L.Nodup) (hl : L.length = 18) : ∀ i j, i < 31 → j < 31 → 0 < mo_n i → 0 < mo_n j → L.getD (mo_p i) 0 = L.getD (mo_p j) 0 → i = j := by
  intro i j hi hj h1 h2 e
  have hp : ∀ z, mo_p z < 18 := fun z => by unfold mo_p; split <;> omega
  have g : ∀ z, L[mo_p z]? = some (L.getD (mo_p z) 0) := fun z => by
    rw [List.getD_eq_getElem?_getD, List.getElem?_eq_getElem (by rw [hl]; exact hp z)]
    rfl
  exact mo_p_inj i hi j hj h1 h2 (hm_nd_at h (g i) (g j) e)
/-! The class's object: its numbers u, the addresses ad of what it holds (3 to 11 its fields; 14 to 16 the shelves' arrays, 17 to 19 the texts' arrays, 20 and 21 the reader's). -/
abbrev gsV (u : Nat → Int32) (ad : Nat → Nat) : List Value := [.int (u 0), .int (u 1), .int (u 2), .ref (ad 3), .ref (ad 4), .ref (ad 5), .ref (ad 6), .ref (ad 7), .ref (ad 8), .ref (ad 9), .ref (ad 10), .ref (ad 11), .int (u 12), .int (u 13), .int (u 14), .int (u 15)]
def gs_N (i : Nat) : Nat := match i with
  | 0 => 16
  | _ => 24
def gs (k : Nat → ClassId) (f : hm) (h : Nat) (ad : Nat → Nat) (u : Nat → Int32) (cn : Nat → Option Nat) (us : Nat → Nat) (g : Nat → Nat → Option Nat) (tn : Nat → Nat) (tx : Nat → Nat → Int32) (rd rs : Nat → Int32) (ra ky : Int32) : Prop :=
  f h = some (.inr (0, gsV u ad)) ∧ f (ad 3) = some (.inl (k 4, 4, .inr (.inr (.inr (.inr cn))))) ∧
  (∀ i, i < 3 → f (ad (4 + i)) = some (.inr (4, [.ref (ad (14 + i)), .int (nI (us i))]))) ∧ (∀ i, i < 3 → f (ad (14 + i)) = some (.inl (k 3, gs_N i, .inr (.inr (.inr (.inr (g i))))))) ∧
  (∀ i, i < 3 → f (ad (7 + i)) = some (.inr (5, [.ref (ad (17 + i)), .int (nI (tn i))]))) ∧ (∀ i, i < 3 → f (ad (17 + i)) = some (.inl (k 2, 120, .inl (tx i)))) ∧
  f (ad 10) = some (.inr (7, [.ref (ad 20), .ref (ad 21), .int ra])) ∧ f (ad 20) = some (.inl (k 0, 5, .inl rd)) ∧ f (ad 21) = some (.inl (k 1, 5, .inl rs)) ∧ f (ad 11) = some (.inr (6, [.int ky]))
def gs_ix (i : Nat) : Bool := (3 ≤ i && i ≤ 11) || (14 ≤ i && i ≤ 21)
def gs_ap (ad : Nat → Nat) : Prop := ∀ i j, i < 22 → j < 22 → gs_ix i = true → gs_ix j = true → ad i = ad j → i = j
/-- the places of the addresses in the list of what the constructor makes (the last first) -/
def gs_p (i : Nat) : Nat := match i with
  | 3 => 16 | 4 => 15 | 14 => 14 | 5 => 13 | 15 => 12 | 6 => 11 | 16 => 10 | 7 => 9 | 17 => 8 | 8 => 7 | 18 => 6 | 9 => 5 | 19 => 4 | 10 => 3 | 20 => 2 | 21 => 1 | _ => 0
theorem gs_p_inj : ∀ i, i < 22 → ∀ j, j < 22 → gs_ix i = true → gs_ix j = true → gs_p i = gs_p j → i = j := by decide +kernel
theorem gs_inj {L : List Nat} (h : L.Nodup) (hl : L.length = 17) : gs_ap (fun i => L.getD (gs_p i) 0) := by
  intro i j hi hj h1 h2 e
  have hp : ∀ z, gs_p z < 17 := fun z => by unfold gs_p; split <;> omega
  have g : ∀ z, L[gs_p z]? = some (L.getD (gs_p z) 0) := fun z => by
    rw [List.getD_eq_getElem?_getD, List.getElem?_eq_getElem (by rw [hl]; exact hp z)]
    rfl
  exact gs_p_inj i hi j hj h1 h2 (hm_nd_at h (g i) (g j) e)
def gs_u0 (a b d : Int32) : Nat → Int32 := fun i => match i with
  | 0 => z_kept a
  | 1 => z_kept b
  | 2 => z_kept d
  | 13 => -1
  | _ => 0
/-- the shelves' rows: fresh, blank, each another one -/
def gs_r0 (f f1 : hm) (g : Nat → Nat → Option Nat) : Prop := (∀ s, s < 3 → ∀ i, i < gs_N s → ∃ q, g s i = some q ∧ f q = none ∧ f1 q = some (.inr (3, gr0))) ∧ ∀ s, s < 3 → ∀ i, i < gs_N s → ∀ s', s' < 3 → ∀ j, j < gs_N s' → g s i = g s' j → s = s' ∧ i = j
abbrev G0 : va_E := .inr (3, gr0)
theorem gs_r0_mk {f f1 a0 b0 a1 b1 a2 b2 : hm} {g0 g1 g2 : Nat → Option Nat} (h0 : hm_rows0 a0 b0 g0 16) (h1 : hm_rows0 a1 b1 g1 24) (h2 : hm_rows0 a2 b2 g2 24)
    (z0 : ∀ q, a0 q = none → f q = none) (z1 : ∀ q, a1 q = none → f q = none) (z2 : ∀ q, a2 q = none → f q = none)
    (e0 : ∀ q, b0 q = some G0 → f1 q = some G0) (e1 : ∀ q, b1 q = some G0 → f1 q = some G0) (e2 : ∀ q, b2 q = some G0 → f1 q = some G0)
    (d01 : ∀ q, b0 q = some G0 → a1 q = some G0) (d02 : ∀ q, b0 q = some G0 → a2 q = some G0) (d12 : ∀ q, b1 q = some G0 → a2 q = some G0) :
    gs_r0 f f1 (fun s => match s with | 0 => g0 | 1 => g1 | _ => g2) := by
  have k01 : ∀ i j, i < 16 → j < 24 → g0 i ≠ g1 j := by
    intro i j hi hj e
    obtain ⟨q, hq, -, hq1⟩ := h0.1 i hi
    obtain ⟨r, hr, hr0, -⟩ := h1.1 j hj
    rw [hq, hr] at e
    cases e
    rw [d01 q hq1] at hr0
    cases hr0
  have k02 : ∀ i j, i < 16 → j < 24 → g0 i ≠ g2 j := by
    intro i j hi hj e
    obtain ⟨q, hq, -, hq1⟩ := h0.1 i hi
    obtain ⟨r, hr, hr0, -⟩ := h2.1 j hj
    rw [hq, hr] at e
    cases e
    rw [d02 q hq1] at hr0
    cases hr0
  have k12 : ∀ i j, i < 24 → j < 24 → g1 i ≠ g2 j := by
    intro i j hi hj e
    obtain ⟨q, hq, -, hq1⟩ := h1.1 i hi
    obtain ⟨r, hr, hr0, -⟩ := h2.1 j hj
    rw [hq, hr] at e
    cases e
    rw [d12 q hq1] at hr0
    cases hr0
  refine ⟨fun s hs i hi => ?_, fun s hs i hi s' hs' j hj e => ?_⟩
  · match s, hs, hi with
    | 0, _, hi => obtain ⟨q, a, b, c⟩ := h0.1 i hi; exact ⟨q, a, z0 q b, e0 q c⟩
    | 1, _, hi => obtain ⟨q, a, b, c⟩ := h1.1 i hi; exact ⟨q, a, z1 q b, e1 q c⟩
    | 2, _, hi => obtain ⟨q, a, b, c⟩ := h2.1 i hi; exact ⟨q, a, z2 q b, e2 q c⟩
    | n + 3, hs, _ => omega
  · match s, hs, hi, s', hs', hj, e with
    | 0, _, hi, 0, _, hj, e => exact ⟨rfl, h0.2 i j hi hj e⟩
    | 0, _, hi, 1, _, hj, e => exact absurd e (k01 i j hi hj)
    | 0, _, hi, 2, _, hj, e => exact absurd e (k02 i j hi hj)
    | 1, _, hi, 0, _, hj, e => exact absurd e.symm (k01 j i hj hi)
    | 1, _, hi, 1, _, hj, e => exact ⟨rfl, h1.2 i j hi hj e⟩
    | 1, _, hi, 2, _, hj, e => exact absurd e (k12 i j hi hj)
    | 2, _, hi, 0, _, hj, e => exact absurd e.symm (k02 j i hj hi)
    | 2, _, hi, 1, _, hj, e => exact absurd e.symm (k12 j i hj hi)
    | 2, _, hi, 2, _, hj, e => exact ⟨rfl, h2.2 i j hi hj e⟩
    | n + 3, hs, _, _, _, _, _ => omega
    | _, _, _, n + 3, hs', _, _ => omega
end
