section
/-! The world as a finite map from addresses to cells: every method gets the whole map and gives a whole map back. Rows over the kit's, proved once. -/
abbrev hm : Type := Nat → Option va_E
def hm_up (f : hm) (a : Nat) (e : va_E) : hm := fun q => if q = a then some e else f q
theorem hm_up_s (f : hm) (a : Nat) (e : va_E) : hm_up f a e a = some e := by simp [hm_up]
theorem hm_up_n {f : hm} {a b : Nat} {e : va_E} (h : b ≠ a) : hm_up f a e b = f b := by simp [hm_up, h]
def hm_ok (ws : va_W) (f : hm) : Prop := ∀ (a : Nat) (e : va_E), f a = some e ↔ ∃ k : Nat, ws[k]? = some (a, e)
def hm_W (D : va_G) (cl : List vw_C) (A : Nat → Prop) (f : hm) (H : Heap) : Prop := ∃ ws : va_W, va_P D cl ws H ∧ va_D A ws ∧ hm_ok ws f
def hm_A (f : hm) (sz : Nat) : Nat → Prop := fun q => f q ≠ none ∨ sz ≤ q
/-- the classes of whose arrays the class makes some -/
def hm_ao : List String := ["GrantServer$Grant", "GrantServer$Client"]
/-- what the tables say: classes, array classes, arrays of references -/
def hm_K (D : va_G) (cl : List vw_C) (tys : List (ClassId × FieldType)) (U : State) : Prop := va_K D cl tys U ∧ ∀ C ∈ hm_ao, va_AO C U
theorem hm_K.moved {D : va_G} {cl : List vw_C} {tys : List (ClassId × FieldType)} {u U : State} (hvm : u.vm.Alike U.vm) (h : hm_K D cl tys u) : hm_K D cl tys U := ⟨va_K.moved hvm h.1, fun C hC => va_AO.moved hvm (h.2 C hC)⟩
def hm_B (D : va_G) (cl : List vw_C) (tys : List (ClassId × FieldType)) (f : hm) (sz : Nat) (U : State) : Prop := U.heap.size = sz ∧ hm_W D cl (fun _ => True) f U.heap ∧ hm_K D cl tys U
def hm_R (D : va_G) (cl : List vw_C) (tys : List (ClassId × FieldType)) (f : hm) (sz : Nat) (f1 : hm) (t : State) : Prop := hm_W D cl (hm_A f sz) f1 t.heap ∧ hm_K D cl tys t
theorem hm_new1 {f f1 : hm} {a : Nat} {e : va_E} (h : f1 = hm_up f a e) : f1 a = some e := by rw [h, hm_up_s]
theorem hm_keep {f f1 : hm} {a b : Nat} {e : va_E} {x : Option va_E} (h : f1 = hm_up f a e) (hn : b ≠ a) (hb : f b = x) : f1 b = x := by rw [h, hm_up_n hn, hb]
theorem hm_ne {f : hm} {a b : Nat} {x y : va_E} (ha : f a = some x) (hb : f b = some y) (h : x ≠ y) : a ≠ b := fun q => h (by rw [q, hb] at ha; exact (Option.some.inj ha).symm)
theorem hm_ne0 {f : hm} {a b : Nat} {x : va_E} (ha : f a = some x) (hb : f b = none) : a ≠ b := fun q => by rw [q, hb] at ha; cases ha
theorem hm_ok.set {ws : va_W} {f : hm} {A : Nat → Prop} {k a : Nat} {e0 : va_E} (e : va_E) (hD : va_D A ws) (h : hm_ok ws f) (hk : ws[k]? = some (a, e0)) : hm_ok (ws.set k (a, e)) (hm_up f a e) := by
  have hl := (List.getElem?_eq_some_iff.mp hk).1
  intro b e'
  by_cases hb : b = a
  · rw [hb, hm_up_s]
    constructor
    · intro q
      cases q
      exact ⟨k, List.getElem?_set_self hl⟩
    · rintro ⟨j, hj⟩
      by_cases hjk : j = k
      · rw [hjk, List.getElem?_set_self hl] at hj
        cases hj
        rfl
      · rw [List.getElem?_set_ne (Ne.symm hjk)] at hj
        exact absurd (hD.1 j k _ _ hj hk rfl) hjk
  · rw [hm_up_n hb, h b e']
    constructor
    · rintro ⟨j, hj⟩
      refine ⟨j, ?_⟩
      rw [List.getElem?_set_ne]
      · exact hj
      · intro q
        rw [q, hj] at hk
        cases hk
        exact hb rfl
    · rintro ⟨j, hj⟩
      by_cases hjk : j = k
      · rw [hjk, List.getElem?_set_self hl] at hj
        cases hj
        exact absurd rfl hb
      · rw [List.getElem?_set_ne (Ne.symm hjk)] at hj
        exact ⟨j, hj⟩
theorem hm_ok.push {ws : va_W} {f : hm} {A : Nat → Prop} {q : Nat} {e : va_E} (hD : va_D A (ws ++ [(q, e)])) (h : hm_ok ws f) : hm_ok (ws ++ [(q, e)]) (hm_up f q e) ∧ f q = none := by
  have h2 : (ws ++ [(q, e)])[ws.length]? = some (q, e) := by rw [List.getElem?_append_right (Nat.le_refl _), Nat.sub_self]; rfl
  have up : ∀ (k : Nat) (x : Nat × va_E), ws[k]? = some x → (ws ++ [(q, e)])[k]? = some x := fun k x hx => by
    rw [List.getElem?_append_left (List.getElem?_eq_some_iff.mp hx).1]; exact hx
  have hn : f q = none := by
    cases hf : f q with
    | none => rfl
    | some e1 =>
      obtain ⟨k, hk⟩ := (h q e1).mp hf
      have h3 := hD.1 _ _ _ _ (up k _ hk) h2 rfl
      have hl := (List.getElem?_eq_some_iff.mp hk).1
      omega
  refine ⟨fun b e' => ?_, hn⟩
  by_cases hb : b = q
  · rw [hb, hm_up_s]
    constructor
    · intro z
      cases z
      exact ⟨_, h2⟩
    · rintro ⟨j, hj⟩
      have hj2 := hD.1 _ _ _ _ hj h2 rfl
      rw [hj2, h2] at hj
      cases hj
      rfl
  · rw [hm_up_n hb, h b e']
    constructor
    · rintro ⟨j, hj⟩
      exact ⟨j, up j _ hj⟩
    · rintro ⟨j, hj⟩
      by_cases hl : j < ws.length
      · rw [List.getElem?_append_left hl] at hj
        exact ⟨j, hj⟩
      · rw [List.getElem?_append_right (by omega)] at hj
        have hz : j - ws.length < 1 := (List.getElem?_eq_some_iff.mp hj).1
        rw [show j - ws.length = 0 by omega] at hj
        cases hj
        exact absurd rfl hb
theorem hm_W.weaken {D : va_G} {cl : List vw_C} {A B : Nat → Prop} {f : hm} {H : Heap} (h : hm_W D cl A f H) (hab : ∀ q, A q → B q) : hm_W D cl B f H := by
  obtain ⟨ws, a, b, c⟩ := h
  exact ⟨ws, a, b.weaken (fun _ q _ h => hab q.1 h), c⟩
theorem hm_W.self {D : va_G} {cl : List vw_C} {A : Nat → Prop} {f : hm} {H : Heap} {sz : Nat} (h : hm_W D cl A f H) : hm_W D cl (hm_A f sz) f H := by
  obtain ⟨ws, a, b, c⟩ := h
  exact ⟨ws, a, ⟨b.1, fun k q hk => Or.inl (by rw [(c q.1 q.2).mpr ⟨k, hk⟩]; exact fun z => by cases z)⟩, c⟩
theorem hm_W.inA {D : va_G} {cl : List vw_C} {A : Nat → Prop} {f : hm} {H : Heap} (h : hm_W D cl A f H) {q : Nat} (hq : f q ≠ none) : A q := by
  obtain ⟨ws, hP, hD, hc⟩ := h
  cases hf : f q with
  | none => exact absurd hf hq
  | some e =>
    obtain ⟨k, hk⟩ := (hc q e).mp hf
    exact hD.2 k _ hk
theorem hm_W.free {D : va_G} {cl : List vw_C} {A : Nat → Prop} {f : hm} {H H0 : Heap} {locs : List Loc} (h : hm_W D cl A f H) (hS : va_S A H0 H locs) (hA : ∀ q, H0.size ≤ q → A q) : ∀ q, hm_A f H.size q → A q := by
  intro q hq
  rcases hq with hq | hq
  · exact h.inA hq
  · exact hA q (Nat.le_trans hS.1 hq)
theorem hm_W.nil {D : va_G} {cl : List vw_C} {A : Nat → Prop} {H : Heap} : hm_W D cl A (fun _ => none) H := ⟨[], fun k q h => by simp at h, ⟨fun i j x y h => by simp at h, fun k q h => by simp at h⟩, fun a e => ⟨fun h => by simp at h, fun ⟨k, hk⟩ => by simp at hk⟩⟩
theorem hm_ra {s : State} {ty : FieldType} {c1 c2 : ClassId} (h1 : va_RA s c1 ty) (h2 : va_RA s c2 ty) : c1 = c2 := by
  cases ty with
  | object C =>
    obtain ⟨_, _, _, _, _, h1⟩ := h1
    obtain ⟨_, _, _, _, _, h2⟩ := h2
    exact Option.some.inj (h1.symm.trans h2)
  | _ =>
    have a : s.vm.findClass _ = some c1 := h1
    have b : s.vm.findClass _ = some c2 := h2
    exact Option.some.inj (a.symm.trans b)
/-- a class of the tables: its place in cl, its words, its fields' types, their names apart -/
def hm_cl (cl : List vw_C) (Ts : List Cond) (ci : Nat) (C : String) (T : u_T) (N : Nat) (ty : Nat → FieldType) : Prop :=
  cl[ci]? = some (C, T, N) ∧ (∀ w ∈ u_ws C T N, w ∈ Ts) ∧ (∀ k, k < N → parseFieldDescriptor (T k).2.2.1 = some (ty k)) ∧ (∀ a, a < N → ∀ b, b < N → a ≠ b → (T a).2.1 ≠ (T b).2.1)
/-- a field as a class's code names it -/
def hm_fl (cl : List vw_C) (Ts : List Cond) (own : String) (index ci k : Nat) (fin : Bool) (tk : FieldType) : Prop :=
  ∃ (C : String) (T : u_T) (N : Nat) (ty : Nat → FieldType), hm_cl cl Ts ci C T N ty ∧ k < N ∧ Cond.fieldLink own index (T k).1 (T k).2.1 (T k).2.2.1 ∈ Ts ∧ (T k).2.2.2 = fin ∧ ty k = tk
/-- a final field as its own class's code names it -/
def hm_flF (cl : List vw_C) (Ts : List Cond) (own : String) (index ci k : Nat) (tk : FieldType) : Prop :=
  ∃ (C : String) (T : u_T) (N : Nat) (ty : Nat → FieldType), hm_cl cl Ts ci C T N ty ∧ k < N ∧ Cond.fieldLink own index (T k).1 (T k).2.1 (T k).2.2.1 ∈ Ts ∧ (T k).2.2.2 = true ∧ ty k = tk ∧ (T k).1 = own
/-- a class as a class's code makes it -/
def hm_nw (cl : List vw_C) (Ts : List Cond) (own : String) (index ci N : Nat) (fs : List Value) : Prop :=
  ∃ (C : String) (T : u_T) (ty : Nat → FieldType), hm_cl cl Ts ci C T N ty ∧ Cond.classLink own index C ∈ Ts ∧ Cond.instantiable C N ∈ Ts ∧ Cond.initialized C ∈ Ts ∧ ∀ j, j < N → defaultValue (ty j) = vp_V fs j
section HMR
variable {p : Program} {l : Launch} {e : Env} {R : Room} {s : State} {m : MethodId} {args : Array Value} {below : List Frame} {meth : Method} {c : Code} {H : Heap} {locs : List Loc} {cells slots : Nat} {Q : State → Prop}
variable {cc : ByteArray} {pc : Nat} {ls : Array Slot} {rest : List Value} {D : va_G} {cl : List vw_C} {A : Nat → Prop} {a : Nat} {tys : List (ClassId × FieldType)} {H0 : Heap} {f : hm} {nL : Nat} {Ts : List Cond} {own : String}
theorem hm_get (X : CallFix p m c cc nL s args Ts own) (hK : hm_K D cl tys s) (hM : hm_W D cl A f H) {fs : List Value} {ci k index : Nat} {fin : Bool} {tk : FieldType} (he : f a = some (.inr (ci, fs))) (hF : hm_fl cl Ts own index ci k fin tk) {v : Value} (hv : fs[k]? = some v) (hdg : decode cc pc = .ok (.getfield index, 3))
    (kk : W p l e R s m args below meth c H locs cells slots Q (F0 m (pc + 3) ls (v :: rest))) : W p l e R s m args below meth c H locs cells slots Q (F0 m pc ls (.ref a :: rest)) := by
  obtain ⟨hx, hb, -, hown, hts⟩ := X
  obtain ⟨hK, hAO⟩ := hK
  obtain ⟨ws, hP, hD, hok⟩ := hM
  obtain ⟨q0, hq⟩ := (hok _ _).mp he
  obtain ⟨C, T, N, ty, ⟨hc, hin, -, -⟩, hk, hlink, -, -⟩ := hF
  exact va_get hx hb hts hin hown hK hP q0 hq hc k hk (hts _ hlink) (fun x h => h) hv hdg kk
theorem hm_put (X : CallFix p m c cc nL s args Ts own) (hK : hm_K D cl tys s) (hM : hm_W D cl A f H) (hS : va_S A H0 H locs) {fs fs' : List Value} {ci k index : Nat} {tk : FieldType} (he : f a = some (.inr (ci, fs))) (hF : hm_fl cl Ts own index ci k false tk) {v : Value} (hn : narrow tk v = v) (hfit : fits tk v = true) (hl : k < fs.length) (hfs : fs.set k v = fs') (hdg : decode cc pc = .ok (.putfield index, 3))
    (kk : ∀ (f1 : hm) (H1 : Heap) (locs1 : List Loc), f1 = hm_up f a (.inr (ci, fs')) → hm_W D cl A f1 H1 → va_S A H0 H1 locs1 → W p l e R s m args below meth c H1 locs1 cells slots Q (F0 m (pc + 3) ls rest)) : W p l e R s m args below meth c H locs cells slots Q (F0 m pc ls (v :: .ref a :: rest)) := by
  obtain ⟨hx, hb, -, hown, hts⟩ := X
  obtain ⟨hK, hAO⟩ := hK
  obtain ⟨ws, hP, hD, hok⟩ := hM
  obtain ⟨q0, hq⟩ := (hok _ _).mp he
  obtain ⟨C, T, N, ty, ⟨hc, hin, hty, hnm⟩, hk, hlink, hfin, htk⟩ := hF
  subst hfs
  exact va_put hx hb hts hin ty hty hnm hown hK hP hD hS q0 hq hc k hk (hts _ hlink) (fun x h => h) hfin (ty := tk) (by rw [← htk]; exact hty k hk) hn hfit hl hdg (fun H1 locs1 hP1 hD1 hS1 => kk _ H1 locs1 rfl ⟨_, hP1, hD1, hok.set _ hD hq⟩ hS1)
theorem hm_putF (X : CallFix p m c cc nL s args Ts own) (hK : hm_K D cl tys s) (hM : hm_W D cl A f H) (hS : va_S A H0 H locs) {fs fs' : List Value} {ci k index : Nat} {tk : FieldType} (he : f a = some (.inr (ci, fs))) (hF : hm_flF cl Ts own index ci k tk) (hin2 : meth.name = "<init>") {v : Value} (hn : narrow tk v = v) (hfit : fits tk v = true) (hl : k < fs.length) (hfs : fs.set k v = fs') (hdg : decode cc pc = .ok (.putfield index, 3))
    (kk : ∀ (f1 : hm) (H1 : Heap) (locs1 : List Loc), f1 = hm_up f a (.inr (ci, fs')) → hm_W D cl A f1 H1 → va_S A H0 H1 locs1 → W p l e R s m args below meth c H1 locs1 cells slots Q (F0 m (pc + 3) ls rest)) : W p l e R s m args below meth c H locs cells slots Q (F0 m pc ls (v :: .ref a :: rest)) := by
  obtain ⟨hx, hb, -, hown, hts⟩ := X
  obtain ⟨hK, hAO⟩ := hK
  obtain ⟨ws, hP, hD, hok⟩ := hM
  obtain ⟨q0, hq⟩ := (hok _ _).mp he
  obtain ⟨C, T, N, ty, ⟨hc, hin, hty, hnm⟩, hk, hlink, hfin, htk, hdecl⟩ := hF
  subst hfs
  exact va_putF hx hb hts hin ty hty hnm hown hK hP hD hS q0 hq hc k hk (hts _ hlink) (fun x h => h) hfin hin2 hdecl (ty := tk) (by rw [← htk]; exact hty k hk) hn hfit hl hdg (fun H1 locs1 hP1 hD1 hS1 => kk _ H1 locs1 rfl ⟨_, hP1, hD1, hok.set _ hD hq⟩ hS1)
theorem hm_new (X : CallFix p m c cc nL s args Ts own) (hK : hm_K D cl tys s) (hM : hm_W D cl A f H) (hS : va_S A H0 H locs) (hA : ∀ q, H0.size ≤ q → A q) {fs : List Value} {ci N index : Nat} (hN : hm_nw cl Ts own index ci N fs) (hcells : cells + 1 ≤ R.cells) (hslots : slots + N ≤ R.slots) (hdg : decode cc pc = .ok (.new index, 3))
    (kk : ∀ (q : Nat) (f1 : hm) (H1 : Heap), f1 = hm_up f q (.inr (ci, fs)) → f q = none → hm_W D cl A f1 H1 → va_S A H0 H1 locs → W p l e R s m args below meth c H1 locs (cells + 1) (slots + N) Q (F0 m (pc + 3) ls (.ref q :: rest))) : W p l e R s m args below meth c H locs cells slots Q (F0 m pc ls rest) := by
  obtain ⟨hx, hb, -, hown, hts⟩ := X
  obtain ⟨hK, hAO⟩ := hK
  obtain ⟨ws, hP, hD, hok⟩ := hM
  obtain ⟨C, T, ty, ⟨hc, hin, hty, -⟩, h1, h2, h3, hfs⟩ := hN
  exact va_new hx hb hts hin ty hty hown (hts _ h1) (hts _ h2) (hts _ h3) hK hP hD hS hA hc hfs hcells hslots hdg (fun q H1 hP1 hD1 hS1 => kk q _ H1 rfl (hok.push hD1).2 ⟨_, hP1, hD1, (hok.push hD1).1⟩ hS1)
theorem hm_newa (X : CallFix p m c cc nL s args Ts own) (hK : hm_K D cl tys s) (hM : hm_W D cl A f H) (hS : va_S A H0 H locs) (hA : ∀ q, H0.size ≤ q → A q) {atype : ArrayType} {ty : FieldType} (hty : newarray.typeOf atype = ty) (harr : Cond.arrayClass ty ∈ Ts) (t0 : Nat) {cA : ClassId} (ht : tys[t0]? = some (cA, ty)) {n : Int32} {N' : Nat} {a0 : vp_A} (ha : ∀ cA : ClassId, vp_cell cA a0 = arrV cA N' (fun _ => defaultValue ty)) (hn : ¬ n < 0) (hN : n.toNatClampNeg = N') (hbytes : N' * componentBytes ty ≤ 536870912) (hcells : cells + 1 ≤ R.cells) (hslots : slots + N' ≤ R.slots) (hdg : decode cc pc = .ok (.newarray atype, 2))
    (kk : ∀ (q : Nat) (f1 : hm) (H1 : Heap), f1 = hm_up f q (.inl (cA, a0)) → f q = none → hm_W D cl A f1 H1 → va_S A H0 H1 locs → W p l e R s m args below meth c H1 locs (cells + 1) (slots + N') Q (F0 m (pc + 2) ls (.ref q :: rest))) : W p l e R s m args below meth c H locs cells slots Q (F0 m pc ls (.int n :: rest)) := by
  obtain ⟨hx, hb, -, hown, hts⟩ := X
  obtain ⟨hK, hAO⟩ := hK
  obtain ⟨ws, hP, hD, hok⟩ := hM
  refine va_newa hx hb (by rw [hty]; exact hts _ harr) hty hK hP hD hS hA ha hn hN hbytes hcells hslots hdg (fun q cA' H1 hK1 hP1 hD1 hS1 => ?_)
  have hc : cA' = cA := hm_ra (hK1.2 tys.length (cA', ty) (by rw [List.getElem?_append_right (Nat.le_refl _), Nat.sub_self]; rfl)).2 (hK.2 t0 _ ht).2
  subst hc
  exact kk q _ H1 rfl (hok.push hD1).2 ⟨_, hP1, hD1, (hok.push hD1).1⟩ hS1
theorem hm_newq (X : CallFix p m c cc nL s args Ts own) (hK : hm_K D cl tys s) (hM : hm_W D cl A f H) (hS : va_S A H0 H locs) (hA : ∀ q, H0.size ≤ q → A q) {C : String} {index : Nat} (hlk : Cond.classLink own index C ∈ Ts) (hov : C ∈ hm_ao) (t0 : Nat) {cA : ClassId} (ht : tys[t0]? = some (cA, .object C)) {n : Int32} {N' : Nat} (hn : ¬ n < 0) (hN : n.toNatClampNeg = N') (hbytes : N' * 4 ≤ 536870912) (hcells : cells + 1 ≤ R.cells) (hslots : slots + N' ≤ R.slots) (hdg : decode cc pc = .ok (.anewarray index, 3))
    (kk : ∀ (q : Nat) (f1 : hm) (H1 : Heap), f1 = hm_up f q (.inl (cA, N', .inr (.inr (.inr (.inr (fun _ => none)))))) → f q = none → hm_W D cl A f1 H1 → va_S A H0 H1 locs → W p l e R s m args below meth c H1 locs (cells + 1) (slots + N') Q (F0 m (pc + 3) ls (.ref q :: rest))) : W p l e R s m args below meth c H locs cells slots Q (F0 m pc ls (.int n :: rest)) := by
  obtain ⟨hx, hb, -, hown, hts⟩ := X
  obtain ⟨hK, hAO⟩ := hK
  obtain ⟨ws, hP, hD, hok⟩ := hM
  refine va_newq hx hb hown (hts _ hlk) (hAO C hov) hK hP hD hS hA hn hN hbytes hcells hslots hdg (fun q cA' H1 hK1 hP1 hD1 hS1 => ?_)
  have hc : cA' = cA := hm_ra (hK1.2 tys.length (cA', .object C) (by rw [List.getElem?_append_right (Nat.le_refl _), Nat.sub_self]; rfl)).2 (hK.2 t0 _ ht).2
  subst hc
  exact kk q _ H1 rfl (hok.push hD1).2 ⟨_, hP1, hD1, (hok.push hD1).1⟩ hS1
theorem hm_in {i : Int32} {j n : Nat} (hi : i = nI j) (hj : j < n) (hn : n < 2 ^ 31) : vp_in i n ∧ i.toNatClampNeg = j := by
  subst hi
  exact ⟨vp_in_nI hj hn, nI_clamp (by omega)⟩
theorem hm_iald (X : CallFix p m c cc nL s args Ts own) (hK : hm_K D cl tys s) (hM : hm_W D cl A f H) {cA : ClassId} {n : Nat} {g : Nat → Int32} (he : f a = some (.inl (cA, n, .inl g))) (t0 : Nat) (ht : tys[t0]? = some (cA, .int)) {i : Int32} (j : Nat) (hi : i = nI j) (hj : j < n) (hn : n < 2 ^ 31) (hdg : decode cc pc = .ok (.iaload, 1))
    (kk : W p l e R s m args below meth c H locs cells slots Q (F0 m (pc + 1) ls (.int (g j) :: rest))) : W p l e R s m args below meth c H locs cells slots Q (F0 m pc ls (.int i :: .ref a :: rest)) := by
  obtain ⟨hx, hb, -, hown, hts⟩ := X
  obtain ⟨hK, hAO⟩ := hK
  obtain ⟨ws, hP, hD, hok⟩ := hM
  obtain ⟨q0, hq⟩ := (hok _ _).mp he
  obtain ⟨h1, h2⟩ := hm_in hi hj hn
  exact va_iald hx hb hK hP q0 t0 hq ht h1 hdg (by rw [h2]; exact kk)
theorem hm_zald (X : CallFix p m c cc nL s args Ts own) (hK : hm_K D cl tys s) (hM : hm_W D cl A f H) {cA : ClassId} {n : Nat} {g : Nat → Int32} (he : f a = some (.inl (cA, n, .inl g))) (t0 : Nat) (ht : tys[t0]? = some (cA, .boolean)) {i : Int32} (j : Nat) (hi : i = nI j) (hj : j < n) (hn : n < 2 ^ 31) (hdg : decode cc pc = .ok (.baload, 1))
    (kk : W p l e R s m args below meth c H locs cells slots Q (F0 m (pc + 1) ls (.int (g j) :: rest))) : W p l e R s m args below meth c H locs cells slots Q (F0 m pc ls (.int i :: .ref a :: rest)) := by
  obtain ⟨hx, hb, -, hown, hts⟩ := X
  obtain ⟨hK, hAO⟩ := hK
  obtain ⟨ws, hP, hD, hok⟩ := hM
  obtain ⟨q0, hq⟩ := (hok _ _).mp he
  obtain ⟨h1, h2⟩ := hm_in hi hj hn
  exact va_zald hx hb hK hP q0 t0 hq ht h1 hdg (by rw [h2]; exact kk)
theorem hm_cald (X : CallFix p m c cc nL s args Ts own) (hK : hm_K D cl tys s) (hM : hm_W D cl A f H) {cA : ClassId} {n : Nat} {g : Nat → Int32} (he : f a = some (.inl (cA, n, .inl g))) (t0 : Nat) (ht : tys[t0]? = some (cA, .char)) {i : Int32} (j : Nat) (hi : i = nI j) (hj : j < n) (hn : n < 2 ^ 31) (hdg : decode cc pc = .ok (.caload, 1))
    (kk : W p l e R s m args below meth c H locs cells slots Q (F0 m (pc + 1) ls (.int (g j) :: rest))) : W p l e R s m args below meth c H locs cells slots Q (F0 m pc ls (.int i :: .ref a :: rest)) := by
  obtain ⟨hx, hb, -, hown, hts⟩ := X
  obtain ⟨hK, hAO⟩ := hK
  obtain ⟨ws, hP, hD, hok⟩ := hM
  obtain ⟨q0, hq⟩ := (hok _ _).mp he
  obtain ⟨h1, h2⟩ := hm_in hi hj hn
  exact va_cald hx hb hK hP q0 t0 hq ht h1 hdg (by rw [h2]; exact kk)
theorem hm_aald (X : CallFix p m c cc nL s args Ts own) (hK : hm_K D cl tys s) (hM : hm_W D cl A f H) {cA : ClassId} {n : Nat} {C : String} {g : Nat → Option Nat} (he : f a = some (.inl (cA, n, .inr (.inr (.inr (.inr g)))))) (t0 : Nat) (ht : tys[t0]? = some (cA, .object C)) {i : Int32} (j : Nat) (hi : i = nI j) (hj : j < n) (hn : n < 2 ^ 31) (hdg : decode cc pc = .ok (.aaload, 1))
    (kk : W p l e R s m args below meth c H locs cells slots Q (F0 m (pc + 1) ls (va_rf (g j) :: rest))) : W p l e R s m args below meth c H locs cells slots Q (F0 m pc ls (.int i :: .ref a :: rest)) := by
  obtain ⟨hx, hb, -, hown, hts⟩ := X
  obtain ⟨hK, hAO⟩ := hK
  obtain ⟨ws, hP, hD, hok⟩ := hM
  obtain ⟨q0, hq⟩ := (hok _ _).mp he
  obtain ⟨h1, h2⟩ := hm_in hi hj hn
  exact va_aldq hx hb hK hP q0 t0 hq ht h1 hdg (by rw [h2]; exact kk)
theorem hm_alen (X : CallFix p m c cc nL s args Ts own) (hK : hm_K D cl tys s) (hM : hm_W D cl A f H) {cA : ClassId} {x : vp_A} (he : f a = some (.inl (cA, x))) (t0 : Nat) {ty : FieldType} (ht : tys[t0]? = some (cA, ty)) {v : Int32} (hv : nI x.1 = v) (hdg : decode cc pc = .ok (.arraylength, 1))
    (kk : W p l e R s m args below meth c H locs cells slots Q (F0 m (pc + 1) ls (.int v :: rest))) : W p l e R s m args below meth c H locs cells slots Q (F0 m pc ls (.ref a :: rest)) := by
  obtain ⟨hx, hb, -, hown, hts⟩ := X
  obtain ⟨hK, hAO⟩ := hK
  obtain ⟨ws, hP, hD, hok⟩ := hM
  obtain ⟨q0, hq⟩ := (hok _ _).mp he
  exact va_alen hx hb hK hP q0 t0 hq ht hv hdg kk
theorem hm_iast (X : CallFix p m c cc nL s args Ts own) (hK : hm_K D cl tys s) (hM : hm_W D cl A f H) (hS : va_S A H0 H locs) {cA : ClassId} {n : Nat} {g : Nat → Int32} (he : f a = some (.inl (cA, n, .inl g))) (t0 : Nat) (ht : tys[t0]? = some (cA, .int)) {i x : Int32} (j : Nat) (hi : i = nI j) (hj : j < n) (hn : n < 2 ^ 31) (hdg : decode cc pc = .ok (.iastore, 1))
    (kk : ∀ (f1 : hm) (H1 : Heap) (locs1 : List Loc), f1 = hm_up f a (.inl (cA, n, .inl (upd g j x))) → hm_W D cl A f1 H1 → va_S A H0 H1 locs1 → W p l e R s m args below meth c H1 locs1 cells slots Q (F0 m (pc + 1) ls rest)) : W p l e R s m args below meth c H locs cells slots Q (F0 m pc ls (.int x :: .int i :: .ref a :: rest)) := by
  obtain ⟨hx, hb, -, hown, hts⟩ := X
  obtain ⟨hK, hAO⟩ := hK
  obtain ⟨ws, hP, hD, hok⟩ := hM
  obtain ⟨q0, hq⟩ := (hok _ _).mp he
  obtain ⟨h1, h2⟩ := hm_in hi hj hn
  refine va_iast hx hb hK hP hD hS q0 t0 hq ht h1 hdg (fun H1 locs1 hP1 hD1 hS1 => ?_)
  rw [h2] at hP1 hD1
  exact kk _ H1 locs1 rfl ⟨_, hP1, hD1, hok.set _ hD hq⟩ hS1
theorem hm_zast (X : CallFix p m c cc nL s args Ts own) (hK : hm_K D cl tys s) (hM : hm_W D cl A f H) (hS : va_S A H0 H locs) {cA : ClassId} {n : Nat} {g : Nat → Int32} (he : f a = some (.inl (cA, n, .inl g))) (t0 : Nat) (ht : tys[t0]? = some (cA, .boolean)) {i x : Int32} (j : Nat) (hi : i = nI j) (hj : j < n) (hn : n < 2 ^ 31) {y : Int32} (hy : vp_nar .boolean x = y) (hdg : decode cc pc = .ok (.bastore, 1))
    (kk : ∀ (f1 : hm) (H1 : Heap) (locs1 : List Loc), f1 = hm_up f a (.inl (cA, n, .inl (upd g j y))) → hm_W D cl A f1 H1 → va_S A H0 H1 locs1 → W p l e R s m args below meth c H1 locs1 cells slots Q (F0 m (pc + 1) ls rest)) : W p l e R s m args below meth c H locs cells slots Q (F0 m pc ls (.int x :: .int i :: .ref a :: rest)) := by
  obtain ⟨hx, hb, -, hown, hts⟩ := X
  obtain ⟨hK, hAO⟩ := hK
  obtain ⟨ws, hP, hD, hok⟩ := hM
  obtain ⟨q0, hq⟩ := (hok _ _).mp he
  obtain ⟨h1, h2⟩ := hm_in hi hj hn
  refine va_zast hx hb hK hP hD hS q0 t0 hq ht h1 hdg (fun H1 locs1 hP1 hD1 hS1 => ?_)
  rw [h2, hy] at hP1 hD1
  exact kk _ H1 locs1 rfl ⟨_, hP1, hD1, hok.set _ hD hq⟩ hS1
theorem hm_cast (X : CallFix p m c cc nL s args Ts own) (hK : hm_K D cl tys s) (hM : hm_W D cl A f H) (hS : va_S A H0 H locs) {cA : ClassId} {n : Nat} {g : Nat → Int32} (he : f a = some (.inl (cA, n, .inl g))) (t0 : Nat) (ht : tys[t0]? = some (cA, .char)) {i x : Int32} (j : Nat) (hi : i = nI j) (hj : j < n) (hn : n < 2 ^ 31) {y : Int32} (hy : vp_nar .char x = y) (hdg : decode cc pc = .ok (.castore, 1))
    (kk : ∀ (f1 : hm) (H1 : Heap) (locs1 : List Loc), f1 = hm_up f a (.inl (cA, n, .inl (upd g j y))) → hm_W D cl A f1 H1 → va_S A H0 H1 locs1 → W p l e R s m args below meth c H1 locs1 cells slots Q (F0 m (pc + 1) ls rest)) : W p l e R s m args below meth c H locs cells slots Q (F0 m pc ls (.int x :: .int i :: .ref a :: rest)) := by
  obtain ⟨hx, hb, -, hown, hts⟩ := X
  obtain ⟨hK, hAO⟩ := hK
  obtain ⟨ws, hP, hD, hok⟩ := hM
  obtain ⟨q0, hq⟩ := (hok _ _).mp he
  obtain ⟨h1, h2⟩ := hm_in hi hj hn
  refine va_cast hx hb hK hP hD hS q0 t0 hq ht h1 hdg (fun H1 locs1 hP1 hD1 hS1 => ?_)
  rw [h2, hy] at hP1 hD1
  exact kk _ H1 locs1 rfl ⟨_, hP1, hD1, hok.set _ hD hq⟩ hS1
theorem hm_aast (X : CallFix p m c cc nL s args Ts own) (hK : hm_K D cl tys s) (hM : hm_W D cl A f H) (hS : va_S A H0 H locs) {cA : ClassId} {n v ci : Nat} {r : vw_C} {vs : List Value} {g : Nat → Option Nat} (he : f a = some (.inl (cA, n, .inr (.inr (.inr (.inr g)))))) (hv : f v = some (.inr (ci, vs))) (hc : cl[ci]? = some r) (t0 : Nat) (ht : tys[t0]? = some (cA, .object r.1)) {i : Int32} (j : Nat) (hi : i = nI j) (hj : j < n) (hn : n < 2 ^ 31) (hdg : decode cc pc = .ok (.aastore, 1))
    (kk : ∀ (f1 : hm) (H1 : Heap) (locs1 : List Loc), f1 = hm_up f a (.inl (cA, n, .inr (.inr (.inr (.inr (va_up g j (some v))))))) → hm_W D cl A f1 H1 → va_S A H0 H1 locs1 → W p l e R s m args below meth c H1 locs1 cells slots Q (F0 m (pc + 1) ls rest)) : W p l e R s m args below meth c H locs cells slots Q (F0 m pc ls (.ref v :: .int i :: .ref a :: rest)) := by
  obtain ⟨hx, hb, -, hown, hts⟩ := X
  obtain ⟨hK, hAO⟩ := hK
  obtain ⟨ws, hP, hD, hok⟩ := hM
  obtain ⟨q0, hq⟩ := (hok _ _).mp he
  obtain ⟨qk, hqk⟩ := (hok _ _).mp hv
  obtain ⟨h1, h2⟩ := hm_in hi hj hn
  refine va_astq hx hb hK hP hD hS q0 t0 qk ci hq ht hqk hc h1 hdg (fun H1 locs1 hP1 hD1 hS1 => ?_)
  rw [h2] at hP1 hD1
  exact kk _ H1 locs1 rfl ⟨_, hP1, hD1, hok.set _ hD hq⟩ hS1
end HMR
/-! Calls, entries and returns over the map world. -/
section HMC
variable {p : Program} {l : Launch} {e : Env} {R : Room} {s : State} {m : MethodId} {args : Array Value} {below : List Frame} {meth : Method} {c : Code} {H : Heap} {locs : List Loc} {cells slots : Nat} {Q : State → Prop}
variable {cc : ByteArray} {pc : Nat} {ls : Array Slot} {rest st0 : List Value} {D : va_G} {cl : List vw_C} {A : Nat → Prop} {tys : List (ClassId × FieldType)} {H0 : Heap} {f f0 : hm} {nL mc ms : Nat} {Ts : List Cond} {own : String} {av : Array Value}
theorem hm_blind {sz : Nat} {as : List Value} : FrameBlind (va_Pc as (hm_B D cl tys f sz)) := fun a U g mk q => by
  obtain ⟨q0, q1, qP, qK⟩ := q
  exact ⟨q0, q1, qP, hm_K.moved (u := U) (U := U.calling g mk a) (Vm.Alike.refl U.vm) qK⟩
theorem hm_preS (hM : hm_W D cl A f H) (hK : hm_K D cl tys s) {as : List Value} : PreS s H (va_Pc as (hm_B D cl tys f H.size)) as :=
  ⟨hm_blind, fun U hU hW => ⟨rfl, by rw [hU], by rw [hU]; exact hM.weaken (fun _ _ => trivial), hm_K.moved hW.alike hK⟩⟩
theorem hm_preV (hM : hm_W D cl A f H) (hK : hm_K D cl tys s) {as : List Value} {b ci N : Nat} {fs : List Value} {C : String} {T : u_T} (he : f b = some (.inr (ci, fs))) (hc : cl[ci]? = some (C, T, N)) : PreV s H C b (va_Pc (.ref b :: as) (hm_B D cl tys f H.size)) as := by
  refine ⟨hm_blind, ?_, fun U hU hW => ⟨rfl, by rw [hU], by rw [hU]; exact hM.weaken (fun _ _ => trivial), hm_K.moved hW.alike hK⟩⟩
  obtain ⟨ws, hP, hD, hok⟩ := hM
  obtain ⟨q0, hq⟩ := (hok _ _).mp he
  exact va_recv hK.1 hP hc hq
theorem hm_calli {post : Int32 → hm → Prop} (hS : va_S A H0 H locs) (hM : hm_W D cl A f H) (hA : ∀ q, H0.size ≤ q → A q) (hr : va_Run p l e R s m args below meth c H locs cells slots mc ms (F0 m pc ls st0) rest (va_Qi post (hm_R D cl tys f H.size) (hm_A f H.size) av) (hm_A f H.size))
    (kk : ∀ (r : Int32) (f1 : hm) (H1 : Heap) (locs1 : List Loc), post r f1 → hm_W D cl A f1 H1 → va_S A H0 H1 locs1 → W p l e R s m args below meth c H1 locs1 (cells + mc) (slots + ms) Q (F0 m (pc + 3) ls (.int r :: rest))) : W p l e R s m args below meth c H locs cells slots Q (F0 m pc ls st0) := by
  have hF := hM.free hS hA
  refine va_calli hr hS (fun q _ h => hF q h) hF (fun r u t H1 locs1 ht hvm hp hB hz hk hS1 => ?_)
  obtain ⟨hM1, -⟩ := hB
  rw [ht] at hM1
  exact kk r u H1 locs1 hp (hM1.weaken hF) hS1
theorem hm_calll {post : Int64 → hm → Prop} (hS : va_S A H0 H locs) (hM : hm_W D cl A f H) (hA : ∀ q, H0.size ≤ q → A q) (hr : va_Run p l e R s m args below meth c H locs cells slots mc ms (F0 m pc ls st0) rest (va_Ql post (hm_R D cl tys f H.size) (hm_A f H.size) av) (hm_A f H.size))
    (kk : ∀ (r : Int64) (f1 : hm) (H1 : Heap) (locs1 : List Loc), post r f1 → hm_W D cl A f1 H1 → va_S A H0 H1 locs1 → W p l e R s m args below meth c H1 locs1 (cells + mc) (slots + ms) Q (F0 m (pc + 3) ls (.long r :: rest))) : W p l e R s m args below meth c H locs cells slots Q (F0 m pc ls st0) := by
  have hF := hM.free hS hA
  refine va_calll hr hS (fun q _ h => hF q h) hF (fun r u t H1 locs1 ht hvm hp hB hz hk hS1 => ?_)
  obtain ⟨hM1, -⟩ := hB
  rw [ht] at hM1
  exact kk r u H1 locs1 hp (hM1.weaken hF) hS1
theorem hm_callv {post : hm → Prop} (hS : va_S A H0 H locs) (hM : hm_W D cl A f H) (hA : ∀ q, H0.size ≤ q → A q) (hr : va_Run p l e R s m args below meth c H locs cells slots mc ms (F0 m pc ls st0) rest (va_Qv post (hm_R D cl tys f H.size) (hm_A f H.size) av) (hm_A f H.size))
    (kk : ∀ (f1 : hm) (H1 : Heap) (locs1 : List Loc), post f1 → hm_W D cl A f1 H1 → va_S A H0 H1 locs1 → W p l e R s m args below meth c H1 locs1 (cells + mc) (slots + ms) Q (F0 m (pc + 3) ls rest)) : W p l e R s m args below meth c H locs cells slots Q (F0 m pc ls st0) := by
  have hF := hM.free hS hA
  refine va_callv hr hS (fun q _ h => hF q h) hF (fun u t H1 locs1 ht hvm hp hB hz hk hS1 => ?_)
  obtain ⟨hM1, -⟩ := hB
  rw [ht] at hM1
  exact kk u H1 locs1 hp (hM1.weaken hF) hS1
theorem hm_callq {post : Option Nat → hm → Prop} (hS : va_S A H0 H locs) (hM : hm_W D cl A f H) (hA : ∀ q, H0.size ≤ q → A q) (hr : va_Run p l e R s m args below meth c H locs cells slots mc ms (F0 m pc ls st0) rest (va_Qq post (hm_R D cl tys f H.size) (hm_A f H.size) av) (hm_A f H.size))
    (kk : ∀ (r : Option Nat) (f1 : hm) (H1 : Heap) (locs1 : List Loc), post r f1 → hm_W D cl A f1 H1 → va_S A H0 H1 locs1 → W p l e R s m args below meth c H1 locs1 (cells + mc) (slots + ms) Q (F0 m (pc + 3) ls (va_rf r :: rest))) : W p l e R s m args below meth c H locs cells slots Q (F0 m pc ls st0) := by
  have hF := hM.free hS hA
  refine va_callq hr hS (fun q _ h => hF q h) hF (fun r u t H1 locs1 ht hvm hp hB hz hk hS1 => ?_)
  obtain ⟨hM1, -⟩ := hB
  rw [ht] at hM1
  exact kk r u H1 locs1 hp (hM1.weaken hF) hS1
theorem hm_iret {post : Int32 → hm → Prop} (X : CallFix p m c cc nL s args Ts own) (hQ : MQ below (va_Qi post (hm_R D cl tys f0 s.heap.size) (hm_A f0 s.heap.size)) args s cells slots (hm_A f0 s.heap.size) = Q) (hr : meth.sig.returnType = some .int) (hlk : meth.locks = false) (hK : hm_K D cl tys s) (hM : hm_W D cl (hm_A f0 s.heap.size) f H) (hS : va_S (hm_A f0 s.heap.size) s.heap H locs) {v : Int32} (hdg : decode cc pc = .ok (.ireturn, 1)) (hp : post v f) :
    W p l e R s m args below meth c H locs cells slots Q (F0 m pc ls [.int v]) := hQ ▸
  W.iret X.1 X.2.1 hr (fun t ht hW => ⟨⟨v, f, rfl, hp, by rw [ht]; exact hM, hm_K.moved hW.alike hK⟩, hS.F ht⟩) hS.2.2 hdg hlk
theorem hm_zret {post : Int32 → hm → Prop} {ty : FieldType} (X : CallFix p m c cc nL s args Ts own) (hQ : MQ below (va_Qi post (hm_R D cl tys f0 s.heap.size) (hm_A f0 s.heap.size)) args s cells slots (hm_A f0 s.heap.size) = Q) (hr : meth.sig.returnType = some ty) (hlk : meth.locks = false) (hK : hm_K D cl tys s) (hM : hm_W D cl (hm_A f0 s.heap.size) f H) (hS : va_S (hm_A f0 s.heap.size) s.heap H locs) {v : Int32} (hn : narrow ty (.int v) = .int v) (hdg : decode cc pc = .ok (.ireturn, 1)) (hp : post v f) :
    W p l e R s m args below meth c H locs cells slots Q (F0 m pc ls [.int v]) := hQ ▸
  W.zret X.1 X.2.1 hr hn (fun t ht hW => ⟨⟨v, f, rfl, hp, by rw [ht]; exact hM, hm_K.moved hW.alike hK⟩, hS.F ht⟩) hS.2.2 hdg hlk
theorem hm_lret {post : Int64 → hm → Prop} (X : CallFix p m c cc nL s args Ts own) (hQ : MQ below (va_Ql post (hm_R D cl tys f0 s.heap.size) (hm_A f0 s.heap.size)) args s cells slots (hm_A f0 s.heap.size) = Q) (hr : meth.sig.returnType = some .long) (hlk : meth.locks = false) (hK : hm_K D cl tys s) (hM : hm_W D cl (hm_A f0 s.heap.size) f H) (hS : va_S (hm_A f0 s.heap.size) s.heap H locs) {v : Int64} (hdg : decode cc pc = .ok (.lreturn, 1)) (hp : post v f) :
    W p l e R s m args below meth c H locs cells slots Q (F0 m pc ls [.long v]) := hQ ▸
  W.lret X.1 X.2.1 hr (fun t ht hW => ⟨⟨v, f, rfl, hp, by rw [ht]; exact hM, hm_K.moved hW.alike hK⟩, hS.F ht⟩) hS.2.2 hdg hlk
theorem hm_vret {post : hm → Prop} (X : CallFix p m c cc nL s args Ts own) (hQ : MQ below (va_Qv post (hm_R D cl tys f0 s.heap.size) (hm_A f0 s.heap.size)) args s cells slots (hm_A f0 s.heap.size) = Q) (hr : meth.sig.returnType = none) (hlk : meth.locks = false) (hK : hm_K D cl tys s) (hM : hm_W D cl (hm_A f0 s.heap.size) f H) (hS : va_S (hm_A f0 s.heap.size) s.heap H locs) (hdg : decode cc pc = .ok (.return_, 1)) (hp : post f) :
    W p l e R s m args below meth c H locs cells slots Q (F0 m pc ls []) := hQ ▸
  W.vret X.1 X.2.1 hr (fun t ht hW => ⟨⟨f, rfl, hp, by rw [ht]; exact hM, hm_K.moved hW.alike hK⟩, hS.F ht⟩) hS.2.2 hdg hlk
theorem hm_aret {post : Option Nat → hm → Prop} {rt : FieldType} (X : CallFix p m c cc nL s args Ts own) (hQ : MQ below (va_Qq post (hm_R D cl tys f0 s.heap.size) (hm_A f0 s.heap.size)) args s cells slots (hm_A f0 s.heap.size) = Q) (hr : meth.sig.returnType = some rt) (hrt : (∃ n, rt = .object n) ∨ ∃ t, rt = .array t) (hlk : meth.locks = false) (hK : hm_K D cl tys s) (hM : hm_W D cl (hm_A f0 s.heap.size) f H) (hS : va_S (hm_A f0 s.heap.size) s.heap H locs) (r : Option Nat) (hdg : decode cc pc = .ok (.areturn, 1)) (hp : post r f) :
    W p l e R s m args below meth c H locs cells slots Q (F0 m pc ls [va_rf r]) := hQ ▸
  W.aret X.1 X.2.1 hr hrt (va_rf_or r) (fun t ht hW => ⟨⟨r, f, rfl, hp, by rw [ht]; exact hM, hm_K.moved hW.alike hK⟩, hS.F ht⟩) hS.2.2 hdg hlk
/-- the contract: from the map f, at any size of the heap -/
theorem hm_enter {y : MethodName} {ws ws' : List Cond} {rm : Room} {as : List Value} {Qc : Nat → Array Value → State → Outcome → State → Prop} {maxL : Nat} {ret : Option FieldType} (hy : plainName y.cls = true) (hw : ws = Cond.code y cc maxL ret :: ws') (hlen : (lg_sl as).length ≤ maxL)
    (body : ∀ (p : Program) (e : Env) (s : State) (m : MethodId) (below : List Frame) (meth : Method) (c : Code) (ls : Array Slot), CallFix p m c cc maxL s as.toArray ws y.cls → meth.sig.returnType = ret → meth.locks = false → meth.name = y.name → hm_K D cl tys s → hm_W D cl (hm_A f s.heap.size) f s.heap → va_S (hm_A f s.heap.size) s.heap s.heap [] → (∀ q, s.heap.size ≤ q → hm_A f s.heap.size q) → lv_has ls maxL (lv_args 0 as) →
      ∀ Q : State → Prop, MQ below (Qc s.heap.size) as.toArray s mc ms (hm_A f s.heap.size) = Q → W p l e rm s m as.toArray below meth c s.heap [] 0 0 Q (F0 m 0 ls [])) : ∀ sz, Met l y ws rm (va_Pc as (hm_B D cl tys f sz)) (Qc sz) mc ms (hm_A f sz) := by
  intro sz
  refine Met.ofW (cc := cc) (maxL := maxL) (ret := ret) hy hw ?_
  intro p e s m args below meth c s₁ B hml hv
  obtain ⟨rfl, rfl, hM, hK⟩ := hv
  rw [lg_entry_eq]
  exact body p e s m below meth c _ ⟨B.exec, B.bytes, hml, findClass_of_methodNamed B.named, atoms_spec (ws := ws) B.pre⟩ B.returns B.notSynchronized (name_of_methodNamed B.named B.method).1 hK hM.self va_S.rf (fun q h => Or.inr h) (lv_entry as hlen) _ rfl
theorem hm_ref {o : Option Nat} {a : Nat} (h : o = some a) (k : W p l e R s m args below meth c H locs cells slots Q (F0 m pc ls (.ref a :: rest))) : W p l e R s m args below meth c H locs cells slots Q (F0 m pc ls (va_rf o :: rest)) := by
  subst h; exact k
theorem hm_nul {o : Option Nat} (h : o = none) (k : W p l e R s m args below meth c H locs cells slots Q (F0 m pc ls (.null :: rest))) : W p l e R s m args below meth c H locs cells slots Q (F0 m pc ls (va_rf o :: rest)) := by
  subst h; exact k
theorem hm_aload_nq (hx : p.tables.exec = Jvm.exec) (hb : c.code = cc) {k : Fin 4} {i : Nat} {o : Option Nat} (hdg : decode cc pc = .ok (.aload_n k, 1)) (hi : (k : Nat) = i) (hl : ls[i]? = some (.val (va_rf o))) (kk : W p l e R s m args below meth c H locs cells slots Q (F0 m (pc + 1) ls (va_rf o :: rest))) : W p l e R s m args below meth c H locs cells slots Q (F0 m pc ls rest) := by
  cases o with
  | none => exact lv_aload_nN hx hb hdg hi hl kk
  | some a => exact lv_aload_n hx hb hdg hi hl kk
theorem hm_aloadq (hx : p.tables.exec = Jvm.exec) (hb : c.code = cc) {i : Nat} {o : Option Nat} (hdg : decode cc pc = .ok (.aload i, 2)) (hl : ls[i]? = some (.val (va_rf o))) (kk : W p l e R s m args below meth c H locs cells slots Q (F0 m (pc + 2) ls (va_rf o :: rest))) : W p l e R s m args below meth c H locs cells slots Q (F0 m pc ls rest) := by
  cases o with
  | none => exact lv_aloadN hx hb hdg hl kk
  | some a => exact lv_aload hx hb hdg hl kk
theorem hm_astore_nq (hx : p.tables.exec = Jvm.exec) (hb : c.code = cc) {k : Fin 4} {i : Nat} {o : Option Nat} {lv lv' : List (Nat × Value)} (hdg : decode cc pc = .ok (.astore_n k, 1)) (hi : (k : Nat) = i) (h : lv_has ls nL lv) (hn : i < nL) (hl : (i, va_rf o) :: lv.filter (fun q => !(q.1 == i) && !(q.1 + 1 == i && q.2.category == 2)) = lv')
    (kk : ∀ ls' : Array Slot, lv_has ls' nL lv' → W p l e R s m args below meth c H locs cells slots Q (F0 m (pc + 1) ls' rest)) : W p l e R s m args below meth c H locs cells slots Q (F0 m pc ls (va_rf o :: rest)) := by
  cases o with
  | none => exact lv_astore_nN hx hb hdg hi h hn hl kk
  | some a => exact lv_astore_n hx hb hdg hi h hn hl kk
theorem hm_astoreq (hx : p.tables.exec = Jvm.exec) (hb : c.code = cc) {i : Nat} {o : Option Nat} {lv lv' : List (Nat × Value)} (hdg : decode cc pc = .ok (.astore i, 2)) (h : lv_has ls nL lv) (hn : i < nL) (hl : (i, va_rf o) :: lv.filter (fun q => !(q.1 == i) && !(q.1 + 1 == i && q.2.category == 2)) = lv')
    (kk : ∀ ls' : Array Slot, lv_has ls' nL lv' → W p l e R s m args below meth c H locs cells slots Q (F0 m (pc + 2) ls' rest)) : W p l e R s m args below meth c H locs cells slots Q (F0 m pc ls (va_rf o :: rest)) := by
  cases o with
  | none => exact lv_astoreN hx hb hdg h hn hl kk
  | some a => exact lv_astore hx hb hdg h hn hl kk
theorem hm_ifnullq (hx : p.tables.exec = Jvm.exec) (hb : c.code = cc) {o : Option Nat} {off : Int} {tgt : Nat} (hdg : decode cc pc = .ok (.ifnull off, 3)) (ht : (pc : Int) + off = (tgt : Int)) (kt : o = none → W p l e R s m args below meth c H locs cells slots Q (F0 m tgt ls rest)) (kf : ∀ a, o = some a → W p l e R s m args below meth c H locs cells slots Q (F0 m (pc + 3) ls rest)) : W p l e R s m args below meth c H locs cells slots Q (F0 m pc ls (va_rf o :: rest)) := by
  cases o with
  | none => exact lv_ifnullN hx hb hdg ht (kt rfl)
  | some a => exact lv_ifnull hx hb hdg (kf a rfl)
theorem hm_ifnonnullq (hx : p.tables.exec = Jvm.exec) (hb : c.code = cc) {o : Option Nat} {off : Int} {tgt : Nat} (hdg : decode cc pc = .ok (.ifnonnull off, 3)) (ht : (pc : Int) + off = (tgt : Int)) (kt : o = none → W p l e R s m args below meth c H locs cells slots Q (F0 m (pc + 3) ls rest)) (kf : ∀ a, o = some a → W p l e R s m args below meth c H locs cells slots Q (F0 m tgt ls rest)) : W p l e R s m args below meth c H locs cells slots Q (F0 m pc ls (va_rf o :: rest)) := by
  cases o with
  | none => exact lv_ifnonnullN hx hb hdg (kt rfl)
  | some a => exact lv_ifnonnull hx hb hdg ht (kf a rfl)
theorem hm_top {x z : Int32} (h : x = z) (k : W p l e R s m args below meth c H locs cells slots Q (F0 m pc ls (.int z :: rest))) : W p l e R s m args below meth c H locs cells slots Q (F0 m pc ls (.int x :: rest)) := h ▸ k
theorem hm_cs {cells' slots' : Nat} {g : JFrame} (hc : cells = cells') (hs : slots = slots') (k : W p l e R s m args below meth c H locs cells' slots' Q g) : W p l e R s m args below meth c H locs cells slots Q g := by
  subst hc; subst hs; exact k
end HMC
theorem hm_neI {f : hm} {a b ci cj : Nat} {fs gs : List Value} (ha : f a = some (.inr (ci, fs))) (hb : f b = some (.inr (cj, gs))) (h : ci ≠ cj) : a ≠ b := hm_ne ha hb (fun q => h (by cases q; rfl))
theorem hm_neA {f : hm} {a b : Nat} {o : Nat × List Value} {x : ClassId × vp_A} (ha : f a = some (.inr o)) (hb : f b = some (.inl x)) : a ≠ b := hm_ne ha hb (fun q => by cases q)
theorem hm_neL {f : hm} {a b n1 n2 : Nat} {c1 c2 : ClassId} {x y : (Nat → Int32) ⊕ (Nat → Int64) ⊕ (Nat → UInt32) ⊕ (Nat → UInt64) ⊕ (Nat → Option Nat)} (ha : f a = some (.inl (c1, n1, x))) (hb : f b = some (.inl (c2, n2, y))) (h : n1 ≠ n2) : a ≠ b := hm_ne ha hb (fun q => h (by cases q; rfl))
theorem hm_none {f f1 : hm} {a b : Nat} {e : va_E} (h : f1 = hm_up f a e) (hb : f1 b = none) : f b = none := by
  by_cases q : b = a
  · rw [h, q, hm_up_s] at hb
    cases hb
  · rw [h, hm_up_n q] at hb
    exact hb
theorem hm_noneF {f f1 : hm} {b : Nat} (h : ∀ x : va_E, f b = some x → f1 b = some x) (hb : f1 b = none) : f b = none := by
  cases q : f b with
  | none => rfl
  | some x =>
    rw [h x q] at hb
    cases hb
theorem hm_narq (C : String) (o : Option Nat) : narrow (.object C) (va_rf o) = va_rf o := by cases o <;> rfl
theorem hm_fitq (C : String) (o : Option Nat) : fits (.object C) (va_rf o) = true := by cases o <;> rfl
theorem hm_narZ {x : Int32} (h : x = 0 ∨ x = 1) : narrow .boolean (.int x) = .int x := by
  rcases h with h | h <;> (subst h; rfl)
theorem hm_inc (j : Nat) : nI j + Int32.ofInt 1 = nI (j + 1) := nI_1 j
/-- contracts over the map: void, int (boolean, char), long, a reference or null -/
abbrev hm_Mv (l : Launch) (D : va_G) (cl : List vw_C) (tys : List (ClassId × FieldType)) (y : MethodName) (ws : List Cond) (rm : Room) (as : List Value) (f : hm) (post : hm → Prop) (mc ms : Nat) : Prop := ∀ sz : Nat, Met l y ws rm (va_Pc as (hm_B D cl tys f sz)) (va_Qv post (hm_R D cl tys f sz) (hm_A f sz)) mc ms (hm_A f sz)
abbrev hm_Mi (l : Launch) (D : va_G) (cl : List vw_C) (tys : List (ClassId × FieldType)) (y : MethodName) (ws : List Cond) (rm : Room) (as : List Value) (f : hm) (post : Int32 → hm → Prop) (mc ms : Nat) : Prop := ∀ sz : Nat, Met l y ws rm (va_Pc as (hm_B D cl tys f sz)) (va_Qi post (hm_R D cl tys f sz) (hm_A f sz)) mc ms (hm_A f sz)
abbrev hm_Ml (l : Launch) (D : va_G) (cl : List vw_C) (tys : List (ClassId × FieldType)) (y : MethodName) (ws : List Cond) (rm : Room) (as : List Value) (f : hm) (post : Int64 → hm → Prop) (mc ms : Nat) : Prop := ∀ sz : Nat, Met l y ws rm (va_Pc as (hm_B D cl tys f sz)) (va_Ql post (hm_R D cl tys f sz) (hm_A f sz)) mc ms (hm_A f sz)
abbrev hm_Mq (l : Launch) (D : va_G) (cl : List vw_C) (tys : List (ClassId × FieldType)) (y : MethodName) (ws : List Cond) (rm : Room) (as : List Value) (f : hm) (post : Option Nat → hm → Prop) (mc ms : Nat) : Prop := ∀ sz : Nat, Met l y ws rm (va_Pc as (hm_B D cl tys f sz)) (va_Qq post (hm_R D cl tys f sz) (hm_A f sz)) mc ms (hm_A f sz)
end
section
-- ===== PART A: goes FIRST, ahead of the names: the tables' words, and 'selects' of the private methods out of them =====
/-- a private method of a class that the tables say can be made, by its rows of tables_1 -/
def lw_okq (q : MethodName × Nat) : Prop := (q.1.cls ≠ "java/lang/invoke/MethodHandle" ∧ q.1.cls ≠ "java/lang/invoke/VarHandle") ∧ Cond.instantiable q.1.cls q.2 ∈ tables_1 ∧ Cond.privateMethod q.1 ∈ tables_1 ∧ Cond.instanceMethod q.1 ∈ tables_1
theorem lw_p0 : lw_okq (⟨"GrantServer", "clientWith", "(I)LGrantServer$Client;"⟩, 16) := ⟨⟨by decide +kernel, by decide +kernel⟩, List.mem_of_getElem? (i := 18) (by decide +kernel), List.mem_of_getElem? (i := 215) (by decide +kernel), List.mem_of_getElem? (i := 216) (by decide +kernel)⟩
theorem lw_p1 : lw_okq (⟨"GrantServer", "isFree", "(I)Z"⟩, 16) := ⟨⟨by decide +kernel, by decide +kernel⟩, List.mem_of_getElem? (i := 18) (by decide +kernel), List.mem_of_getElem? (i := 227) (by decide +kernel), List.mem_of_getElem? (i := 228) (by decide +kernel)⟩
theorem lw_p2 : lw_okq (⟨"GrantServer", "refusalOfNewTokens", "(I)I"⟩, 16) := ⟨⟨by decide +kernel, by decide +kernel⟩, List.mem_of_getElem? (i := 18) (by decide +kernel), List.mem_of_getElem? (i := 272) (by decide +kernel), List.mem_of_getElem? (i := 273) (by decide +kernel)⟩
theorem lw_p3 : lw_okq (⟨"GrantServer", "giveTokens", "(LGrantServer$Family;III)I"⟩, 16) := ⟨⟨by decide +kernel, by decide +kernel⟩, List.mem_of_getElem? (i := 18) (by decide +kernel), List.mem_of_getElem? (i := 295) (by decide +kernel), List.mem_of_getElem? (i := 296) (by decide +kernel)⟩
theorem lw_p4 : lw_okq (⟨"GrantServer", "writeClaims", "(LGrantServer$Grant;I)V"⟩, 16) := ⟨⟨by decide +kernel, by decide +kernel⟩, List.mem_of_getElem? (i := 18) (by decide +kernel), List.mem_of_getElem? (i := 299) (by decide +kernel), List.mem_of_getElem? (i := 300) (by decide +kernel)⟩
theorem lw_p5 : lw_okq (⟨"GrantServer$Wrapping", "sealOf", "(LGrantServer$Text;I)J"⟩, 1) := ⟨⟨by decide +kernel, by decide +kernel⟩, List.mem_of_getElem? (i := 118) (by decide +kernel), List.mem_of_getElem? (i := 397) (by decide +kernel), List.mem_of_getElem? (i := 398) (by decide +kernel)⟩
theorem lw_p6 : lw_okq (⟨"GrantServer", "activeTokens", "()I"⟩, 16) := ⟨⟨by decide +kernel, by decide +kernel⟩, List.mem_of_getElem? (i := 18) (by decide +kernel), List.mem_of_getElem? (i := 414) (by decide +kernel), List.mem_of_getElem? (i := 415) (by decide +kernel)⟩
theorem lw_p7 : lw_okq (⟨"GrantServer", "shelfOf", "(I)LGrantServer$Shelf;"⟩, 16) := ⟨⟨by decide +kernel, by decide +kernel⟩, List.mem_of_getElem? (i := 18) (by decide +kernel), List.mem_of_getElem? (i := 433) (by decide +kernel), List.mem_of_getElem? (i := 434) (by decide +kernel)⟩
theorem lw_p8 : lw_okq (⟨"GrantServer$ClaimsReader", "begin", "()V"⟩, 3) := ⟨⟨by decide +kernel, by decide +kernel⟩, List.mem_of_getElem? (i := 100) (by decide +kernel), List.mem_of_getElem? (i := 522) (by decide +kernel), List.mem_of_getElem? (i := 523) (by decide +kernel)⟩
theorem lw_p9 : lw_okq (⟨"GrantServer$ClaimsReader", "readsMark", "(LGrantServer$Text;C)Z"⟩, 3) := ⟨⟨by decide +kernel, by decide +kernel⟩, List.mem_of_getElem? (i := 100) (by decide +kernel), List.mem_of_getElem? (i := 526) (by decide +kernel), List.mem_of_getElem? (i := 527) (by decide +kernel)⟩
theorem lw_p10 : lw_okq (⟨"GrantServer$ClaimsReader", "skipSpaces", "(LGrantServer$Text;)V"⟩, 3) := ⟨⟨by decide +kernel, by decide +kernel⟩, List.mem_of_getElem? (i := 100) (by decide +kernel), List.mem_of_getElem? (i := 530) (by decide +kernel), List.mem_of_getElem? (i := 531) (by decide +kernel)⟩
theorem lw_p11 : lw_okq (⟨"GrantServer$ClaimsReader", "readsMember", "(LGrantServer$Text;)Z"⟩, 3) := ⟨⟨by decide +kernel, by decide +kernel⟩, List.mem_of_getElem? (i := 100) (by decide +kernel), List.mem_of_getElem? (i := 536) (by decide +kernel), List.mem_of_getElem? (i := 537) (by decide +kernel)⟩
theorem lw_p12 : lw_okq (⟨"GrantServer$ClaimsReader", "readName", "(LGrantServer$Text;)I"⟩, 3) := ⟨⟨by decide +kernel, by decide +kernel⟩, List.mem_of_getElem? (i := 100) (by decide +kernel), List.mem_of_getElem? (i := 540) (by decide +kernel), List.mem_of_getElem? (i := 541) (by decide +kernel)⟩
theorem lw_p13 : lw_okq (⟨"GrantServer$ClaimsReader", "standsHere", "(LGrantServer$Text;Ljava/lang/String;)Z"⟩, 3) := ⟨⟨by decide +kernel, by decide +kernel⟩, List.mem_of_getElem? (i := 100) (by decide +kernel), List.mem_of_getElem? (i := 552) (by decide +kernel), List.mem_of_getElem? (i := 553) (by decide +kernel)⟩
theorem lw_p14 : lw_okq (⟨"GrantServer$ClaimsReader", "readNumber", "(LGrantServer$Text;)I"⟩, 3) := ⟨⟨by decide +kernel, by decide +kernel⟩, List.mem_of_getElem? (i := 100) (by decide +kernel), List.mem_of_getElem? (i := 558) (by decide +kernel), List.mem_of_getElem? (i := 559) (by decide +kernel)⟩
theorem lw_p15 : lw_okq (⟨"GrantServer", "judgeClaims", "(II)I"⟩, 16) := ⟨⟨by decide +kernel, by decide +kernel⟩, List.mem_of_getElem? (i := 18) (by decide +kernel), List.mem_of_getElem? (i := 565) (by decide +kernel), List.mem_of_getElem? (i := 566) (by decide +kernel)⟩
def lw_privs_1 : List (MethodName × Nat) := [(⟨"GrantServer", "clientWith", "(I)LGrantServer$Client;"⟩, 16), (⟨"GrantServer", "isFree", "(I)Z"⟩, 16), (⟨"GrantServer", "refusalOfNewTokens", "(I)I"⟩, 16), (⟨"GrantServer", "giveTokens", "(LGrantServer$Family;III)I"⟩, 16), (⟨"GrantServer", "writeClaims", "(LGrantServer$Grant;I)V"⟩, 16), (⟨"GrantServer$Wrapping", "sealOf", "(LGrantServer$Text;I)J"⟩, 1), (⟨"GrantServer", "activeTokens", "()I"⟩, 16), (⟨"GrantServer", "shelfOf", "(I)LGrantServer$Shelf;"⟩, 16), (⟨"GrantServer$ClaimsReader", "begin", "()V"⟩, 3), (⟨"GrantServer$ClaimsReader", "readsMark", "(LGrantServer$Text;C)Z"⟩, 3), (⟨"GrantServer$ClaimsReader", "skipSpaces", "(LGrantServer$Text;)V"⟩, 3), (⟨"GrantServer$ClaimsReader", "readsMember", "(LGrantServer$Text;)Z"⟩, 3), (⟨"GrantServer$ClaimsReader", "readName", "(LGrantServer$Text;)I"⟩, 3), (⟨"GrantServer$ClaimsReader", "standsHere", "(LGrantServer$Text;Ljava/lang/String;)Z"⟩, 3), (⟨"GrantServer$ClaimsReader", "readNumber", "(LGrantServer$Text;)I"⟩, 3), (⟨"GrantServer", "judgeClaims", "(II)I"⟩, 16)]
theorem lw_r1 : ∀ q ∈ lw_privs_1, lw_okq q := List.forall_mem_cons.mpr ⟨lw_p0, List.forall_mem_cons.mpr ⟨lw_p1, List.forall_mem_cons.mpr ⟨lw_p2, List.forall_mem_cons.mpr ⟨lw_p3, List.forall_mem_cons.mpr ⟨lw_p4, List.forall_mem_cons.mpr ⟨lw_p5, List.forall_mem_cons.mpr ⟨lw_p6, List.forall_mem_cons.mpr ⟨lw_p7, List.forall_mem_cons.mpr ⟨lw_p8, List.forall_mem_cons.mpr ⟨lw_p9, List.forall_mem_cons.mpr ⟨lw_p10, List.forall_mem_cons.mpr ⟨lw_p11, List.forall_mem_cons.mpr ⟨lw_p12, List.forall_mem_cons.mpr ⟨lw_p13, List.forall_mem_cons.mpr ⟨lw_p14, List.forall_mem_cons.mpr ⟨lw_p15, fun _ h => absurd h List.not_mem_nil⟩⟩⟩⟩⟩⟩⟩⟩⟩⟩⟩⟩⟩⟩⟩⟩
theorem lw_p16 : lw_okq (⟨"GrantServer$Shelf", "swap", "(II)V"⟩, 2) := ⟨⟨by decide +kernel, by decide +kernel⟩, List.mem_of_getElem? (i := 28) (by decide +kernel), List.mem_of_getElem? (i := 630) (by decide +kernel), List.mem_of_getElem? (i := 631) (by decide +kernel)⟩
theorem lw_p17 : lw_okq (⟨"GrantServerModel", "isClient", "(I)Z"⟩, 31) := ⟨⟨by decide +kernel, by decide +kernel⟩, List.mem_of_getElem? (i := 645) (by decide +kernel), List.mem_of_getElem? (i := 756) (by decide +kernel), List.mem_of_getElem? (i := 757) (by decide +kernel)⟩
theorem lw_p18 : lw_okq (⟨"GrantServerModel", "isFree", "(I)Z"⟩, 31) := ⟨⟨by decide +kernel, by decide +kernel⟩, List.mem_of_getElem? (i := 645) (by decide +kernel), List.mem_of_getElem? (i := 765) (by decide +kernel), List.mem_of_getElem? (i := 766) (by decide +kernel)⟩
theorem lw_p19 : lw_okq (⟨"GrantServerModel", "find", "(II)I"⟩, 31) := ⟨⟨by decide +kernel, by decide +kernel⟩, List.mem_of_getElem? (i := 645) (by decide +kernel), List.mem_of_getElem? (i := 770) (by decide +kernel), List.mem_of_getElem? (i := 771) (by decide +kernel)⟩
theorem lw_p20 : lw_okq (⟨"GrantServerModel", "room", "(I)I"⟩, 31) := ⟨⟨by decide +kernel, by decide +kernel⟩, List.mem_of_getElem? (i := 645) (by decide +kernel), List.mem_of_getElem? (i := 780) (by decide +kernel), List.mem_of_getElem? (i := 781) (by decide +kernel)⟩
theorem lw_p21 : lw_okq (⟨"GrantServerModel", "put", "(IIIIII)V"⟩, 31) := ⟨⟨by decide +kernel, by decide +kernel⟩, List.mem_of_getElem? (i := 645) (by decide +kernel), List.mem_of_getElem? (i := 784) (by decide +kernel), List.mem_of_getElem? (i := 785) (by decide +kernel)⟩
theorem lw_p22 : lw_okq (⟨"GrantServerModel", "grant", "(IIII)I"⟩, 31) := ⟨⟨by decide +kernel, by decide +kernel⟩, List.mem_of_getElem? (i := 645) (by decide +kernel), List.mem_of_getElem? (i := 798) (by decide +kernel), List.mem_of_getElem? (i := 799) (by decide +kernel)⟩
theorem lw_p23 : lw_okq (⟨"GrantServerModel", "say", "(II)V"⟩, 31) := ⟨⟨by decide +kernel, by decide +kernel⟩, List.mem_of_getElem? (i := 645) (by decide +kernel), List.mem_of_getElem? (i := 802) (by decide +kernel), List.mem_of_getElem? (i := 803) (by decide +kernel)⟩
theorem lw_p24 : lw_okq (⟨"GrantServerModel", "member", "(II)V"⟩, 31) := ⟨⟨by decide +kernel, by decide +kernel⟩, List.mem_of_getElem? (i := 645) (by decide +kernel), List.mem_of_getElem? (i := 806) (by decide +kernel), List.mem_of_getElem? (i := 807) (by decide +kernel)⟩
theorem lw_p25 : lw_okq (⟨"GrantServerModel", "sayNumber", "(I)V"⟩, 31) := ⟨⟨by decide +kernel, by decide +kernel⟩, List.mem_of_getElem? (i := 645) (by decide +kernel), List.mem_of_getElem? (i := 813) (by decide +kernel), List.mem_of_getElem? (i := 814) (by decide +kernel)⟩
theorem lw_p26 : lw_okq (⟨"GrantServerModel", "wrapPlain", "()V"⟩, 31) := ⟨⟨by decide +kernel, by decide +kernel⟩, List.mem_of_getElem? (i := 645) (by decide +kernel), List.mem_of_getElem? (i := 817) (by decide +kernel), List.mem_of_getElem? (i := 818) (by decide +kernel)⟩
theorem lw_p27 : lw_okq (⟨"GrantServerModel", "six", "(I)I"⟩, 31) := ⟨⟨by decide +kernel, by decide +kernel⟩, List.mem_of_getElem? (i := 645) (by decide +kernel), List.mem_of_getElem? (i := 821) (by decide +kernel), List.mem_of_getElem? (i := 822) (by decide +kernel)⟩
theorem lw_p28 : lw_okq (⟨"GrantServerModel", "isActive", "(I)Z"⟩, 31) := ⟨⟨by decide +kernel, by decide +kernel⟩, List.mem_of_getElem? (i := 645) (by decide +kernel), List.mem_of_getElem? (i := 837) (by decide +kernel), List.mem_of_getElem? (i := 838) (by decide +kernel)⟩
theorem lw_p29 : lw_okq (⟨"GrantServerModel", "activeTokens", "()I"⟩, 31) := ⟨⟨by decide +kernel, by decide +kernel⟩, List.mem_of_getElem? (i := 645) (by decide +kernel), List.mem_of_getElem? (i := 845) (by decide +kernel), List.mem_of_getElem? (i := 846) (by decide +kernel)⟩
theorem lw_p30 : lw_okq (⟨"GrantServerModel", "isForm", "()Z"⟩, 31) := ⟨⟨by decide +kernel, by decide +kernel⟩, List.mem_of_getElem? (i := 645) (by decide +kernel), List.mem_of_getElem? (i := 893) (by decide +kernel), List.mem_of_getElem? (i := 894) (by decide +kernel)⟩
theorem lw_p31 : lw_okq (⟨"GrantServerModel", "isSealed", "()Z"⟩, 31) := ⟨⟨by decide +kernel, by decide +kernel⟩, List.mem_of_getElem? (i := 645) (by decide +kernel), List.mem_of_getElem? (i := 900) (by decide +kernel), List.mem_of_getElem? (i := 901) (by decide +kernel)⟩
def lw_privs_2 : List (MethodName × Nat) := [(⟨"GrantServer$Shelf", "swap", "(II)V"⟩, 2), (⟨"GrantServerModel", "isClient", "(I)Z"⟩, 31), (⟨"GrantServerModel", "isFree", "(I)Z"⟩, 31), (⟨"GrantServerModel", "find", "(II)I"⟩, 31), (⟨"GrantServerModel", "room", "(I)I"⟩, 31), (⟨"GrantServerModel", "put", "(IIIIII)V"⟩, 31), (⟨"GrantServerModel", "grant", "(IIII)I"⟩, 31), (⟨"GrantServerModel", "say", "(II)V"⟩, 31), (⟨"GrantServerModel", "member", "(II)V"⟩, 31), (⟨"GrantServerModel", "sayNumber", "(I)V"⟩, 31), (⟨"GrantServerModel", "wrapPlain", "()V"⟩, 31), (⟨"GrantServerModel", "six", "(I)I"⟩, 31), (⟨"GrantServerModel", "isActive", "(I)Z"⟩, 31), (⟨"GrantServerModel", "activeTokens", "()I"⟩, 31), (⟨"GrantServerModel", "isForm", "()Z"⟩, 31), (⟨"GrantServerModel", "isSealed", "()Z"⟩, 31)]
theorem lw_r2 : ∀ q ∈ lw_privs_2, lw_okq q := List.forall_mem_cons.mpr ⟨lw_p16, List.forall_mem_cons.mpr ⟨lw_p17, List.forall_mem_cons.mpr ⟨lw_p18, List.forall_mem_cons.mpr ⟨lw_p19, List.forall_mem_cons.mpr ⟨lw_p20, List.forall_mem_cons.mpr ⟨lw_p21, List.forall_mem_cons.mpr ⟨lw_p22, List.forall_mem_cons.mpr ⟨lw_p23, List.forall_mem_cons.mpr ⟨lw_p24, List.forall_mem_cons.mpr ⟨lw_p25, List.forall_mem_cons.mpr ⟨lw_p26, List.forall_mem_cons.mpr ⟨lw_p27, List.forall_mem_cons.mpr ⟨lw_p28, List.forall_mem_cons.mpr ⟨lw_p29, List.forall_mem_cons.mpr ⟨lw_p30, List.forall_mem_cons.mpr ⟨lw_p31, fun _ h => absurd h List.not_mem_nil⟩⟩⟩⟩⟩⟩⟩⟩⟩⟩⟩⟩⟩⟩⟩⟩
theorem lw_p32 : lw_okq (⟨"GrantServerModel", "unwrap", "()V"⟩, 31) := ⟨⟨by decide +kernel, by decide +kernel⟩, List.mem_of_getElem? (i := 645) (by decide +kernel), List.mem_of_getElem? (i := 904) (by decide +kernel), List.mem_of_getElem? (i := 905) (by decide +kernel)⟩
theorem lw_p33 : lw_okq (⟨"GrantServerModel", "readClaims", "()Z"⟩, 31) := ⟨⟨by decide +kernel, by decide +kernel⟩, List.mem_of_getElem? (i := 645) (by decide +kernel), List.mem_of_getElem? (i := 908) (by decide +kernel), List.mem_of_getElem? (i := 909) (by decide +kernel)⟩
theorem lw_p34 : lw_okq (⟨"GrantServerModel", "reads", "(I)Z"⟩, 31) := ⟨⟨by decide +kernel, by decide +kernel⟩, List.mem_of_getElem? (i := 645) (by decide +kernel), List.mem_of_getElem? (i := 912) (by decide +kernel), List.mem_of_getElem? (i := 913) (by decide +kernel)⟩
theorem lw_p35 : lw_okq (⟨"GrantServerModel", "next", "()I"⟩, 31) := ⟨⟨by decide +kernel, by decide +kernel⟩, List.mem_of_getElem? (i := 645) (by decide +kernel), List.mem_of_getElem? (i := 916) (by decide +kernel), List.mem_of_getElem? (i := 917) (by decide +kernel)⟩
theorem lw_p36 : lw_okq (⟨"GrantServerModel", "readMember", "()Z"⟩, 31) := ⟨⟨by decide +kernel, by decide +kernel⟩, List.mem_of_getElem? (i := 645) (by decide +kernel), List.mem_of_getElem? (i := 920) (by decide +kernel), List.mem_of_getElem? (i := 921) (by decide +kernel)⟩
theorem lw_p37 : lw_okq (⟨"GrantServerModel", "readName", "()I"⟩, 31) := ⟨⟨by decide +kernel, by decide +kernel⟩, List.mem_of_getElem? (i := 645) (by decide +kernel), List.mem_of_getElem? (i := 924) (by decide +kernel), List.mem_of_getElem? (i := 925) (by decide +kernel)⟩
theorem lw_p38 : lw_okq (⟨"GrantServerModel", "readNumber", "()I"⟩, 31) := ⟨⟨by decide +kernel, by decide +kernel⟩, List.mem_of_getElem? (i := 645) (by decide +kernel), List.mem_of_getElem? (i := 928) (by decide +kernel), List.mem_of_getElem? (i := 929) (by decide +kernel)⟩
def lw_privs_3 : List (MethodName × Nat) := [(⟨"GrantServerModel", "unwrap", "()V"⟩, 31), (⟨"GrantServerModel", "readClaims", "()Z"⟩, 31), (⟨"GrantServerModel", "reads", "(I)Z"⟩, 31), (⟨"GrantServerModel", "next", "()I"⟩, 31), (⟨"GrantServerModel", "readMember", "()Z"⟩, 31), (⟨"GrantServerModel", "readName", "()I"⟩, 31), (⟨"GrantServerModel", "readNumber", "()I"⟩, 31)]
theorem lw_r3 : ∀ q ∈ lw_privs_3, lw_okq q := List.forall_mem_cons.mpr ⟨lw_p32, List.forall_mem_cons.mpr ⟨lw_p33, List.forall_mem_cons.mpr ⟨lw_p34, List.forall_mem_cons.mpr ⟨lw_p35, List.forall_mem_cons.mpr ⟨lw_p36, List.forall_mem_cons.mpr ⟨lw_p37, List.forall_mem_cons.mpr ⟨lw_p38, fun _ h => absurd h List.not_mem_nil⟩⟩⟩⟩⟩⟩⟩
def lw_privs : List (MethodName × Nat) := lw_privs_1 ++ (lw_privs_2 ++ (lw_privs_3))
def lw_tbl : List Cond := k2_sels lw_privs ++ tables_1
theorem lw_privs_ok : ∀ q ∈ lw_privs, lw_okq q := by
  show ∀ q ∈ lw_privs_1 ++ (lw_privs_2 ++ (lw_privs_3)), lw_okq q
  exact List.forall_mem_append.mpr ⟨lw_r1, List.forall_mem_append.mpr ⟨lw_r2, lw_r3⟩⟩
end
section
def R_GrantServer : String := "GrantServer"
def R_Client : String := "GrantServer$Client"
def R_Family : String := "GrantServer$Family"
def R_Grant : String := "GrantServer$Grant"
def R_Shelf : String := "GrantServer$Shelf"
def R_Text : String := "GrantServer$Text"
def R_Wrapping : String := "GrantServer$Wrapping"
def R_ClaimsReader : String := "GrantServer$ClaimsReader"
def R_GrantServerModel : String := "GrantServerModel"
def R_GrantServerLaw : String := "GrantServerLaw"
def F_GrantServer : u_T := fun k => match k with
  | 0 => ("GrantServer", "codeLife", "I", true)
  | 1 => ("GrantServer", "accessLife", "I", true)
  | 2 => ("GrantServer", "refreshLife", "I", true)
  | 3 => ("GrantServer", "clients", "[LGrantServer$Client;", true)
  | 4 => ("GrantServer", "codes", "LGrantServer$Shelf;", true)
  | 5 => ("GrantServer", "refreshTokens", "LGrantServer$Shelf;", true)
  | 6 => ("GrantServer", "accessTokens", "LGrantServer$Shelf;", true)
  | 7 => ("GrantServer", "input", "LGrantServer$Text;", true)
  | 8 => ("GrantServer", "output", "LGrantServer$Text;", true)
  | 9 => ("GrantServer", "plain", "LGrantServer$Text;", true)
  | 10 => ("GrantServer", "reader", "LGrantServer$ClaimsReader;", true)
  | 11 => ("GrantServer", "wrapping", "LGrantServer$Wrapping;", true)
  | 12 => ("GrantServer", "clientCount", "I", false)
  | 13 => ("GrantServer", "loggedIn", "I", false)
  | 14 => ("GrantServer", "accessTokensMade", "I", false)
  | _ => ("GrantServer", "time", "I", false)
def t_GrantServer : Nat → FieldType := fun k => match k with
  | 0 => .int
  | 1 => .int
  | 2 => .int
  | 3 => .array (.object "GrantServer$Client")
  | 4 => .object "GrantServer$Shelf"
  | 5 => .object "GrantServer$Shelf"
  | 6 => .object "GrantServer$Shelf"
  | 7 => .object "GrantServer$Text"
  | 8 => .object "GrantServer$Text"
  | 9 => .object "GrantServer$Text"
  | 10 => .object "GrantServer$ClaimsReader"
  | 11 => .object "GrantServer$Wrapping"
  | 12 => .int
  | 13 => .int
  | 14 => .int
  | _ => .int
def F_Client : u_T := fun k => match k with
  | 0 => ("GrantServer$Client", "secret", "I", true)
  | 1 => ("GrantServer$Client", "redirect", "I", true)
  | _ => ("GrantServer$Client", "scopes", "I", true)
def t_Client : Nat → FieldType := fun k => match k with
  | 0 => .int
  | 1 => .int
  | _ => .int
def F_Family : u_T := fun k => match k with
  | 0 => ("GrantServer$Family", "scopes", "I", true)
  | 1 => ("GrantServer$Family", "audience", "I", true)
  | _ => ("GrantServer$Family", "revoked", "Z", false)
def t_Family : Nat → FieldType := fun k => match k with
  | 0 => .int
  | 1 => .int
  | _ => .boolean
def F_Grant : u_T := fun k => match k with
  | 0 => ("GrantServer$Grant", "number", "I", false)
  | 1 => ("GrantServer$Grant", "owner", "I", false)
  | 2 => ("GrantServer$Grant", "scopes", "I", false)
  | 3 => ("GrantServer$Grant", "end", "I", false)
  | 4 => ("GrantServer$Grant", "redirect", "I", false)
  | 5 => ("GrantServer$Grant", "challenge", "I", false)
  | 6 => ("GrantServer$Grant", "spent", "Z", false)
  | 7 => ("GrantServer$Grant", "revoked", "Z", false)
  | _ => ("GrantServer$Grant", "family", "LGrantServer$Family;", false)
def t_Grant : Nat → FieldType := fun k => match k with
  | 0 => .int
  | 1 => .int
  | 2 => .int
  | 3 => .int
  | 4 => .int
  | 5 => .int
  | 6 => .boolean
  | 7 => .boolean
  | _ => .object "GrantServer$Family"
def F_Shelf : u_T := fun k => match k with
  | 0 => ("GrantServer$Shelf", "grants", "[LGrantServer$Grant;", true)
  | _ => ("GrantServer$Shelf", "used", "I", false)
def t_Shelf : Nat → FieldType := fun k => match k with
  | 0 => .array (.object "GrantServer$Grant")
  | _ => .int
def F_Text : u_T := fun k => match k with
  | 0 => ("GrantServer$Text", "chars", "[C", true)
  | _ => ("GrantServer$Text", "length", "I", false)
def t_Text : Nat → FieldType := fun k => match k with
  | 0 => .array .char
  | _ => .int
def F_Wrapping : u_T := fun k => match k with
  | _ => ("GrantServer$Wrapping", "sealKey", "I", true)
def t_Wrapping : Nat → FieldType := fun k => match k with
  | _ => .int
def F_ClaimsReader : u_T := fun k => match k with
  | 0 => ("GrantServer$ClaimsReader", "values", "[I", true)
  | 1 => ("GrantServer$ClaimsReader", "seen", "[Z", true)
  | _ => ("GrantServer$ClaimsReader", "at", "I", false)
def t_ClaimsReader : Nat → FieldType := fun k => match k with
  | 0 => .array .int
  | 1 => .array .boolean
  | _ => .int
def F_GrantServerModel : u_T := fun k => match k with
  | 0 => ("GrantServerModel", "sealKey", "J", true)
  | 1 => ("GrantServerModel", "codeLife", "I", true)
  | 2 => ("GrantServerModel", "accessLife", "I", true)
  | 3 => ("GrantServerModel", "refreshLife", "I", true)
  | 4 => ("GrantServerModel", "now", "I", false)
  | 5 => ("GrantServerModel", "secrets", "[I", true)
  | 6 => ("GrantServerModel", "redirects", "[I", true)
  | 7 => ("GrantServerModel", "allowed", "[I", true)
  | 8 => ("GrantServerModel", "clients", "I", false)
  | 9 => ("GrantServerModel", "user", "I", false)
  | 10 => ("GrantServerModel", "number", "[I", true)
  | 11 => ("GrantServerModel", "owner", "[I", true)
  | 12 => ("GrantServerModel", "scopesOf", "[I", true)
  | 13 => ("GrantServerModel", "end", "[I", true)
  | 14 => ("GrantServerModel", "over", "[Z", true)
  | 15 => ("GrantServerModel", "family", "[I", true)
  | 16 => ("GrantServerModel", "codeRedirect", "[I", true)
  | 17 => ("GrantServerModel", "codeChallenge", "[I", true)
  | 18 => ("GrantServerModel", "made", "I", false)
  | 19 => ("GrantServerModel", "familyScopes", "[I", true)
  | 20 => ("GrantServerModel", "familyAudience", "[I", true)
  | 21 => ("GrantServerModel", "revoked", "[Z", true)
  | 22 => ("GrantServerModel", "families", "I", false)
  | 23 => ("GrantServerModel", "input", "[I", true)
  | 24 => ("GrantServerModel", "inputs", "I", false)
  | 25 => ("GrantServerModel", "output", "[I", true)
  | 26 => ("GrantServerModel", "outputs", "I", false)
  | 27 => ("GrantServerModel", "plain", "[I", true)
  | 28 => ("GrantServerModel", "plains", "I", false)
  | 29 => ("GrantServerModel", "at", "I", false)
  | _ => ("GrantServerModel", "claim", "[I", true)
def t_GrantServerModel : Nat → FieldType := fun k => match k with
  | 0 => .long
  | 1 => .int
  | 2 => .int
  | 3 => .int
  | 4 => .int
  | 5 => .array .int
  | 6 => .array .int
  | 7 => .array .int
  | 8 => .int
  | 9 => .int
  | 10 => .array .int
  | 11 => .array .int
  | 12 => .array .int
  | 13 => .array .int
  | 14 => .array .boolean
  | 15 => .array .int
  | 16 => .array .int
  | 17 => .array .int
  | 18 => .int
  | 19 => .array .int
  | 20 => .array .int
  | 21 => .array .boolean
  | 22 => .int
  | 23 => .array .int
  | 24 => .int
  | 25 => .array .int
  | 26 => .int
  | 27 => .array .int
  | 28 => .int
  | 29 => .int
  | _ => .array .int
abbrev vwCl : List vw_C := [(R_GrantServer, F_GrantServer, 16), (R_Client, F_Client, 3), (R_Family, F_Family, 3), (R_Grant, F_Grant, 9), (R_Shelf, F_Shelf, 2), (R_Text, F_Text, 2), (R_Wrapping, F_Wrapping, 1), (R_ClaimsReader, F_ClaimsReader, 3), (R_GrantServerModel, F_GrantServerModel, 31)]
abbrev tyL (k : Nat → ClassId) : List (ClassId × FieldType) := [(k 0, .int), (k 1, .boolean), (k 2, .char), (k 3, .object "GrantServer$Grant"), (k 4, .object "GrantServer$Client")]
abbrev b_GrantServer_init : ByteArray := prog_1_method_1_code
def y_GrantServer_init : MethodName := ⟨R_GrantServer, "<init>", "(IIII)V"⟩
abbrev b_GrantServer_client : ByteArray := prog_1_method_2_code
def y_GrantServer_client : MethodName := ⟨R_GrantServer, "client", "(III)I"⟩
abbrev b_GrantServer_login : ByteArray := prog_1_method_3_code
def y_GrantServer_login : MethodName := ⟨R_GrantServer, "login", "(II)Z"⟩
abbrev b_GrantServer_authorize : ByteArray := prog_1_method_4_code
def y_GrantServer_authorize : MethodName := ⟨R_GrantServer, "authorize", "(IIIII)I"⟩
abbrev b_GrantServer_exchange : ByteArray := prog_1_method_5_code
def y_GrantServer_exchange : MethodName := ⟨R_GrantServer, "exchange", "(IIII)I"⟩
abbrev b_GrantServer_refresh : ByteArray := prog_1_method_6_code
def y_GrantServer_refresh : MethodName := ⟨R_GrantServer, "refresh", "(III)I"⟩
abbrev b_GrantServer_revoke : ByteArray := prog_1_method_7_code
def y_GrantServer_revoke : MethodName := ⟨R_GrantServer, "revoke", "(II)I"⟩
abbrev b_GrantServer_active : ByteArray := prog_1_method_8_code
def y_GrantServer_active : MethodName := ⟨R_GrantServer, "active", "(II)Z"⟩
abbrev b_GrantServer_check : ByteArray := prog_1_method_9_code
def y_GrantServer_check : MethodName := ⟨R_GrantServer, "check", "(II)I"⟩
abbrev b_GrantServer_key : ByteArray := prog_1_method_10_code
def y_GrantServer_key : MethodName := ⟨R_GrantServer, "key", "(C)Z"⟩
abbrev b_GrantServer_alter : ByteArray := prog_1_method_11_code
def y_GrantServer_alter : MethodName := ⟨R_GrantServer, "alter", "(IC)Z"⟩
abbrev b_GrantServer_take : ByteArray := prog_1_method_12_code
def y_GrantServer_take : MethodName := ⟨R_GrantServer, "take", "(Z)I"⟩
abbrev b_GrantServer_letter : ByteArray := prog_1_method_13_code
def y_GrantServer_letter : MethodName := ⟨R_GrantServer, "letter", "(ZI)I"⟩
abbrev b_GrantServer_challenge : ByteArray := prog_1_method_14_code
def y_GrantServer_challenge : MethodName := ⟨R_GrantServer, "challenge", "()I"⟩
abbrev b_GrantServer_wrap : ByteArray := prog_1_method_15_code
def y_GrantServer_wrap : MethodName := ⟨R_GrantServer, "wrap", "()I"⟩
abbrev b_GrantServer_tick : ByteArray := prog_1_method_16_code
def y_GrantServer_tick : MethodName := ⟨R_GrantServer, "tick", "(I)Z"⟩
abbrev b_GrantServer_sweep : ByteArray := prog_1_method_17_code
def y_GrantServer_sweep : MethodName := ⟨R_GrantServer, "sweep", "()I"⟩
abbrev b_GrantServer_count : ByteArray := prog_1_method_18_code
def y_GrantServer_count : MethodName := ⟨R_GrantServer, "count", "(IZ)I"⟩
abbrev b_GrantServer_keptLife : ByteArray := prog_1_method_19_code
def y_GrantServer_keptLife : MethodName := ⟨R_GrantServer, "keptLife", "(I)I"⟩
abbrev b_GrantServer_isSomeScopes : ByteArray := prog_1_method_20_code
def y_GrantServer_isSomeScopes : MethodName := ⟨R_GrantServer, "isSomeScopes", "(I)Z"⟩
abbrev b_GrantServer_isWithin : ByteArray := prog_1_method_21_code
def y_GrantServer_isWithin : MethodName := ⟨R_GrantServer, "isWithin", "(II)Z"⟩
abbrev b_GrantServer_isWritable : ByteArray := prog_1_method_22_code
def y_GrantServer_isWritable : MethodName := ⟨R_GrantServer, "isWritable", "(C)Z"⟩
abbrev b_GrantServer_clientWith : ByteArray := prog_1_method_23_code
def y_GrantServer_clientWith : MethodName := ⟨R_GrantServer, "clientWith", "(I)LGrantServer$Client;"⟩
abbrev b_GrantServer_shelfOf : ByteArray := prog_1_method_24_code
def y_GrantServer_shelfOf : MethodName := ⟨R_GrantServer, "shelfOf", "(I)LGrantServer$Shelf;"⟩
abbrev b_GrantServer_isFree : ByteArray := prog_1_method_25_code
def y_GrantServer_isFree : MethodName := ⟨R_GrantServer, "isFree", "(I)Z"⟩
abbrev b_GrantServer_refusalOfNewTokens : ByteArray := prog_1_method_26_code
def y_GrantServer_refusalOfNewTokens : MethodName := ⟨R_GrantServer, "refusalOfNewTokens", "(I)I"⟩
abbrev b_GrantServer_giveTokens : ByteArray := prog_1_method_27_code
def y_GrantServer_giveTokens : MethodName := ⟨R_GrantServer, "giveTokens", "(LGrantServer$Family;III)I"⟩
abbrev b_GrantServer_writeClaims : ByteArray := prog_1_method_28_code
def y_GrantServer_writeClaims : MethodName := ⟨R_GrantServer, "writeClaims", "(LGrantServer$Grant;I)V"⟩
abbrev b_GrantServer_judgeClaims : ByteArray := prog_1_method_29_code
def y_GrantServer_judgeClaims : MethodName := ⟨R_GrantServer, "judgeClaims", "(II)I"⟩
abbrev b_GrantServer_activeTokens : ByteArray := prog_1_method_30_code
def y_GrantServer_activeTokens : MethodName := ⟨R_GrantServer, "activeTokens", "()I"⟩
abbrev b_GrantServer_revokeFamilyOf : ByteArray := prog_1_method_31_code
def y_GrantServer_revokeFamilyOf : MethodName := ⟨R_GrantServer, "revokeFamilyOf", "(LGrantServer$Grant;)V"⟩
abbrev b_GrantServer_revokeAlone : ByteArray := prog_1_method_32_code
def y_GrantServer_revokeAlone : MethodName := ⟨R_GrantServer, "revokeAlone", "(LGrantServer$Grant;)V"⟩
abbrev b_Client_init : ByteArray := prog_3_method_1_code
def y_Client_init : MethodName := ⟨R_Client, "<init>", "(III)V"⟩
abbrev b_Family_init : ByteArray := prog_4_method_1_code
def y_Family_init : MethodName := ⟨R_Family, "<init>", "(II)V"⟩
abbrev b_Grant_init : ByteArray := prog_5_method_1_code
def y_Grant_init : MethodName := ⟨R_Grant, "<init>", "()V"⟩
abbrev b_Grant_begin : ByteArray := prog_5_method_2_code
def y_Grant_begin : MethodName := ⟨R_Grant, "begin", "(IIIILGrantServer$Family;)V"⟩
abbrev b_Grant_isActive : ByteArray := prog_5_method_3_code
def y_Grant_isActive : MethodName := ⟨R_Grant, "isActive", "(I)Z"⟩
abbrev b_Grant_revokeFamily : ByteArray := prog_5_method_4_code
def y_Grant_revokeFamily : MethodName := ⟨R_Grant, "revokeFamily", "()V"⟩
abbrev b_Shelf_init : ByteArray := prog_6_method_1_code
def y_Shelf_init : MethodName := ⟨R_Shelf, "<init>", "(I)V"⟩
abbrev b_Shelf_rows : ByteArray := prog_6_method_2_code
def y_Shelf_rows : MethodName := ⟨R_Shelf, "rows", "()I"⟩
abbrev b_Shelf_isFull : ByteArray := prog_6_method_3_code
def y_Shelf_isFull : MethodName := ⟨R_Shelf, "isFull", "()Z"⟩
abbrev b_Shelf_nextRow : ByteArray := prog_6_method_4_code
def y_Shelf_nextRow : MethodName := ⟨R_Shelf, "nextRow", "()LGrantServer$Grant;"⟩
abbrev b_Shelf_find : ByteArray := prog_6_method_5_code
def y_Shelf_find : MethodName := ⟨R_Shelf, "find", "(I)LGrantServer$Grant;"⟩
abbrev b_Shelf_findOwned : ByteArray := prog_6_method_6_code
def y_Shelf_findOwned : MethodName := ⟨R_Shelf, "findOwned", "(II)LGrantServer$Grant;"⟩
abbrev b_Shelf_hasActive : ByteArray := prog_6_method_7_code
def y_Shelf_hasActive : MethodName := ⟨R_Shelf, "hasActive", "(II)Z"⟩
abbrev b_Shelf_activeRows : ByteArray := prog_6_method_8_code
def y_Shelf_activeRows : MethodName := ⟨R_Shelf, "activeRows", "(I)I"⟩
abbrev b_Shelf_dropEnded : ByteArray := prog_6_method_9_code
def y_Shelf_dropEnded : MethodName := ⟨R_Shelf, "dropEnded", "(I)I"⟩
abbrev b_Shelf_swap : ByteArray := prog_6_method_10_code
def y_Shelf_swap : MethodName := ⟨R_Shelf, "swap", "(II)V"⟩
abbrev b_Text_init : ByteArray := prog_7_method_1_code
def y_Text_init : MethodName := ⟨R_Text, "<init>", "()V"⟩
abbrev b_Text_size : ByteArray := prog_7_method_2_code
def y_Text_size : MethodName := ⟨R_Text, "size", "()I"⟩
abbrev b_Text_codeAt : ByteArray := prog_7_method_3_code
def y_Text_codeAt : MethodName := ⟨R_Text, "codeAt", "(I)I"⟩
abbrev b_Text_clear : ByteArray := prog_7_method_4_code
def y_Text_clear : MethodName := ⟨R_Text, "clear", "()V"⟩
abbrev b_Text_add : ByteArray := prog_7_method_5_code
def y_Text_add : MethodName := ⟨R_Text, "add", "(C)Z"⟩
abbrev b_Text_put : ByteArray := prog_7_method_6_code
def y_Text_put : MethodName := ⟨R_Text, "put", "(IC)Z"⟩
abbrev b_Text_copyFrom : ByteArray := prog_7_method_7_code
def y_Text_copyFrom : MethodName := ⟨R_Text, "copyFrom", "(LGrantServer$Text;)V"⟩
abbrev b_Text_addText : ByteArray := prog_7_method_8_code
def y_Text_addText : MethodName := ⟨R_Text, "addText", "(Ljava/lang/String;)V"⟩
abbrev b_Text_addNumber : ByteArray := prog_7_method_9_code
def y_Text_addNumber : MethodName := ⟨R_Text, "addNumber", "(I)V"⟩
abbrev b_Text_hash : ByteArray := prog_7_method_10_code
def y_Text_hash : MethodName := ⟨R_Text, "hash", "()I"⟩
abbrev b_Wrapping_init : ByteArray := prog_8_method_1_code
def y_Wrapping_init : MethodName := ⟨R_Wrapping, "<init>", "(I)V"⟩
abbrev b_Wrapping_sizeOfWrapped : ByteArray := prog_8_method_2_code
def y_Wrapping_sizeOfWrapped : MethodName := ⟨R_Wrapping, "sizeOfWrapped", "(LGrantServer$Text;)I"⟩
abbrev b_Wrapping_wrapInto : ByteArray := prog_8_method_3_code
def y_Wrapping_wrapInto : MethodName := ⟨R_Wrapping, "wrapInto", "(LGrantServer$Text;LGrantServer$Text;)V"⟩
abbrev b_Wrapping_hasForm : ByteArray := prog_8_method_4_code
def y_Wrapping_hasForm : MethodName := ⟨R_Wrapping, "hasForm", "(LGrantServer$Text;)Z"⟩
abbrev b_Wrapping_hasSeal : ByteArray := prog_8_method_5_code
def y_Wrapping_hasSeal : MethodName := ⟨R_Wrapping, "hasSeal", "(LGrantServer$Text;)Z"⟩
abbrev b_Wrapping_unwrapInto : ByteArray := prog_8_method_6_code
def y_Wrapping_unwrapInto : MethodName := ⟨R_Wrapping, "unwrapInto", "(LGrantServer$Text;LGrantServer$Text;)V"⟩
abbrev b_Wrapping_signsFor : ByteArray := prog_8_method_7_code
def y_Wrapping_signsFor : MethodName := ⟨R_Wrapping, "signsFor", "(LGrantServer$Text;)I"⟩
abbrev b_Wrapping_sixBits : ByteArray := prog_8_method_8_code
def y_Wrapping_sixBits : MethodName := ⟨R_Wrapping, "sixBits", "(LGrantServer$Text;I)I"⟩
abbrev b_Wrapping_eightBits : ByteArray := prog_8_method_9_code
def y_Wrapping_eightBits : MethodName := ⟨R_Wrapping, "eightBits", "(LGrantServer$Text;I)I"⟩
abbrev b_Wrapping_signValue : ByteArray := prog_8_method_10_code
def y_Wrapping_signValue : MethodName := ⟨R_Wrapping, "signValue", "(LGrantServer$Text;I)I"⟩
abbrev b_Wrapping_sealOf : ByteArray := prog_8_method_11_code
def y_Wrapping_sealOf : MethodName := ⟨R_Wrapping, "sealOf", "(LGrantServer$Text;I)J"⟩
abbrev b_Wrapping_sealSign : ByteArray := prog_8_method_12_code
def y_Wrapping_sealSign : MethodName := ⟨R_Wrapping, "sealSign", "(JI)C"⟩
abbrev b_ClaimsReader_init : ByteArray := prog_2_method_1_code
def y_ClaimsReader_init : MethodName := ⟨R_ClaimsReader, "<init>", "()V"⟩
abbrev b_ClaimsReader_value : ByteArray := prog_2_method_2_code
def y_ClaimsReader_value : MethodName := ⟨R_ClaimsReader, "value", "(I)I"⟩
abbrev b_ClaimsReader_reads : ByteArray := prog_2_method_3_code
def y_ClaimsReader_reads : MethodName := ⟨R_ClaimsReader, "reads", "(LGrantServer$Text;)Z"⟩
abbrev b_ClaimsReader_begin : ByteArray := prog_2_method_4_code
def y_ClaimsReader_begin : MethodName := ⟨R_ClaimsReader, "begin", "()V"⟩
abbrev b_ClaimsReader_readsMember : ByteArray := prog_2_method_5_code
def y_ClaimsReader_readsMember : MethodName := ⟨R_ClaimsReader, "readsMember", "(LGrantServer$Text;)Z"⟩
abbrev b_ClaimsReader_readsMark : ByteArray := prog_2_method_6_code
def y_ClaimsReader_readsMark : MethodName := ⟨R_ClaimsReader, "readsMark", "(LGrantServer$Text;C)Z"⟩
abbrev b_ClaimsReader_readName : ByteArray := prog_2_method_7_code
def y_ClaimsReader_readName : MethodName := ⟨R_ClaimsReader, "readName", "(LGrantServer$Text;)I"⟩
abbrev b_ClaimsReader_standsHere : ByteArray := prog_2_method_8_code
def y_ClaimsReader_standsHere : MethodName := ⟨R_ClaimsReader, "standsHere", "(LGrantServer$Text;Ljava/lang/String;)Z"⟩
abbrev b_ClaimsReader_readNumber : ByteArray := prog_2_method_9_code
def y_ClaimsReader_readNumber : MethodName := ⟨R_ClaimsReader, "readNumber", "(LGrantServer$Text;)I"⟩
abbrev b_ClaimsReader_skipSpaces : ByteArray := prog_2_method_10_code
def y_ClaimsReader_skipSpaces : MethodName := ⟨R_ClaimsReader, "skipSpaces", "(LGrantServer$Text;)V"⟩
abbrev b_ClaimsReader_isDigit : ByteArray := prog_2_method_11_code
def y_ClaimsReader_isDigit : MethodName := ⟨R_ClaimsReader, "isDigit", "(I)Z"⟩
abbrev b_ClaimsReader_quotedName : ByteArray := prog_2_method_12_code
def y_ClaimsReader_quotedName : MethodName := ⟨R_ClaimsReader, "quotedName", "(I)Ljava/lang/String;"⟩
abbrev b_GrantServerModel_init : ByteArray := prog_10_method_1_code
def y_GrantServerModel_init : MethodName := ⟨R_GrantServerModel, "<init>", "(IIII)V"⟩
abbrev b_GrantServerModel_within : ByteArray := prog_10_method_2_code
def y_GrantServerModel_within : MethodName := ⟨R_GrantServerModel, "within", "(I)I"⟩
abbrev b_GrantServerModel_client : ByteArray := prog_10_method_3_code
def y_GrantServerModel_client : MethodName := ⟨R_GrantServerModel, "client", "(III)I"⟩
abbrev b_GrantServerModel_isClient : ByteArray := prog_10_method_4_code
def y_GrantServerModel_isClient : MethodName := ⟨R_GrantServerModel, "isClient", "(I)Z"⟩
abbrev b_GrantServerModel_login : ByteArray := prog_10_method_5_code
def y_GrantServerModel_login : MethodName := ⟨R_GrantServerModel, "login", "(II)Z"⟩
abbrev b_GrantServerModel_from : ByteArray := prog_10_method_6_code
def y_GrantServerModel_from : MethodName := ⟨R_GrantServerModel, "from", "(I)I"⟩
abbrev b_GrantServerModel_to : ByteArray := prog_10_method_7_code
def y_GrantServerModel_to : MethodName := ⟨R_GrantServerModel, "to", "(I)I"⟩
abbrev b_GrantServerModel_find : ByteArray := prog_10_method_8_code
def y_GrantServerModel_find : MethodName := ⟨R_GrantServerModel, "find", "(II)I"⟩
abbrev b_GrantServerModel_room : ByteArray := prog_10_method_9_code
def y_GrantServerModel_room : MethodName := ⟨R_GrantServerModel, "room", "(I)I"⟩
abbrev b_GrantServerModel_isFree : ByteArray := prog_10_method_10_code
def y_GrantServerModel_isFree : MethodName := ⟨R_GrantServerModel, "isFree", "(I)Z"⟩
abbrev b_GrantServerModel_isActive : ByteArray := prog_10_method_11_code
def y_GrantServerModel_isActive : MethodName := ⟨R_GrantServerModel, "isActive", "(I)Z"⟩
abbrev b_GrantServerModel_put : ByteArray := prog_10_method_12_code
def y_GrantServerModel_put : MethodName := ⟨R_GrantServerModel, "put", "(IIIIII)V"⟩
abbrev b_GrantServerModel_authorize : ByteArray := prog_10_method_13_code
def y_GrantServerModel_authorize : MethodName := ⟨R_GrantServerModel, "authorize", "(IIIII)I"⟩
abbrev b_GrantServerModel_grant : ByteArray := prog_10_method_14_code
def y_GrantServerModel_grant : MethodName := ⟨R_GrantServerModel, "grant", "(IIII)I"⟩
abbrev b_GrantServerModel_exchange : ByteArray := prog_10_method_15_code
def y_GrantServerModel_exchange : MethodName := ⟨R_GrantServerModel, "exchange", "(IIII)I"⟩
abbrev b_GrantServerModel_refresh : ByteArray := prog_10_method_16_code
def y_GrantServerModel_refresh : MethodName := ⟨R_GrantServerModel, "refresh", "(III)I"⟩
abbrev b_GrantServerModel_activeTokens : ByteArray := prog_10_method_17_code
def y_GrantServerModel_activeTokens : MethodName := ⟨R_GrantServerModel, "activeTokens", "()I"⟩
abbrev b_GrantServerModel_revoke : ByteArray := prog_10_method_18_code
def y_GrantServerModel_revoke : MethodName := ⟨R_GrantServerModel, "revoke", "(II)I"⟩
abbrev b_GrantServerModel_active : ByteArray := prog_10_method_19_code
def y_GrantServerModel_active : MethodName := ⟨R_GrantServerModel, "active", "(II)Z"⟩
abbrev b_GrantServerModel_sweep : ByteArray := prog_10_method_20_code
def y_GrantServerModel_sweep : MethodName := ⟨R_GrantServerModel, "sweep", "()I"⟩
abbrev b_GrantServerModel_count : ByteArray := prog_10_method_21_code
def y_GrantServerModel_count : MethodName := ⟨R_GrantServerModel, "count", "(IZ)I"⟩
abbrev b_GrantServerModel_tick : ByteArray := prog_10_method_22_code
def y_GrantServerModel_tick : MethodName := ⟨R_GrantServerModel, "tick", "(I)Z"⟩
abbrev b_GrantServerModel_say : ByteArray := prog_10_method_23_code
def y_GrantServerModel_say : MethodName := ⟨R_GrantServerModel, "say", "(II)V"⟩
abbrev b_GrantServerModel_sayNumber : ByteArray := prog_10_method_24_code
def y_GrantServerModel_sayNumber : MethodName := ⟨R_GrantServerModel, "sayNumber", "(I)V"⟩
abbrev b_GrantServerModel_nameAt : ByteArray := prog_10_method_25_code
def y_GrantServerModel_nameAt : MethodName := ⟨R_GrantServerModel, "nameAt", "(II)I"⟩
abbrev b_GrantServerModel_member : ByteArray := prog_10_method_26_code
def y_GrantServerModel_member : MethodName := ⟨R_GrantServerModel, "member", "(II)V"⟩
abbrev b_GrantServerModel_sign : ByteArray := prog_10_method_27_code
def y_GrantServerModel_sign : MethodName := ⟨R_GrantServerModel, "sign", "(I)I"⟩
abbrev b_GrantServerModel_signValue : ByteArray := prog_10_method_28_code
def y_GrantServerModel_signValue : MethodName := ⟨R_GrantServerModel, "signValue", "(I)I"⟩
abbrev b_GrantServerModel_mixed : ByteArray := prog_10_method_29_code
def y_GrantServerModel_mixed : MethodName := ⟨R_GrantServerModel, "mixed", "(JI)J"⟩
abbrev b_GrantServerModel_six : ByteArray := prog_10_method_30_code
def y_GrantServerModel_six : MethodName := ⟨R_GrantServerModel, "six", "(I)I"⟩
abbrev b_GrantServerModel_wrapPlain : ByteArray := prog_10_method_31_code
def y_GrantServerModel_wrapPlain : MethodName := ⟨R_GrantServerModel, "wrapPlain", "()V"⟩
abbrev b_GrantServerModel_wrap : ByteArray := prog_10_method_32_code
def y_GrantServerModel_wrap : MethodName := ⟨R_GrantServerModel, "wrap", "()I"⟩
abbrev b_GrantServerModel_isText : ByteArray := prog_10_method_33_code
def y_GrantServerModel_isText : MethodName := ⟨R_GrantServerModel, "isText", "(I)Z"⟩
abbrev b_GrantServerModel_key : ByteArray := prog_10_method_34_code
def y_GrantServerModel_key : MethodName := ⟨R_GrantServerModel, "key", "(C)Z"⟩
abbrev b_GrantServerModel_alter : ByteArray := prog_10_method_35_code
def y_GrantServerModel_alter : MethodName := ⟨R_GrantServerModel, "alter", "(IC)Z"⟩
abbrev b_GrantServerModel_take : ByteArray := prog_10_method_36_code
def y_GrantServerModel_take : MethodName := ⟨R_GrantServerModel, "take", "(Z)I"⟩
abbrev b_GrantServerModel_letter : ByteArray := prog_10_method_37_code
def y_GrantServerModel_letter : MethodName := ⟨R_GrantServerModel, "letter", "(ZI)I"⟩
abbrev b_GrantServerModel_challenge : ByteArray := prog_10_method_38_code
def y_GrantServerModel_challenge : MethodName := ⟨R_GrantServerModel, "challenge", "()I"⟩
abbrev b_GrantServerModel_isForm : ByteArray := prog_10_method_39_code
def y_GrantServerModel_isForm : MethodName := ⟨R_GrantServerModel, "isForm", "()Z"⟩
abbrev b_GrantServerModel_isSealed : ByteArray := prog_10_method_40_code
def y_GrantServerModel_isSealed : MethodName := ⟨R_GrantServerModel, "isSealed", "()Z"⟩
abbrev b_GrantServerModel_unwrap : ByteArray := prog_10_method_41_code
def y_GrantServerModel_unwrap : MethodName := ⟨R_GrantServerModel, "unwrap", "()V"⟩
abbrev b_GrantServerModel_next : ByteArray := prog_10_method_42_code
def y_GrantServerModel_next : MethodName := ⟨R_GrantServerModel, "next", "()I"⟩
abbrev b_GrantServerModel_reads : ByteArray := prog_10_method_43_code
def y_GrantServerModel_reads : MethodName := ⟨R_GrantServerModel, "reads", "(I)Z"⟩
abbrev b_GrantServerModel_readName : ByteArray := prog_10_method_44_code
def y_GrantServerModel_readName : MethodName := ⟨R_GrantServerModel, "readName", "()I"⟩
abbrev b_GrantServerModel_readNumber : ByteArray := prog_10_method_45_code
def y_GrantServerModel_readNumber : MethodName := ⟨R_GrantServerModel, "readNumber", "()I"⟩
abbrev b_GrantServerModel_readMember : ByteArray := prog_10_method_46_code
def y_GrantServerModel_readMember : MethodName := ⟨R_GrantServerModel, "readMember", "()Z"⟩
abbrev b_GrantServerModel_readClaims : ByteArray := prog_10_method_47_code
def y_GrantServerModel_readClaims : MethodName := ⟨R_GrantServerModel, "readClaims", "()Z"⟩
abbrev b_GrantServerModel_check : ByteArray := prog_10_method_48_code
def y_GrantServerModel_check : MethodName := ⟨R_GrantServerModel, "check", "(II)I"⟩
abbrev b_GrantServerLaw_cell : ByteArray := method_2_code
def y_GrantServerLaw_cell : MethodName := ⟨R_GrantServerLaw, "cell", "([II)I"⟩
/-- the words that every method gets: the tables' good ones -/
def TB : List Cond := lw_tbl.filter goodWord
theorem TB_good {w : Cond} (h : w ∈ TB) : goodWord w = true := (List.mem_filter.mp h).2
theorem TBm {w : Cond} (i : Nat) (h : lw_tbl[i]? = some w) (g : goodWord w = true) : w ∈ TB := List.mem_filter.mpr ⟨List.mem_of_getElem? h, g⟩
theorem TBs {ws : List Cond} (ps : List Nat) (h : ws = ps.filterMap (fun i => lw_tbl[i]?)) (g : ws.all goodWord = true) : ∀ w ∈ ws, w ∈ TB := by
  intro w hw
  have h1 := List.all_eq_true.mp g w hw
  rw [h] at hw
  obtain ⟨i, -, hi⟩ := List.mem_filterMap.mp hw
  exact TBm i hi h1
theorem hm_gd {ws : List Cond} (h : ∀ w ∈ ws, w ∈ TB) : GoodIn TB ws := fun w hw => ⟨h w hw, good_of_word (TB_good (h w hw))⟩
/-- a method as its callers need it -/
def hm_me (y : MethodName) (bytes : ByteArray) (maxL : Nat) (ret : Option FieldType) (n : Nat) : Prop := Cond.code y bytes maxL ret ∈ TB ∧ Cond.initialized y.cls ∈ TB ∧ (y.cls ≠ "java/lang/invoke/MethodHandle" ∧ y.cls ≠ "java/lang/invoke/VarHandle" ∧ (parseMethodDescriptor y.desc).map (fun d => d.parameters.length) = some n)
def hm_meV (y : MethodName) (bytes : ByteArray) (maxL : Nat) (ret : Option FieldType) (n : Nat) : Prop := hm_me y bytes maxL ret n ∧ Cond.instanceMethod y ∈ TB ∧ Cond.selects y.cls y y ∈ TB
def hm_meS (y : MethodName) (bytes : ByteArray) (maxL : Nat) (ret : Option FieldType) (n : Nat) : Prop := hm_me y bytes maxL ret n ∧ Cond.static y ∈ TB
def hm_meI (y : MethodName) (bytes : ByteArray) (maxL : Nat) (n : Nat) : Prop := hm_me y bytes maxL none n ∧ Cond.instanceMethod y ∈ TB ∧ y.name = "<init>"
section HMW
variable {R : Room} {s : State} {args : Array Value} {own : String} {idx maxL mc ms n : Nat} {y : MethodName} {bytes : ByteArray} {ret : Option FieldType} {rm : Room}
theorem hm_cwV (hts : ∀ w ∈ TB, w.before args s = true) (hm : hm_meV y bytes maxL ret n) (hl : Cond.methodLink own idx y ∈ TB) (hrc : rm.cells = mc) (hrs : rm.slots = ms) (hR : rm.frames + 1 ≤ R.frames ∧ 8 + (maxL + 11) + rm.locals ≤ R.locals) : CallW R s args own y.cls idx y bytes maxL ret (Cond.code y bytes maxL ret :: TB) rm mc ms n := by
  obtain ⟨⟨h1, h2, h3⟩, h4, h5⟩ := hm
  refine cwV n hts (hm_gd fun w hw => ?_) rfl hrc hrs ⟨rfl, h3⟩ hR
  unfold wsV at hw
  rcases List.mem_append.mp hw with h | h
  · simp only [List.mem_cons, List.not_mem_nil, or_false] at h
    rcases h with rfl | rfl | rfl | rfl
    · exact hl
    · exact h4
    · exact h5
    · exact h2
  · rcases List.mem_cons.mp h with rfl | h
    · exact h1
    · exact h
theorem hm_cwS (hts : ∀ w ∈ TB, w.before args s = true) (hm : hm_meS y bytes maxL ret n) (hl : Cond.methodLink y.cls idx y ∈ TB) (hrc : rm.cells = mc) (hrs : rm.slots = ms) (hR : rm.frames + 1 ≤ R.frames ∧ 8 + (maxL + 11) + rm.locals ≤ R.locals) : CallB R s args y.cls idx y bytes maxL ret (Cond.code y bytes maxL ret :: TB) rm mc ms n ∧ (Cond.static y).before args s = true := by
  obtain ⟨⟨h1, h2, h3⟩, h4⟩ := hm
  refine cwS n hts (hm_gd fun w hw => ?_) rfl hrc hrs ⟨rfl, h3⟩ hR
  unfold wsS at hw
  rcases List.mem_append.mp hw with h | h
  · simp only [List.mem_cons, List.not_mem_nil, or_false] at h
    rcases h with rfl | rfl | rfl
    · exact hl
    · exact h4
    · exact h2
  · rcases List.mem_cons.mp h with rfl | h
    · exact h1
    · exact h
theorem hm_cwI (hts : ∀ w ∈ TB, w.before args s = true) (hm : hm_meI y bytes maxL n) (hl : Cond.methodLink own idx y ∈ TB) (hrc : rm.cells = mc) (hrs : rm.slots = ms) (hR : rm.frames + 1 ≤ R.frames ∧ 8 + (maxL + 11) + rm.locals ≤ R.locals) : CallB R s args own idx y bytes maxL none (Cond.code y bytes maxL none :: TB) rm mc ms n ∧ y.name = "<init>" ∧ (Cond.instanceMethod y).before args s = true := by
  obtain ⟨⟨h1, h2, h3⟩, h4, h5⟩ := hm
  refine cwI n hts (hm_gd fun w hw => ?_) rfl hrc hrs (hts _ h2) (hts _ hl) (hts _ h4) h5 h3 hR
  rcases List.mem_cons.mp hw with rfl | h
  · exact h1
  · exact h
end HMW
set_option maxRecDepth 20000 in
theorem cl_GrantServer : hm_cl vwCl TB 0 R_GrantServer F_GrantServer 16 t_GrantServer := ⟨rfl, TBs [191, 193, 195, 197, 199, 201, 203, 205, 207, 209, 211, 213, 215, 217, 219, 221] (by decide +kernel) (by decide +kernel), by decide +kernel, by decide +kernel⟩
set_option maxRecDepth 20000 in
theorem cl_Client : hm_cl vwCl TB 1 R_Client F_Client 3 t_Client := ⟨rfl, TBs [242, 244, 246] (by decide +kernel) (by decide +kernel), by decide +kernel, by decide +kernel⟩
set_option maxRecDepth 20000 in
theorem cl_Family : hm_cl vwCl TB 2 R_Family F_Family 3 t_Family := ⟨rfl, TBs [326, 328, 330] (by decide +kernel) (by decide +kernel), by decide +kernel, by decide +kernel⟩
set_option maxRecDepth 20000 in
theorem cl_Grant : hm_cl vwCl TB 3 R_Grant F_Grant 9 t_Grant := ⟨rfl, TBs [98, 100, 102, 104, 106, 108, 110, 112, 114] (by decide +kernel) (by decide +kernel), by decide +kernel, by decide +kernel⟩
set_option maxRecDepth 20000 in
theorem cl_Shelf : hm_cl vwCl TB 4 R_Shelf F_Shelf 2 t_Shelf := ⟨rfl, TBs [119, 121] (by decide +kernel) (by decide +kernel), by decide +kernel, by decide +kernel⟩
set_option maxRecDepth 20000 in
theorem cl_Text : hm_cl vwCl TB 5 R_Text F_Text 2 t_Text := ⟨rfl, TBs [132, 134] (by decide +kernel) (by decide +kernel), by decide +kernel, by decide +kernel⟩
set_option maxRecDepth 20000 in
theorem cl_Wrapping : hm_cl vwCl TB 6 R_Wrapping F_Wrapping 1 t_Wrapping := ⟨rfl, TBs [163] (by decide +kernel) (by decide +kernel), by decide +kernel, by decide +kernel⟩
set_option maxRecDepth 20000 in
theorem cl_ClaimsReader : hm_cl vwCl TB 7 R_ClaimsReader F_ClaimsReader 3 t_ClaimsReader := ⟨rfl, TBs [147, 149, 151] (by decide +kernel) (by decide +kernel), by decide +kernel, by decide +kernel⟩
set_option maxRecDepth 20000 in
theorem cl_GrantServerModel : hm_cl vwCl TB 8 R_GrantServerModel F_GrantServerModel 31 t_GrantServerModel := ⟨rfl, TBs [723, 725, 727, 729, 731, 733, 735, 737, 739, 741, 743, 745, 747, 749, 751, 753, 755, 757, 759, 761, 763, 765, 767, 769, 771, 773, 775, 777, 779, 781, 783] (by decide +kernel) (by decide +kernel), by decide +kernel, by decide +kernel⟩
end
section
/-! The words for what small methods answer. -/
def z_some (x : Int32) : Int32 := if x < 1 ∨ 15 < x then 0 else 1
def z_within (x y : Int32) : Int32 := if x &&& (y ^^^ (-1)) = 0 then 1 else 0
def z_text (x : Int32) : Int32 := if x < 32 ∨ 126 < x then 0 else 1
def z_kept (x : Int32) : Int32 := if 1 < (if x < 1000 then x else 1000) then (if x < 1000 then x else 1000) else 1
def z_at (n : Nat) (x : Nat → Int32) (i : Int32) : Int32 := if i < 0 ∨ nI n ≤ i then -1 else x i.toNatClampNeg
theorem z_at_in {n j : Nat} {x : Nat → Int32} (hj : j < n) (hn : n < 2 ^ 31) : z_at n x (nI j) = x j := by
  have h1 : ¬ nI j < 0 := nI_pos (by omega)
  have h2 : ¬ nI n ≤ nI j := nI_ge hj hn
  simp [z_at, h1, h2, nI_clamp (show j < 2 ^ 31 by omega)]
theorem hm_ix {i : Int32} {n : Nat} (h1 : ¬ i < 0) (h2 : ¬ nI n ≤ i) (hn : n < 2 ^ 31) : ∃ j : Nat, j < n ∧ i = nI j := by
  rcases pk_ix i hn with h | h | h
  · exact absurd h h1
  · exact absurd h h2
  · exact h
def m_kept (x : Int32) : Int32 := if x < 1 then 1 else if 1000 < x then 1000 else x
def m_from (x : Int32) : Int32 := if x = 0 then 0 else if x = 1 then 16 else 40
def m_to (x : Int32) : Int32 := if x = 0 then 16 else if x = 1 then 40 else 64
def m_isC (n x : Int32) : Int32 := if x < 0 ∨ n ≤ x then 0 else 1
def m_tick (x : Int32) : Int32 := if x < 0 ∨ ¬ x ≤ 10000 then 0 else 1
def m_tickV (v : Nat → Int32) (x : Int32) : Nat → Int32 := if x < 0 ∨ ¬ x ≤ 10000 then v else upd v 4 (v 4 + x)
abbrev gr0 : List Value := [.int 0, .int 0, .int 0, .int 0, .int 0, .int 0, .int 0, .int 0, .null]
/-- fresh rows of a shelf: they weren't there before, they are blank, each another one -/
def hm_rows0 (f f1 : hm) (g : Nat → Option Nat) (N : Nat) : Prop := (∀ i, i < N → ∃ q, g i = some q ∧ f q = none ∧ f1 q = some (.inr (3, gr0))) ∧ ∀ i j, i < N → j < N → g i = g j → i = j
theorem hm_rows0_0 {f f1 : hm} {g : Nat → Option Nat} : hm_rows0 f f1 g 0 := ⟨fun i h => absurd h (Nat.not_lt_zero i), fun i j h => absurd h (Nat.not_lt_zero i)⟩
theorem hm_rows0_add {f fL f1 : hm} {g : Nat → Option Nat} {j q a : Nat} {x : ClassId × vp_A} (h : hm_rows0 f fL g j) (ha : fL a = some (.inl x)) (hq : fL q = none) (hq0 : f q = none) (h1 : f1 q = some (.inr (3, gr0))) (hk : ∀ (b : Nat) (y : va_E), b ≠ a → fL b = some y → f1 b = some y) : hm_rows0 f f1 (va_up g j (some q)) (j + 1) := by
  refine ⟨fun i hi => ?_, fun i i' hi hi' hg => ?_⟩
  · by_cases e : i = j
    · exact ⟨q, by simp [va_up, e], hq0, h1⟩
    · obtain ⟨b, hb, hb0, hb1⟩ := h.1 i (by omega)
      exact ⟨b, by simp [va_up, e, hb], hb0, hk b _ (hm_neA hb1 ha) hb1⟩
  · have key : ∀ z, z < j → g z ≠ some q := by
      intro z hz q2
      obtain ⟨b, hb, hb0, hb1⟩ := h.1 z hz
      rw [hb] at q2
      cases q2
      rw [hq] at hb1
      cases hb1
    by_cases e : i = j
    · by_cases e' : i' = j
      · omega
      · simp [va_up, e, e'] at hg
        exact absurd hg.symm (key i' (by omega))
    · by_cases e' : i' = j
      · simp [va_up, e, e'] at hg
        exact absurd hg (key i (by omega))
      · simp [va_up, e, e'] at hg
        exact h.2 i i' (by omega) (by omega) hg
/-- a grant's cell: its numbers w (number, owner, scopes, end, redirect, challenge, spent, revoked), its family -/
abbrev gV (w : Nat → Int32) (m1 : Option Nat) : List Value := [.int (w 0), .int (w 1), .int (w 2), .int (w 3), .int (w 4), .int (w 5), .int (w 6), .int (w 7), va_rf m1]
def z_act (w : Nat → Int32) (m1 : Option Nat) (fv x : Int32) : Int32 := if ¬ w 6 = 0 ∨ ¬ w 7 = 0 ∨ (¬ m1 = none ∧ ¬ fv = 0) ∨ w 3 ≤ x then 0 else 1
def z_full (u N : Nat) : Int32 := if u < N then 0 else 1
theorem z_full_lt {u N : Nat} (h : u < N) : z_full u N = 0 := by simp [z_full, h]
theorem z_full_ge {u N : Nat} (h : ¬ u < N) : z_full u N = 1 := by simp [z_full, h]
theorem hm_pr_up {L : List Nat} {f f1 : hm} {a : Nat} {e : va_E} (h : ∀ q ∈ L, f q ≠ none) (he : f1 = hm_up f a e) : ∀ q ∈ L, f1 q ≠ none := by
  intro q hq
  rw [he]
  by_cases z : q = a
  · rw [z, hm_up_s]; exact fun w => by cases w
  · rw [hm_up_n z]; exact h q hq
theorem hm_pr_new {L : List Nat} {f f1 : hm} {a : Nat} {e : va_E} (h : ∀ q ∈ L, f q ≠ none) (he : f1 = hm_up f a e) : ∀ q ∈ a :: L, f1 q ≠ none := by
  intro q hq
  rcases List.mem_cons.mp hq with hq | hq
  · rw [he, hq, hm_up_s]; exact fun w => by cases w
  · exact hm_pr_up h he q hq
theorem hm_nd_new {L : List Nat} {f : hm} {a : Nat} (hn : L.Nodup) (h : ∀ q ∈ L, f q ≠ none) (hz : f a = none) : (a :: L).Nodup := List.nodup_cons.mpr ⟨fun hq => h a hq hz, hn⟩
theorem hm_nd_at {L : List Nat} (h : L.Nodup) {i j a b : Nat} (hi : L[i]? = some a) (hj : L[j]? = some b) (e : a = b) : i = j := by
  exact (List.getElem?_inj (List.getElem?_eq_some_iff.mp hi).1 h).mp (by rw [hi, hj, e])
def m_fromN (x : Int32) : Nat := if x = 0 then 0 else if x = 1 then 16 else 40
def m_toN (x : Int32) : Nat := if x = 0 then 16 else if x = 1 then 40 else 64
theorem m_from_eq (x : Int32) : m_from x = nI (m_fromN x) := by
  unfold m_from m_fromN
  split
  · rfl
  · split <;> rfl
theorem m_to_eq (x : Int32) : m_to x = nI (m_toN x) := by
  unfold m_to m_toN
  split
  · rfl
  · split <;> rfl
theorem m_ft (x : Int32) : m_fromN x ≤ m_toN x ∧ m_toN x ≤ 64 := by
  unfold m_fromN m_toN
  split
  · omega
  · split <;> omega
/-- the first place from k on, of t places, that holds y (y not zero) -/
def m_findF (g : Nat → Int32) (y : Int32) : Nat → Nat → Int32
  | 0, _ => -1
  | t + 1, j => if ¬ y = 0 ∧ g j = y then nI j else m_findF g y t (j + 1)
/-- the first place from k on, of t places, that holds zero -/
def m_roomF (g : Nat → Int32) : Nat → Nat → Int32
  | 0, _ => -1
  | t + 1, j => if g j = 0 then nI j else m_roomF g t (j + 1)
def m_act (v : Nat → Int32) (c : Nat → Nat → Int32) (j : Nat) : Int32 := if c 10 j = 0 ∨ ¬ c 14 j = 0 ∨ c 13 j ≤ v 4 ∨ (¬ c 15 j < 0 ∧ ¬ c 21 (c 15 j).toNatClampNeg = 0) then 0 else 1
theorem hm_pr_fr {L : List Nat} {f f1 : hm} {m1 : Nat} {y : va_E} (h : ∀ q ∈ L, f q ≠ none) (hfr : ∀ (q : Nat) (x : va_E), q ≠ m1 → f q = some x → f1 q = some x) (hm : f1 m1 = some y) : ∀ q ∈ L, f1 q ≠ none := by
  intro q hq
  by_cases z : q = m1
  · rw [z, hm]; exact fun w => by cases w
  · cases hf : f q with
    | none => exact absurd hf (h q hq)
    | some x => rw [hfr q x z hf]; exact fun w => by cases w
theorem hm_pr_cons {L : List Nat} {f1 : hm} {a : Nat} {y : va_E} (h : ∀ q ∈ L, f1 q ≠ none) (ha : f1 a = some y) : ∀ q ∈ a :: L, f1 q ≠ none := by
  intro q hq
  rcases List.mem_cons.mp hq with hq | hq
  · rw [hq, ha]; exact fun w => by cases w
  · exact h q hq
theorem hm_nd_new2 {L : List Nat} {f : hm} {a b : Nat} (hn : L.Nodup) (h : ∀ q ∈ L, f q ≠ none) (ha : f a = none) (hb : f b = none) (hab : a ≠ b) : (b :: a :: L).Nodup := List.nodup_cons.mpr ⟨fun hq => by
  rcases List.mem_cons.mp hq with hq | hq
  · exact hab hq.symm
  · exact h b hq hb, hm_nd_new hn h ha⟩
theorem va_up_id {α : Type} (f : Nat → α) (k : Nat) : va_up f k (f k) = f := by
  funext j
  by_cases h : j = k
  · simp [va_up, h]
  · simp [va_up, h]
/-- the class's hash of a text, place by place -/
def z_hash (x : Nat → Int32) (n : Nat) : Nat → Int32
  | 0 => nI n
  | i + 1 => (z_hash x n i * 1000003 + x i) &&& 1073741823
/-- the reference's -/
def m_hash (x : Nat → Int32) (n : Nat) : Nat → Int64
  | 0 => (nI n).toInt64
  | i + 1 => (m_hash x n i * 1000003 + (x i).toInt64) &&& 1073741823
def m_free (g : Nat → Int32) (x : Int32) : Int32 := if x < 1 ∨ 65535 < x ∨ 0 ≤ m_findF g x 16 0 ∨ 0 ≤ m_findF g x 24 16 then 0 else 1
def m_letter (a b : Int32) (p q : Nat → Int32) (x i : Int32) : Int32 := if i < 0 ∨ (if x = 0 then a else b) ≤ i then -1 else (if x = 0 then p else q) i.toNatClampNeg
/-! The reference's object: its numbers v, its arrays c, at the addresses ad (by the numbers of the fields). -/
abbrev moV (sk : Int64) (v : Nat → Int32) (ad : Nat → Nat) : List Value := [.long sk, .int (v 1), .int (v 2), .int (v 3), .int (v 4), .ref (ad 5), .ref (ad 6), .ref (ad 7), .int (v 8), .int (v 9), .ref (ad 10), .ref (ad 11), .ref (ad 12), .ref (ad 13), .ref (ad 14), .ref (ad 15), .ref (ad 16), .ref (ad 17), .int (v 18), .ref (ad 19), .ref (ad 20), .ref (ad 21), .int (v 22), .ref (ad 23), .int (v 24), .ref (ad 25), .int (v 26), .ref (ad 27), .int (v 28), .int (v 29), .ref (ad 30)]
/-- which fields are arrays, of what kind, how long -/
def mo_t (i : Nat) : Nat := match i with
  | 14 => 1
  | 21 => 1
  | _ => 0
def mo_n (i : Nat) : Nat := match i with
  | 5 => 4 | 6 => 4 | 7 => 4
  | 10 => 64 | 11 => 64 | 12 => 64 | 13 => 64 | 14 => 64 | 15 => 64
  | 16 => 16 | 17 => 16
  | 19 => 520 | 20 => 520 | 21 => 520
  | 23 => 120 | 25 => 120 | 27 => 130 | 30 => 5
  | _ => 0
def mo (k : Nat → ClassId) (f : hm) (h : Nat) (ad : Nat → Nat) (sk : Int64) (v : Nat → Int32) (c : Nat → Nat → Int32) : Prop :=
  f h = some (.inr (8, moV sk v ad)) ∧ (∀ i, i < 31 → 0 < mo_n i → f (ad i) = some (.inl (k (mo_t i), mo_n i, .inl (c i)))) ∧ (∀ i j, i < 31 → j < 31 → 0 < mo_n i → 0 < mo_n j → ad i = ad j → i = j)
theorem mo.ne {k : Nat → ClassId} {f : hm} {h : Nat} {ad : Nat → Nat} {sk : Int64} {v : Nat → Int32} {c : Nat → Nat → Int32} (H : mo k f h ad sk v c) {i : Nat} (hi : i < 31) (hn : 0 < mo_n i) : h ≠ ad i := hm_neA H.1 (H.2.1 i hi hn)
theorem mo.arr {k : Nat → ClassId} {f : hm} {h : Nat} {ad : Nat → Nat} {sk : Int64} {v : Nat → Int32} {c : Nat → Nat → Int32} (H : mo k f h ad sk v c) (i : Nat) (hi : i < 31) (hn : 0 < mo_n i) : f (ad i) = some (.inl (k (mo_t i), mo_n i, .inl (c i))) := H.2.1 i hi hn
/-- a number is written -/
theorem mo.put {k : Nat → ClassId} {f f1 : hm} {h : Nat} {ad : Nat → Nat} {sk : Int64} {v v' : Nat → Int32} {c : Nat → Nat → Int32} (H : mo k f h ad sk v c) (e : f1 = hm_up f h (.inr (8, moV sk v' ad))) : mo k f1 h ad sk v' c :=
  ⟨hm_new1 e, fun i hi hn => hm_keep e (H.ne hi hn).symm (H.2.1 i hi hn), H.2.2⟩
/-- a place of an array is written -/
theorem mo.ast {k : Nat → ClassId} {f f1 : hm} {h : Nat} {ad : Nat → Nat} {sk : Int64} {v : Nat → Int32} {c : Nat → Nat → Int32} {g : Nat → Int32} (H : mo k f h ad sk v c) (i : Nat) (hi : i < 31) (hn : 0 < mo_n i) (e : f1 = hm_up f (ad i) (.inl (k (mo_t i), mo_n i, .inl g))) : mo k f1 h ad sk v (va_up c i g) := by
  refine ⟨hm_keep e (H.ne hi hn) H.1, fun j hj hm => ?_, H.2.2⟩
  by_cases q : j = i
  · subst q
    rw [hm_new1 e]
    simp [va_up]
  · rw [hm_keep e (fun z => q (H.2.2 j i hj hi hm hn z)) (H.2.1 j hj hm)]
    simp [va_up, q]
/-- what the reference owns -/
def mo_own (h : Nat) (ad : Nat → Nat) (q : Nat) : Prop := q = h ∨ ∃ i, i < 31 ∧ 0 < mo_n i ∧ q = ad i
theorem mo_keep1 {h : Nat} {ad : Nat → Nat} {f f1 : hm} {x : va_E} {e : va_E} {q : Nat} (hq : ¬ mo_own h ad q) (he : f1 = hm_up f h e) (h0 : f q = some x) : f1 q = some x := hm_keep he (fun z => hq (Or.inl z)) h0
theorem mo_keepA {h : Nat} {ad : Nat → Nat} {f f1 : hm} {x : va_E} {e : va_E} {q : Nat} (i : Nat) (hi : i < 31) (hn : 0 < mo_n i) (hq : ¬ mo_own h ad q) (he : f1 = hm_up f (ad i) e) (h0 : f q = some x) : f1 q = some x := hm_keep he (fun z => hq (Or.inr ⟨i, hi, hn, z⟩)) h0
/-- the reference's other cells stay -/
def mo_fr (h : Nat) (ad : Nat → Nat) (f f1 : hm) : Prop := ∀ (q : Nat) (x : va_E), ¬ mo_own h ad q → f q = some x → f1 q = some x
theorem mo_fr.rf {h : Nat} {ad : Nat → Nat} {f : hm} : mo_fr h ad f f := fun _ _ _ h => h
theorem mo_fr.put {h : Nat} {ad : Nat → Nat} {f f1 f2 : hm} {e : va_E} (H : mo_fr h ad f f1) (he : f2 = hm_up f1 h e) : mo_fr h ad f f2 := fun q x hq h0 => mo_keep1 hq he (H q x hq h0)
theorem mo_fr.ast {h : Nat} {ad : Nat → Nat} {f f1 f2 : hm} {e : va_E} (H : mo_fr h ad f f1) (i : Nat) (hi : i < 31) (hn : 0 < mo_n i) (he : f2 = hm_up f1 (ad i) e) : mo_fr h ad f f2 := fun q x hq h0 => mo_keepA i hi hn hq he (H q x hq h0)
theorem mo_fr.tr {h : Nat} {ad : Nat → Nat} {f f1 f2 : hm} (H : mo_fr h ad f f1) (K : mo_fr h ad f1 f2) : mo_fr h ad f f2 := fun q x hq h0 => K q x hq (H q x hq h0)
theorem mo.cv {k : Nat → ClassId} {f : hm} {h : Nat} {ad : Nat → Nat} {sk : Int64} {v v' : Nat → Int32} {c c' : Nat → Nat → Int32} (H : mo k f h ad sk v c) (e : v' = v) (e2 : c' = c) : mo k f h ad sk v' c' := by
  subst e; subst e2; exact H
/-- the places of the arrays' addresses in the list of what the constructor makes (the last first) -/
def mo_p (i : Nat) : Nat := match i with
  | 5 => 17 | 6 => 16 | 7 => 15 | 10 => 14 | 11 => 13 | 12 => 12 | 13 => 11 | 14 => 10 | 15 => 9 | 16 => 8 | 17 => 7 | 19 => 6 | 20 => 5 | 21 => 4 | 23 => 3 | 25 => 2 | 27 => 1 | _ => 0
theorem mo_p_inj : ∀ i, i < 31 → ∀ j, j < 31 → 0 < mo_n i → 0 < mo_n j → mo_p i = mo_p j → i = j := by decide +kernel
def mo_v0 (a b d : Int32) : Nat → Int32 := fun i => match i with
  | 1 => m_kept a
  | 2 => m_kept b
  | 3 => m_kept d
  | 9 => -1
  | _ => 0
theorem mo_inj {L : List Nat} (h : L.Nodup) (hl : L.length = 18) : ∀ i j, i < 31 → j < 31 → 0 < mo_n i → 0 < mo_n j → L.getD (mo_p i) 0 = L.getD (mo_p j) 0 → i = j := by
  intro i j hi hj h1 h2 e
  have hp : ∀ z, mo_p z < 18 := fun z => by unfold mo_p; split <;> omega
  have g : ∀ z, L[mo_p z]? = some (L.getD (mo_p z) 0) := fun z => by
    rw [List.getD_eq_getElem?_getD, List.getElem?_eq_getElem (by rw [hl]; exact hp z)]
    rfl
  exact mo_p_inj i hi j hj h1 h2 (hm_nd_at h (g i) (g j) e)
/-! The class's object: its numbers u, the addresses ad of what it holds (3 to 11 its fields; 14 to 16 the shelves' arrays, 17 to 19 the texts' arrays, 20 and 21 the reader's). -/
abbrev gsV (u : Nat → Int32) (ad : Nat → Nat) : List Value := [.int (u 0), .int (u 1), .int (u 2), .ref (ad 3), .ref (ad 4), .ref (ad 5), .ref (ad 6), .ref (ad 7), .ref (ad 8), .ref (ad 9), .ref (ad 10), .ref (ad 11), .int (u 12), .int (u 13), .int (u 14), .int (u 15)]
def gs_N (i : Nat) : Nat := match i with
  | 0 => 16
  | _ => 24
def gs (k : Nat → ClassId) (f : hm) (h : Nat) (ad : Nat → Nat) (u : Nat → Int32) (cn : Nat → Option Nat) (us : Nat → Nat) (g : Nat → Nat → Option Nat) (tn : Nat → Nat) (tx : Nat → Nat → Int32) (rd rs : Nat → Int32) (ra ky : Int32) : Prop :=
  f h = some (.inr (0, gsV u ad)) ∧ f (ad 3) = some (.inl (k 4, 4, .inr (.inr (.inr (.inr cn))))) ∧
  (∀ i, i < 3 → f (ad (4 + i)) = some (.inr (4, [.ref (ad (14 + i)), .int (nI (us i))]))) ∧ (∀ i, i < 3 → f (ad (14 + i)) = some (.inl (k 3, gs_N i, .inr (.inr (.inr (.inr (g i))))))) ∧
  (∀ i, i < 3 → f (ad (7 + i)) = some (.inr (5, [.ref (ad (17 + i)), .int (nI (tn i))]))) ∧ (∀ i, i < 3 → f (ad (17 + i)) = some (.inl (k 2, 120, .inl (tx i)))) ∧
  f (ad 10) = some (.inr (7, [.ref (ad 20), .ref (ad 21), .int ra])) ∧ f (ad 20) = some (.inl (k 0, 5, .inl rd)) ∧ f (ad 21) = some (.inl (k 1, 5, .inl rs)) ∧ f (ad 11) = some (.inr (6, [.int ky]))
def gs_ix (i : Nat) : Bool := (3 ≤ i && i ≤ 11) || (14 ≤ i && i ≤ 21)
def gs_ap (ad : Nat → Nat) : Prop := ∀ i j, i < 22 → j < 22 → gs_ix i = true → gs_ix j = true → ad i = ad j → i = j
/-- the places of the addresses in the list of what the constructor makes (the last first) -/
def gs_p (i : Nat) : Nat := match i with
  | 3 => 16 | 4 => 15 | 14 => 14 | 5 => 13 | 15 => 12 | 6 => 11 | 16 => 10 | 7 => 9 | 17 => 8 | 8 => 7 | 18 => 6 | 9 => 5 | 19 => 4 | 10 => 3 | 20 => 2 | 21 => 1 | _ => 0
theorem gs_p_inj : ∀ i, i < 22 → ∀ j, j < 22 → gs_ix i = true → gs_ix j = true → gs_p i = gs_p j → i = j := by decide +kernel
theorem gs_inj {L : List Nat} (h : L.Nodup) (hl : L.length = 17) : gs_ap (fun i => L.getD (gs_p i) 0) := by
  intro i j hi hj h1 h2 e
  have hp : ∀ z, gs_p z < 17 := fun z => by unfold gs_p; split <;> omega
  have g : ∀ z, L[gs_p z]? = some (L.getD (gs_p z) 0) := fun z => by
    rw [List.getD_eq_getElem?_getD, List.getElem?_eq_getElem (by rw [hl]; exact hp z)]
    rfl
  exact gs_p_inj i hi j hj h1 h2 (hm_nd_at h (g i) (g j) e)
def gs_u0 (a b d : Int32) : Nat → Int32 := fun i => match i with
  | 0 => z_kept a
  | 1 => z_kept b
  | 2 => z_kept d
  | 13 => -1
  | _ => 0
/-- the shelves' rows: fresh, blank, each another one -/
def gs_r0 (f f1 : hm) (g : Nat → Nat → Option Nat) : Prop := (∀ s, s < 3 → ∀ i, i < gs_N s → ∃ q, g s i = some q ∧ f q = none ∧ f1 q = some (.inr (3, gr0))) ∧ ∀ s, s < 3 → ∀ i, i < gs_N s → ∀ s', s' < 3 → ∀ j, j < gs_N s' → g s i = g s' j → s = s' ∧ i = j
abbrev G0 : va_E := .inr (3, gr0)
theorem gs_r0_mk {f f1 a0 b0 a1 b1 a2 b2 : hm} {g0 g1 g2 : Nat → Option Nat} (h0 : hm_rows0 a0 b0 g0 16) (h1 : hm_rows0 a1 b1 g1 24) (h2 : hm_rows0 a2 b2 g2 24)
    (z0 : ∀ q, a0 q = none → f q = none) (z1 : ∀ q, a1 q = none → f q = none) (z2 : ∀ q, a2 q = none → f q = none)
    (e0 : ∀ q, b0 q = some G0 → f1 q = some G0) (e1 : ∀ q, b1 q = some G0 → f1 q = some G0) (e2 : ∀ q, b2 q = some G0 → f1 q = some G0)
    (d01 : ∀ q, b0 q = some G0 → a1 q = some G0) (d02 : ∀ q, b0 q = some G0 → a2 q = some G0) (d12 : ∀ q, b1 q = some G0 → a2 q = some G0) :
    gs_r0 f f1 (fun s => match s with | 0 => g0 | 1 => g1 | _ => g2) := by
  have k01 : ∀ i j, i < 16 → j < 24 → g0 i ≠ g1 j := by
    intro i j hi hj e
    obtain ⟨q, hq, -, hq1⟩ := h0.1 i hi
    obtain ⟨r, hr, hr0, -⟩ := h1.1 j hj
    rw [hq, hr] at e
    cases e
    rw [d01 q hq1] at hr0
    cases hr0
  have k02 : ∀ i j, i < 16 → j < 24 → g0 i ≠ g2 j := by
    intro i j hi hj e
    obtain ⟨q, hq, -, hq1⟩ := h0.1 i hi
    obtain ⟨r, hr, hr0, -⟩ := h2.1 j hj
    rw [hq, hr] at e
    cases e
    rw [d02 q hq1] at hr0
    cases hr0
  have k12 : ∀ i j, i < 24 → j < 24 → g1 i ≠ g2 j := by
    intro i j hi hj e
    obtain ⟨q, hq, -, hq1⟩ := h1.1 i hi
    obtain ⟨r, hr, hr0, -⟩ := h2.1 j hj
    rw [hq, hr] at e
    cases e
    rw [d12 q hq1] at hr0
    cases hr0
  refine ⟨fun s hs i hi => ?_, fun s hs i hi s' hs' j hj e => ?_⟩
  · match s, hs, hi with
    | 0, _, hi => obtain ⟨q, a, b, c⟩ := h0.1 i hi; exact ⟨q, a, z0 q b, e0 q c⟩
    | 1, _, hi => obtain ⟨q, a, b, c⟩ := h1.1 i hi; exact ⟨q, a, z1 q b, e1 q c⟩
    | 2, _, hi => obtain ⟨q, a, b, c⟩ := h2.1 i hi; exact ⟨q, a, z2 q b, e2 q c⟩
    | n + 3, hs, _ => omega
  · match s, hs, hi, s', hs', hj, e with
    | 0, _, hi, 0, _, hj, e => exact ⟨rfl, h0.2 i j hi hj e⟩
    | 0, _, hi, 1, _, hj, e => exact absurd e (k01 i j hi hj)
    | 0, _, hi, 2, _, hj, e => exact absurd e (k02 i j hi hj)
    | 1, _, hi, 0, _, hj, e => exact absurd e.symm (k01 j i hj hi)
    | 1, _, hi, 1, _, hj, e => exact ⟨rfl, h1.2 i j hi hj e⟩
    | 1, _, hi, 2, _, hj, e => exact absurd e (k12 i j hi hj)
    | 2, _, hi, 0, _, hj, e => exact absurd e.symm (k02 j i hj hi)
    | 2, _, hi, 1, _, hj, e => exact absurd e.symm (k12 j i hj hi)
    | 2, _, hi, 2, _, hj, e => exact ⟨rfl, h2.2 i j hi hj e⟩
    | n + 3, hs, _, _, _, _, _ => omega
    | _, _, _, n + 3, hs', _, _ => omega
end
section
theorem d_GrantServer_keptLife_0 : decode b_GrantServer_keptLife 0 = .ok (.iconst 1, 1) := by decide +kernel
theorem d_GrantServer_keptLife_1 : decode b_GrantServer_keptLife 1 = .ok (.sipush 1000, 3) := by decide +kernel
theorem d_GrantServer_keptLife_4 : decode b_GrantServer_keptLife 4 = .ok (.iload_n 0, 1) := by decide +kernel
theorem d_GrantServer_keptLife_5 : decode b_GrantServer_keptLife 5 = .ok (.invokestatic 243, 3) := by decide +kernel
theorem d_GrantServer_keptLife_8 : decode b_GrantServer_keptLife 8 = .ok (.invokestatic 248, 3) := by decide +kernel
theorem d_GrantServer_keptLife_11 : decode b_GrantServer_keptLife 11 = .ok (.ireturn, 1) := by decide +kernel
theorem d_GrantServer_isSomeScopes_0 : decode b_GrantServer_isSomeScopes 0 = .ok (.iload_n 0, 1) := by decide +kernel
theorem d_GrantServer_isSomeScopes_1 : decode b_GrantServer_isSomeScopes 1 = .ok (.iconst 1, 1) := by decide +kernel
theorem d_GrantServer_isSomeScopes_2 : decode b_GrantServer_isSomeScopes 2 = .ok (.if_icmp .lt 13, 3) := by decide +kernel
theorem d_GrantServer_isSomeScopes_5 : decode b_GrantServer_isSomeScopes 5 = .ok (.iload_n 0, 1) := by decide +kernel
theorem d_GrantServer_isSomeScopes_6 : decode b_GrantServer_isSomeScopes 6 = .ok (.bipush 15, 2) := by decide +kernel
theorem d_GrantServer_isSomeScopes_8 : decode b_GrantServer_isSomeScopes 8 = .ok (.if_icmp .gt 7, 3) := by decide +kernel
theorem d_GrantServer_isSomeScopes_11 : decode b_GrantServer_isSomeScopes 11 = .ok (.iconst 1, 1) := by decide +kernel
theorem d_GrantServer_isSomeScopes_12 : decode b_GrantServer_isSomeScopes 12 = .ok (.goto 4, 3) := by decide +kernel
theorem d_GrantServer_isSomeScopes_15 : decode b_GrantServer_isSomeScopes 15 = .ok (.iconst 0, 1) := by decide +kernel
theorem d_GrantServer_isSomeScopes_16 : decode b_GrantServer_isSomeScopes 16 = .ok (.ireturn, 1) := by decide +kernel
theorem d_GrantServer_isWithin_0 : decode b_GrantServer_isWithin 0 = .ok (.iload_n 0, 1) := by decide +kernel
theorem d_GrantServer_isWithin_1 : decode b_GrantServer_isWithin 1 = .ok (.iload_n 1, 1) := by decide +kernel
theorem d_GrantServer_isWithin_2 : decode b_GrantServer_isWithin 2 = .ok (.iconst (-1), 1) := by decide +kernel
theorem d_GrantServer_isWithin_3 : decode b_GrantServer_isWithin 3 = .ok (.ixor, 1) := by decide +kernel
theorem d_GrantServer_isWithin_4 : decode b_GrantServer_isWithin 4 = .ok (.iand, 1) := by decide +kernel
theorem d_GrantServer_isWithin_5 : decode b_GrantServer_isWithin 5 = .ok (.ifCond .ne 7, 3) := by decide +kernel
theorem d_GrantServer_isWithin_8 : decode b_GrantServer_isWithin 8 = .ok (.iconst 1, 1) := by decide +kernel
theorem d_GrantServer_isWithin_9 : decode b_GrantServer_isWithin 9 = .ok (.goto 4, 3) := by decide +kernel
theorem d_GrantServer_isWithin_12 : decode b_GrantServer_isWithin 12 = .ok (.iconst 0, 1) := by decide +kernel
theorem d_GrantServer_isWithin_13 : decode b_GrantServer_isWithin 13 = .ok (.ireturn, 1) := by decide +kernel
theorem d_GrantServer_isWritable_0 : decode b_GrantServer_isWritable 0 = .ok (.iload_n 0, 1) := by decide +kernel
theorem d_GrantServer_isWritable_1 : decode b_GrantServer_isWritable 1 = .ok (.bipush 32, 2) := by decide +kernel
theorem d_GrantServer_isWritable_3 : decode b_GrantServer_isWritable 3 = .ok (.if_icmp .lt 13, 3) := by decide +kernel
theorem d_GrantServer_isWritable_6 : decode b_GrantServer_isWritable 6 = .ok (.iload_n 0, 1) := by decide +kernel
theorem d_GrantServer_isWritable_7 : decode b_GrantServer_isWritable 7 = .ok (.bipush 126, 2) := by decide +kernel
theorem d_GrantServer_isWritable_9 : decode b_GrantServer_isWritable 9 = .ok (.if_icmp .gt 7, 3) := by decide +kernel
theorem d_GrantServer_isWritable_12 : decode b_GrantServer_isWritable 12 = .ok (.iconst 1, 1) := by decide +kernel
theorem d_GrantServer_isWritable_13 : decode b_GrantServer_isWritable 13 = .ok (.goto 4, 3) := by decide +kernel
theorem d_GrantServer_isWritable_16 : decode b_GrantServer_isWritable 16 = .ok (.iconst 0, 1) := by decide +kernel
theorem d_GrantServer_isWritable_17 : decode b_GrantServer_isWritable 17 = .ok (.ireturn, 1) := by decide +kernel
theorem d_Client_init_0 : decode b_Client_init 0 = .ok (.aload_n 0, 1) := by decide +kernel
theorem d_Client_init_1 : decode b_Client_init 1 = .ok (.invokespecial 1, 3) := by decide +kernel
theorem d_Client_init_4 : decode b_Client_init 4 = .ok (.aload_n 0, 1) := by decide +kernel
theorem d_Client_init_5 : decode b_Client_init 5 = .ok (.iload_n 1, 1) := by decide +kernel
theorem d_Client_init_6 : decode b_Client_init 6 = .ok (.putfield 7, 3) := by decide +kernel
theorem d_Client_init_9 : decode b_Client_init 9 = .ok (.aload_n 0, 1) := by decide +kernel
theorem d_Client_init_10 : decode b_Client_init 10 = .ok (.iload_n 2, 1) := by decide +kernel
theorem d_Client_init_11 : decode b_Client_init 11 = .ok (.putfield 13, 3) := by decide +kernel
theorem d_Client_init_14 : decode b_Client_init 14 = .ok (.aload_n 0, 1) := by decide +kernel
theorem d_Client_init_15 : decode b_Client_init 15 = .ok (.iload_n 3, 1) := by decide +kernel
theorem d_Client_init_16 : decode b_Client_init 16 = .ok (.putfield 16, 3) := by decide +kernel
theorem d_Client_init_19 : decode b_Client_init 19 = .ok (.return_, 1) := by decide +kernel
theorem d_Family_init_0 : decode b_Family_init 0 = .ok (.aload_n 0, 1) := by decide +kernel
theorem d_Family_init_1 : decode b_Family_init 1 = .ok (.invokespecial 1, 3) := by decide +kernel
theorem d_Family_init_4 : decode b_Family_init 4 = .ok (.aload_n 0, 1) := by decide +kernel
theorem d_Family_init_5 : decode b_Family_init 5 = .ok (.iconst 0, 1) := by decide +kernel
theorem d_Family_init_6 : decode b_Family_init 6 = .ok (.putfield 7, 3) := by decide +kernel
theorem d_Family_init_9 : decode b_Family_init 9 = .ok (.aload_n 0, 1) := by decide +kernel
theorem d_Family_init_10 : decode b_Family_init 10 = .ok (.iload_n 1, 1) := by decide +kernel
theorem d_Family_init_11 : decode b_Family_init 11 = .ok (.putfield 13, 3) := by decide +kernel
theorem d_Family_init_14 : decode b_Family_init 14 = .ok (.aload_n 0, 1) := by decide +kernel
theorem d_Family_init_15 : decode b_Family_init 15 = .ok (.iload_n 2, 1) := by decide +kernel
theorem d_Family_init_16 : decode b_Family_init 16 = .ok (.putfield 17, 3) := by decide +kernel
theorem d_Family_init_19 : decode b_Family_init 19 = .ok (.return_, 1) := by decide +kernel
theorem d_Grant_init_0 : decode b_Grant_init 0 = .ok (.aload_n 0, 1) := by decide +kernel
theorem d_Grant_init_1 : decode b_Grant_init 1 = .ok (.invokespecial 1, 3) := by decide +kernel
theorem d_Grant_init_4 : decode b_Grant_init 4 = .ok (.return_, 1) := by decide +kernel
theorem d_Grant_begin_0 : decode b_Grant_begin 0 = .ok (.aload_n 0, 1) := by decide +kernel
theorem d_Grant_begin_1 : decode b_Grant_begin 1 = .ok (.iload_n 1, 1) := by decide +kernel
theorem d_Grant_begin_2 : decode b_Grant_begin 2 = .ok (.putfield 7, 3) := by decide +kernel
theorem d_Grant_begin_5 : decode b_Grant_begin 5 = .ok (.aload_n 0, 1) := by decide +kernel
theorem d_Grant_begin_6 : decode b_Grant_begin 6 = .ok (.iload_n 2, 1) := by decide +kernel
theorem d_Grant_begin_7 : decode b_Grant_begin 7 = .ok (.putfield 13, 3) := by decide +kernel
theorem d_Grant_begin_10 : decode b_Grant_begin 10 = .ok (.aload_n 0, 1) := by decide +kernel
theorem d_Grant_begin_11 : decode b_Grant_begin 11 = .ok (.iload_n 3, 1) := by decide +kernel
theorem d_Grant_begin_12 : decode b_Grant_begin 12 = .ok (.putfield 16, 3) := by decide +kernel
theorem d_Grant_begin_15 : decode b_Grant_begin 15 = .ok (.aload_n 0, 1) := by decide +kernel
theorem d_Grant_begin_16 : decode b_Grant_begin 16 = .ok (.iload 4, 2) := by decide +kernel
theorem d_Grant_begin_18 : decode b_Grant_begin 18 = .ok (.putfield 19, 3) := by decide +kernel
theorem d_Grant_begin_21 : decode b_Grant_begin 21 = .ok (.aload_n 0, 1) := by decide +kernel
theorem d_Grant_begin_22 : decode b_Grant_begin 22 = .ok (.aload 5, 2) := by decide +kernel
theorem d_Grant_begin_24 : decode b_Grant_begin 24 = .ok (.putfield 22, 3) := by decide +kernel
theorem d_Grant_begin_27 : decode b_Grant_begin 27 = .ok (.aload_n 0, 1) := by decide +kernel
theorem d_Grant_begin_28 : decode b_Grant_begin 28 = .ok (.iconst 0, 1) := by decide +kernel
theorem d_Grant_begin_29 : decode b_Grant_begin 29 = .ok (.putfield 26, 3) := by decide +kernel
theorem d_Grant_begin_32 : decode b_Grant_begin 32 = .ok (.aload_n 0, 1) := by decide +kernel
theorem d_Grant_begin_33 : decode b_Grant_begin 33 = .ok (.iconst 0, 1) := by decide +kernel
theorem d_Grant_begin_34 : decode b_Grant_begin 34 = .ok (.putfield 30, 3) := by decide +kernel
theorem d_Grant_begin_37 : decode b_Grant_begin 37 = .ok (.return_, 1) := by decide +kernel
theorem d_Grant_isActive_0 : decode b_Grant_isActive 0 = .ok (.aload_n 0, 1) := by decide +kernel
theorem d_Grant_isActive_1 : decode b_Grant_isActive 1 = .ok (.getfield 26, 3) := by decide +kernel
theorem d_Grant_isActive_4 : decode b_Grant_isActive 4 = .ok (.ifCond .ne 39, 3) := by decide +kernel
theorem d_Grant_isActive_7 : decode b_Grant_isActive 7 = .ok (.aload_n 0, 1) := by decide +kernel
theorem d_Grant_isActive_8 : decode b_Grant_isActive 8 = .ok (.getfield 30, 3) := by decide +kernel
theorem d_Grant_isActive_11 : decode b_Grant_isActive 11 = .ok (.ifCond .ne 32, 3) := by decide +kernel
theorem d_Grant_isActive_14 : decode b_Grant_isActive 14 = .ok (.aload_n 0, 1) := by decide +kernel
theorem d_Grant_isActive_15 : decode b_Grant_isActive 15 = .ok (.getfield 22, 3) := by decide +kernel
theorem d_Grant_isActive_18 : decode b_Grant_isActive 18 = .ok (.ifnull 13, 3) := by decide +kernel
theorem d_Grant_isActive_21 : decode b_Grant_isActive 21 = .ok (.aload_n 0, 1) := by decide +kernel
theorem d_Grant_isActive_22 : decode b_Grant_isActive 22 = .ok (.getfield 22, 3) := by decide +kernel
theorem d_Grant_isActive_25 : decode b_Grant_isActive 25 = .ok (.getfield 33, 3) := by decide +kernel
theorem d_Grant_isActive_28 : decode b_Grant_isActive 28 = .ok (.ifCond .ne 15, 3) := by decide +kernel
theorem d_Grant_isActive_31 : decode b_Grant_isActive 31 = .ok (.aload_n 0, 1) := by decide +kernel
theorem d_Grant_isActive_32 : decode b_Grant_isActive 32 = .ok (.getfield 19, 3) := by decide +kernel
theorem d_Grant_isActive_35 : decode b_Grant_isActive 35 = .ok (.iload_n 1, 1) := by decide +kernel
theorem d_Grant_isActive_36 : decode b_Grant_isActive 36 = .ok (.if_icmp .le 7, 3) := by decide +kernel
theorem d_Grant_isActive_39 : decode b_Grant_isActive 39 = .ok (.iconst 1, 1) := by decide +kernel
theorem d_Grant_isActive_40 : decode b_Grant_isActive 40 = .ok (.goto 4, 3) := by decide +kernel
theorem d_Grant_isActive_43 : decode b_Grant_isActive 43 = .ok (.iconst 0, 1) := by decide +kernel
theorem d_Grant_isActive_44 : decode b_Grant_isActive 44 = .ok (.ireturn, 1) := by decide +kernel
theorem d_Shelf_init_0 : decode b_Shelf_init 0 = .ok (.aload_n 0, 1) := by decide +kernel
theorem d_Shelf_init_1 : decode b_Shelf_init 1 = .ok (.invokespecial 1, 3) := by decide +kernel
theorem d_Shelf_init_4 : decode b_Shelf_init 4 = .ok (.aload_n 0, 1) := by decide +kernel
theorem d_Shelf_init_5 : decode b_Shelf_init 5 = .ok (.iconst 0, 1) := by decide +kernel
theorem d_Shelf_init_6 : decode b_Shelf_init 6 = .ok (.putfield 7, 3) := by decide +kernel
theorem d_Shelf_init_9 : decode b_Shelf_init 9 = .ok (.aload_n 0, 1) := by decide +kernel
theorem d_Shelf_init_10 : decode b_Shelf_init 10 = .ok (.iload_n 1, 1) := by decide +kernel
theorem d_Shelf_init_11 : decode b_Shelf_init 11 = .ok (.anewarray 13, 3) := by decide +kernel
theorem d_Shelf_init_14 : decode b_Shelf_init 14 = .ok (.putfield 15, 3) := by decide +kernel
theorem d_Shelf_init_17 : decode b_Shelf_init 17 = .ok (.iconst 0, 1) := by decide +kernel
theorem d_Shelf_init_18 : decode b_Shelf_init 18 = .ok (.istore_n 2, 1) := by decide +kernel
theorem d_Shelf_init_19 : decode b_Shelf_init 19 = .ok (.iload_n 2, 1) := by decide +kernel
theorem d_Shelf_init_20 : decode b_Shelf_init 20 = .ok (.iload_n 1, 1) := by decide +kernel
theorem d_Shelf_init_21 : decode b_Shelf_init 21 = .ok (.if_icmp .ge 22, 3) := by decide +kernel
theorem d_Shelf_init_24 : decode b_Shelf_init 24 = .ok (.aload_n 0, 1) := by decide +kernel
theorem d_Shelf_init_25 : decode b_Shelf_init 25 = .ok (.getfield 15, 3) := by decide +kernel
theorem d_Shelf_init_28 : decode b_Shelf_init 28 = .ok (.iload_n 2, 1) := by decide +kernel
theorem d_Shelf_init_29 : decode b_Shelf_init 29 = .ok (.new 13, 3) := by decide +kernel
theorem d_Shelf_init_32 : decode b_Shelf_init 32 = .ok (.dup, 1) := by decide +kernel
theorem d_Shelf_init_33 : decode b_Shelf_init 33 = .ok (.invokespecial 19, 3) := by decide +kernel
theorem d_Shelf_init_36 : decode b_Shelf_init 36 = .ok (.aastore, 1) := by decide +kernel
theorem d_Shelf_init_37 : decode b_Shelf_init 37 = .ok (.iinc 2 1, 3) := by decide +kernel
theorem d_Shelf_init_40 : decode b_Shelf_init 40 = .ok (.goto (-21), 3) := by decide +kernel
theorem d_Shelf_init_43 : decode b_Shelf_init 43 = .ok (.return_, 1) := by decide +kernel
theorem d_Shelf_rows_0 : decode b_Shelf_rows 0 = .ok (.aload_n 0, 1) := by decide +kernel
theorem d_Shelf_rows_1 : decode b_Shelf_rows 1 = .ok (.getfield 7, 3) := by decide +kernel
theorem d_Shelf_rows_4 : decode b_Shelf_rows 4 = .ok (.ireturn, 1) := by decide +kernel
theorem d_Shelf_isFull_0 : decode b_Shelf_isFull 0 = .ok (.aload_n 0, 1) := by decide +kernel
theorem d_Shelf_isFull_1 : decode b_Shelf_isFull 1 = .ok (.getfield 7, 3) := by decide +kernel
theorem d_Shelf_isFull_4 : decode b_Shelf_isFull 4 = .ok (.aload_n 0, 1) := by decide +kernel
theorem d_Shelf_isFull_5 : decode b_Shelf_isFull 5 = .ok (.getfield 15, 3) := by decide +kernel
theorem d_Shelf_isFull_8 : decode b_Shelf_isFull 8 = .ok (.arraylength, 1) := by decide +kernel
theorem d_Shelf_isFull_9 : decode b_Shelf_isFull 9 = .ok (.if_icmp .lt 7, 3) := by decide +kernel
theorem d_Shelf_isFull_12 : decode b_Shelf_isFull 12 = .ok (.iconst 1, 1) := by decide +kernel
theorem d_Shelf_isFull_13 : decode b_Shelf_isFull 13 = .ok (.goto 4, 3) := by decide +kernel
theorem d_Shelf_isFull_16 : decode b_Shelf_isFull 16 = .ok (.iconst 0, 1) := by decide +kernel
theorem d_Shelf_isFull_17 : decode b_Shelf_isFull 17 = .ok (.ireturn, 1) := by decide +kernel
theorem d_Text_init_0 : decode b_Text_init 0 = .ok (.aload_n 0, 1) := by decide +kernel
theorem d_Text_init_1 : decode b_Text_init 1 = .ok (.invokespecial 3, 3) := by decide +kernel
theorem d_Text_init_4 : decode b_Text_init 4 = .ok (.aload_n 0, 1) := by decide +kernel
theorem d_Text_init_5 : decode b_Text_init 5 = .ok (.bipush 120, 2) := by decide +kernel
theorem d_Text_init_7 : decode b_Text_init 7 = .ok (.newarray .char, 2) := by decide +kernel
theorem d_Text_init_9 : decode b_Text_init 9 = .ok (.putfield 11, 3) := by decide +kernel
theorem d_Text_init_12 : decode b_Text_init 12 = .ok (.aload_n 0, 1) := by decide +kernel
theorem d_Text_init_13 : decode b_Text_init 13 = .ok (.iconst 0, 1) := by decide +kernel
theorem d_Text_init_14 : decode b_Text_init 14 = .ok (.putfield 15, 3) := by decide +kernel
theorem d_Text_init_17 : decode b_Text_init 17 = .ok (.return_, 1) := by decide +kernel
theorem d_Text_size_0 : decode b_Text_size 0 = .ok (.aload_n 0, 1) := by decide +kernel
theorem d_Text_size_1 : decode b_Text_size 1 = .ok (.getfield 15, 3) := by decide +kernel
theorem d_Text_size_4 : decode b_Text_size 4 = .ok (.ireturn, 1) := by decide +kernel
theorem d_Text_codeAt_0 : decode b_Text_codeAt 0 = .ok (.iload_n 1, 1) := by decide +kernel
theorem d_Text_codeAt_1 : decode b_Text_codeAt 1 = .ok (.ifCond .lt 20, 3) := by decide +kernel
theorem d_Text_codeAt_4 : decode b_Text_codeAt 4 = .ok (.iload_n 1, 1) := by decide +kernel
theorem d_Text_codeAt_5 : decode b_Text_codeAt 5 = .ok (.aload_n 0, 1) := by decide +kernel
theorem d_Text_codeAt_6 : decode b_Text_codeAt 6 = .ok (.getfield 15, 3) := by decide +kernel
theorem d_Text_codeAt_9 : decode b_Text_codeAt 9 = .ok (.if_icmp .ge 12, 3) := by decide +kernel
theorem d_Text_codeAt_12 : decode b_Text_codeAt 12 = .ok (.aload_n 0, 1) := by decide +kernel
theorem d_Text_codeAt_13 : decode b_Text_codeAt 13 = .ok (.getfield 11, 3) := by decide +kernel
theorem d_Text_codeAt_16 : decode b_Text_codeAt 16 = .ok (.iload_n 1, 1) := by decide +kernel
theorem d_Text_codeAt_17 : decode b_Text_codeAt 17 = .ok (.caload, 1) := by decide +kernel
theorem d_Text_codeAt_18 : decode b_Text_codeAt 18 = .ok (.goto 4, 3) := by decide +kernel
theorem d_Text_codeAt_21 : decode b_Text_codeAt 21 = .ok (.iconst (-1), 1) := by decide +kernel
theorem d_Text_codeAt_22 : decode b_Text_codeAt 22 = .ok (.ireturn, 1) := by decide +kernel
theorem d_Text_clear_0 : decode b_Text_clear 0 = .ok (.aload_n 0, 1) := by decide +kernel
theorem d_Text_clear_1 : decode b_Text_clear 1 = .ok (.iconst 0, 1) := by decide +kernel
theorem d_Text_clear_2 : decode b_Text_clear 2 = .ok (.putfield 15, 3) := by decide +kernel
theorem d_Text_clear_5 : decode b_Text_clear 5 = .ok (.return_, 1) := by decide +kernel
theorem d_Text_add_0 : decode b_Text_add 0 = .ok (.aload_n 0, 1) := by decide +kernel
theorem d_Text_add_1 : decode b_Text_add 1 = .ok (.getfield 15, 3) := by decide +kernel
theorem d_Text_add_4 : decode b_Text_add 4 = .ok (.bipush 120, 2) := by decide +kernel
theorem d_Text_add_6 : decode b_Text_add 6 = .ok (.if_icmp .lt 5, 3) := by decide +kernel
theorem d_Text_add_9 : decode b_Text_add 9 = .ok (.iconst 0, 1) := by decide +kernel
theorem d_Text_add_10 : decode b_Text_add 10 = .ok (.ireturn, 1) := by decide +kernel
theorem d_Text_add_11 : decode b_Text_add 11 = .ok (.aload_n 0, 1) := by decide +kernel
theorem d_Text_add_12 : decode b_Text_add 12 = .ok (.getfield 11, 3) := by decide +kernel
theorem d_Text_add_15 : decode b_Text_add 15 = .ok (.aload_n 0, 1) := by decide +kernel
theorem d_Text_add_16 : decode b_Text_add 16 = .ok (.getfield 15, 3) := by decide +kernel
theorem d_Text_add_19 : decode b_Text_add 19 = .ok (.iload_n 1, 1) := by decide +kernel
theorem d_Text_add_20 : decode b_Text_add 20 = .ok (.castore, 1) := by decide +kernel
theorem d_Text_add_21 : decode b_Text_add 21 = .ok (.aload_n 0, 1) := by decide +kernel
theorem d_Text_add_22 : decode b_Text_add 22 = .ok (.dup, 1) := by decide +kernel
theorem d_Text_add_23 : decode b_Text_add 23 = .ok (.getfield 15, 3) := by decide +kernel
theorem d_Text_add_26 : decode b_Text_add 26 = .ok (.iconst 1, 1) := by decide +kernel
theorem d_Text_add_27 : decode b_Text_add 27 = .ok (.iadd, 1) := by decide +kernel
theorem d_Text_add_28 : decode b_Text_add 28 = .ok (.putfield 15, 3) := by decide +kernel
theorem d_Text_add_31 : decode b_Text_add 31 = .ok (.iconst 1, 1) := by decide +kernel
theorem d_Text_add_32 : decode b_Text_add 32 = .ok (.ireturn, 1) := by decide +kernel
theorem d_Text_put_0 : decode b_Text_put 0 = .ok (.iload_n 1, 1) := by decide +kernel
theorem d_Text_put_1 : decode b_Text_put 1 = .ok (.ifCond .lt 11, 3) := by decide +kernel
theorem d_Text_put_4 : decode b_Text_put 4 = .ok (.iload_n 1, 1) := by decide +kernel
theorem d_Text_put_5 : decode b_Text_put 5 = .ok (.aload_n 0, 1) := by decide +kernel
theorem d_Text_put_6 : decode b_Text_put 6 = .ok (.getfield 15, 3) := by decide +kernel
theorem d_Text_put_9 : decode b_Text_put 9 = .ok (.if_icmp .lt 5, 3) := by decide +kernel
theorem d_Text_put_12 : decode b_Text_put 12 = .ok (.iconst 0, 1) := by decide +kernel
theorem d_Text_put_13 : decode b_Text_put 13 = .ok (.ireturn, 1) := by decide +kernel
theorem d_Text_put_14 : decode b_Text_put 14 = .ok (.aload_n 0, 1) := by decide +kernel
theorem d_Text_put_15 : decode b_Text_put 15 = .ok (.getfield 11, 3) := by decide +kernel
theorem d_Text_put_18 : decode b_Text_put 18 = .ok (.iload_n 1, 1) := by decide +kernel
theorem d_Text_put_19 : decode b_Text_put 19 = .ok (.iload_n 2, 1) := by decide +kernel
theorem d_Text_put_20 : decode b_Text_put 20 = .ok (.castore, 1) := by decide +kernel
theorem d_Text_put_21 : decode b_Text_put 21 = .ok (.iconst 1, 1) := by decide +kernel
theorem d_Text_put_22 : decode b_Text_put 22 = .ok (.ireturn, 1) := by decide +kernel
theorem d_Wrapping_init_0 : decode b_Wrapping_init 0 = .ok (.aload_n 0, 1) := by decide +kernel
theorem d_Wrapping_init_1 : decode b_Wrapping_init 1 = .ok (.invokespecial 3, 3) := by decide +kernel
theorem d_Wrapping_init_4 : decode b_Wrapping_init 4 = .ok (.aload_n 0, 1) := by decide +kernel
theorem d_Wrapping_init_5 : decode b_Wrapping_init 5 = .ok (.iload_n 1, 1) := by decide +kernel
theorem d_Wrapping_init_6 : decode b_Wrapping_init 6 = .ok (.putfield 9, 3) := by decide +kernel
theorem d_Wrapping_init_9 : decode b_Wrapping_init 9 = .ok (.return_, 1) := by decide +kernel
theorem d_ClaimsReader_init_0 : decode b_ClaimsReader_init 0 = .ok (.aload_n 0, 1) := by decide +kernel
theorem d_ClaimsReader_init_1 : decode b_ClaimsReader_init 1 = .ok (.invokespecial 3, 3) := by decide +kernel
theorem d_ClaimsReader_init_4 : decode b_ClaimsReader_init 4 = .ok (.aload_n 0, 1) := by decide +kernel
theorem d_ClaimsReader_init_5 : decode b_ClaimsReader_init 5 = .ok (.iconst 5, 1) := by decide +kernel
theorem d_ClaimsReader_init_6 : decode b_ClaimsReader_init 6 = .ok (.newarray .int, 2) := by decide +kernel
theorem d_ClaimsReader_init_8 : decode b_ClaimsReader_init 8 = .ok (.putfield 11, 3) := by decide +kernel
theorem d_ClaimsReader_init_11 : decode b_ClaimsReader_init 11 = .ok (.aload_n 0, 1) := by decide +kernel
theorem d_ClaimsReader_init_12 : decode b_ClaimsReader_init 12 = .ok (.iconst 5, 1) := by decide +kernel
theorem d_ClaimsReader_init_13 : decode b_ClaimsReader_init 13 = .ok (.newarray .boolean, 2) := by decide +kernel
theorem d_ClaimsReader_init_15 : decode b_ClaimsReader_init 15 = .ok (.putfield 15, 3) := by decide +kernel
theorem d_ClaimsReader_init_18 : decode b_ClaimsReader_init 18 = .ok (.aload_n 0, 1) := by decide +kernel
theorem d_ClaimsReader_init_19 : decode b_ClaimsReader_init 19 = .ok (.iconst 0, 1) := by decide +kernel
theorem d_ClaimsReader_init_20 : decode b_ClaimsReader_init 20 = .ok (.putfield 19, 3) := by decide +kernel
theorem d_ClaimsReader_init_23 : decode b_ClaimsReader_init 23 = .ok (.return_, 1) := by decide +kernel
set_option maxRecDepth 20000 in
theorem fF_ClaimsReader_11 : hm_flF vwCl TB R_ClaimsReader 11 7 0 (.array .int) := ⟨_, _, _, _, cl_ClaimsReader, by decide, (TBm 144 (by decide +kernel) rfl), rfl, rfl, rfl⟩
set_option maxRecDepth 20000 in
theorem fF_ClaimsReader_15 : hm_flF vwCl TB R_ClaimsReader 15 7 1 (.array .boolean) := ⟨_, _, _, _, cl_ClaimsReader, by decide, (TBm 145 (by decide +kernel) rfl), rfl, rfl, rfl⟩
set_option maxRecDepth 20000 in
theorem fF_Client_13 : hm_flF vwCl TB R_Client 13 1 1 .int := ⟨_, _, _, _, cl_Client, by decide, (TBm 238 (by decide +kernel) rfl), rfl, rfl, rfl⟩
set_option maxRecDepth 20000 in
theorem fF_Client_16 : hm_flF vwCl TB R_Client 16 1 2 .int := ⟨_, _, _, _, cl_Client, by decide, (TBm 240 (by decide +kernel) rfl), rfl, rfl, rfl⟩
set_option maxRecDepth 20000 in
theorem fF_Client_7 : hm_flF vwCl TB R_Client 7 1 0 .int := ⟨_, _, _, _, cl_Client, by decide, (TBm 236 (by decide +kernel) rfl), rfl, rfl, rfl⟩
set_option maxRecDepth 20000 in
theorem fF_Family_13 : hm_flF vwCl TB R_Family 13 2 0 .int := ⟨_, _, _, _, cl_Family, by decide, (TBm 320 (by decide +kernel) rfl), rfl, rfl, rfl⟩
set_option maxRecDepth 20000 in
theorem fF_Family_17 : hm_flF vwCl TB R_Family 17 2 1 .int := ⟨_, _, _, _, cl_Family, by decide, (TBm 322 (by decide +kernel) rfl), rfl, rfl, rfl⟩
set_option maxRecDepth 20000 in
theorem fF_Shelf_15 : hm_flF vwCl TB R_Shelf 15 4 0 (.array (.object "GrantServer$Grant")) := ⟨_, _, _, _, cl_Shelf, by decide, (TBm 117 (by decide +kernel) rfl), rfl, rfl, rfl⟩
set_option maxRecDepth 20000 in
theorem fF_Text_11 : hm_flF vwCl TB R_Text 11 5 0 (.array .char) := ⟨_, _, _, _, cl_Text, by decide, (TBm 130 (by decide +kernel) rfl), rfl, rfl, rfl⟩
set_option maxRecDepth 20000 in
theorem fF_Wrapping_9 : hm_flF vwCl TB R_Wrapping 9 6 0 .int := ⟨_, _, _, _, cl_Wrapping, by decide, (TBm 162 (by decide +kernel) rfl), rfl, rfl, rfl⟩
set_option maxRecDepth 20000 in
theorem fl_ClaimsReader_19 : hm_fl vwCl TB R_ClaimsReader 19 7 2 false .int := ⟨_, _, _, _, cl_ClaimsReader, by decide, (TBm 146 (by decide +kernel) rfl), rfl, rfl⟩
set_option maxRecDepth 20000 in
theorem fl_Family_7 : hm_fl vwCl TB R_Family 7 2 2 false .boolean := ⟨_, _, _, _, cl_Family, by decide, (TBm 324 (by decide +kernel) rfl), rfl, rfl⟩
set_option maxRecDepth 20000 in
theorem fl_Grant_13 : hm_fl vwCl TB R_Grant 13 3 1 false .int := ⟨_, _, _, _, cl_Grant, by decide, (TBm 82 (by decide +kernel) rfl), rfl, rfl⟩
set_option maxRecDepth 20000 in
theorem fl_Grant_16 : hm_fl vwCl TB R_Grant 16 3 2 false .int := ⟨_, _, _, _, cl_Grant, by decide, (TBm 85 (by decide +kernel) rfl), rfl, rfl⟩
set_option maxRecDepth 20000 in
theorem fl_Grant_19 : hm_fl vwCl TB R_Grant 19 3 3 false .int := ⟨_, _, _, _, cl_Grant, by decide, (TBm 87 (by decide +kernel) rfl), rfl, rfl⟩
set_option maxRecDepth 20000 in
theorem fl_Grant_22 : hm_fl vwCl TB R_Grant 22 3 8 false (.object "GrantServer$Family") := ⟨_, _, _, _, cl_Grant, by decide, (TBm 96 (by decide +kernel) rfl), rfl, rfl⟩
set_option maxRecDepth 20000 in
theorem fl_Grant_26 : hm_fl vwCl TB R_Grant 26 3 6 false .boolean := ⟨_, _, _, _, cl_Grant, by decide, (TBm 92 (by decide +kernel) rfl), rfl, rfl⟩
set_option maxRecDepth 20000 in
theorem fl_Grant_30 : hm_fl vwCl TB R_Grant 30 3 7 false .boolean := ⟨_, _, _, _, cl_Grant, by decide, (TBm 94 (by decide +kernel) rfl), rfl, rfl⟩
set_option maxRecDepth 20000 in
theorem fl_Grant_33 : hm_fl vwCl TB R_Grant 33 2 2 false .boolean := ⟨_, _, _, _, cl_Family, by decide, (TBm 325 (by decide +kernel) rfl), rfl, rfl⟩
set_option maxRecDepth 20000 in
theorem fl_Grant_7 : hm_fl vwCl TB R_Grant 7 3 0 false .int := ⟨_, _, _, _, cl_Grant, by decide, (TBm 79 (by decide +kernel) rfl), rfl, rfl⟩
set_option maxRecDepth 20000 in
theorem fl_Shelf_15 : hm_fl vwCl TB R_Shelf 15 4 0 true (.array (.object "GrantServer$Grant")) := ⟨_, _, _, _, cl_Shelf, by decide, (TBm 117 (by decide +kernel) rfl), rfl, rfl⟩
set_option maxRecDepth 20000 in
theorem fl_Shelf_7 : hm_fl vwCl TB R_Shelf 7 4 1 false .int := ⟨_, _, _, _, cl_Shelf, by decide, (TBm 118 (by decide +kernel) rfl), rfl, rfl⟩
set_option maxRecDepth 20000 in
theorem fl_Text_11 : hm_fl vwCl TB R_Text 11 5 0 true (.array .char) := ⟨_, _, _, _, cl_Text, by decide, (TBm 130 (by decide +kernel) rfl), rfl, rfl⟩
set_option maxRecDepth 20000 in
theorem fl_Text_15 : hm_fl vwCl TB R_Text 15 5 1 false .int := ⟨_, _, _, _, cl_Text, by decide, (TBm 131 (by decide +kernel) rfl), rfl, rfl⟩
set_option maxRecDepth 20000 in
theorem me_Grant_init : hm_meI y_Grant_init b_Grant_init 1 0 := ⟨⟨(TBm 77 rfl rfl), (TBm 42 (by decide +kernel) rfl), by decide +kernel⟩, (TBm 76 (by decide +kernel) rfl), rfl⟩
set_option maxRecDepth 20000 in
theorem nw_Shelf_13 : hm_nw vwCl TB R_Shelf 13 3 9 [.int 0, .int 0, .int 0, .int 0, .int 0, .int 0, .int 0, .int 0, .null] := ⟨_, _, _, cl_Grant, (TBm 72 (by decide +kernel) rfl), (TBm 74 (by decide +kernel) rfl), (TBm 42 (by decide +kernel) rfl), by decide +kernel⟩
set_option maxRecDepth 20000 in
theorem wa_0 : Cond.arrayClass .int ∈ TB := TBm 154 (by decide +kernel) rfl
set_option maxRecDepth 20000 in
theorem wa_1 : Cond.arrayClass .boolean ∈ TB := TBm 155 (by decide +kernel) rfl
set_option maxRecDepth 20000 in
theorem wa_2 : Cond.arrayClass .char ∈ TB := TBm 137 (by decide +kernel) rfl
set_option maxRecDepth 20000 in
theorem wd_JObject_init : Cond.code objectInit ⟨#[0xb1]⟩ 1 none ∈ TB := TBm 63 rfl rfl
set_option maxRecDepth 20000 in
theorem wd_Mmax : Cond.code Lib.Math.max.name Lib.Math.max.code 2 (some .int) ∈ TB := TBm 174 (by decide +kernel) rfl
set_option maxRecDepth 20000 in
theorem wd_Mmin : Cond.code Lib.Math.min.name Lib.Math.min.code 2 (some .int) ∈ TB := TBm 171 (by decide +kernel) rfl
set_option maxRecDepth 20000 in
theorem wi_JObject_init : Cond.instanceMethod objectInit ∈ TB := TBm 62 (by decide +kernel) rfl
set_option maxRecDepth 20000 in
theorem wk_Shelf_13 : Cond.classLink R_Shelf 13 "GrantServer$Grant" ∈ TB := TBm 72 (by decide +kernel) rfl
set_option maxRecDepth 20000 in
theorem wl_ClaimsReader_3 : Cond.methodLink R_ClaimsReader 3 objectInit ∈ TB := TBm 143 (by decide +kernel) rfl
set_option maxRecDepth 20000 in
theorem wl_Client_1 : Cond.methodLink R_Client 1 objectInit ∈ TB := TBm 235 (by decide +kernel) rfl
set_option maxRecDepth 20000 in
theorem wl_Family_1 : Cond.methodLink R_Family 1 objectInit ∈ TB := TBm 319 (by decide +kernel) rfl
set_option maxRecDepth 20000 in
theorem wl_GrantServer_243 : Cond.methodLink R_GrantServer 243 Lib.Math.min.name ∈ TB := TBm 169 (by decide +kernel) rfl
set_option maxRecDepth 20000 in
theorem wl_GrantServer_248 : Cond.methodLink R_GrantServer 248 Lib.Math.max.name ∈ TB := TBm 172 (by decide +kernel) rfl
set_option maxRecDepth 20000 in
theorem wl_Grant_1 : Cond.methodLink R_Grant 1 objectInit ∈ TB := TBm 78 (by decide +kernel) rfl
set_option maxRecDepth 20000 in
theorem wl_Shelf_1 : Cond.methodLink R_Shelf 1 objectInit ∈ TB := TBm 71 (by decide +kernel) rfl
set_option maxRecDepth 20000 in
theorem wl_Shelf_19 : Cond.methodLink R_Shelf 19 y_Grant_init ∈ TB := TBm 75 (by decide +kernel) rfl
set_option maxRecDepth 20000 in
theorem wl_Text_3 : Cond.methodLink R_Text 3 objectInit ∈ TB := TBm 129 (by decide +kernel) rfl
set_option maxRecDepth 20000 in
theorem wl_Wrapping_3 : Cond.methodLink R_Wrapping 3 objectInit ∈ TB := TBm 161 (by decide +kernel) rfl
set_option maxRecDepth 20000 in
theorem wn_Math : Cond.initialized "java/lang/Math" ∈ TB := TBm 46 (by decide +kernel) rfl
set_option maxRecDepth 20000 in
theorem ws_Mmax : Cond.static Lib.Math.max.name ∈ TB := TBm 173 (by decide +kernel) rfl
set_option maxRecDepth 20000 in
theorem ws_Mmin : Cond.static Lib.Math.min.name ∈ TB := TBm 170 (by decide +kernel) rfl
set_option maxHeartbeats 4000000 in
set_option maxRecDepth 100000 in
theorem c_Client_init (l : Launch) (D : va_G) (k : Nat → ClassId) (f : hm) (h : Nat) (a : Int32) (b : Int32) (d : Int32) (hh : f h = some (.inr (1, [.int 0, .int 0, .int 0]))) : hm_Mv l D vwCl (tyL k) y_Client_init (Cond.code y_Client_init b_Client_init 4 none :: TB) ({ frames := 1, cells := 0, slots := 0, locals := 20 }) [.ref h, .int a, .int b, .int d] f (fun (f1 : hm) => f1 h = some (.inr (1, [.int a, .int b, .int d])) ∧ ∀ (q : Nat) (x : va_E), q ≠ h → f q = some x → f1 q = some x) 0 0 := by
  refine hm_enter (Qc := fun sz => va_Qv _ (hm_R D vwCl (tyL k) f sz) (hm_A f sz)) (by decide) rfl (Nat.le_of_ble_eq_true rfl) ?_
  intro p e s m below meth cd ls X0 hr hlk hin hK hM hS hA hl Q hQ
  have X : CallFix p m cd b_Client_init 4 s ([.ref h, .int a, .int b, .int d] : List Value).toArray TB R_Client := ⟨X0.1, X0.2.1, X0.2.2.1, X0.2.2.2.1, fun w h => X0.2.2.2.2 w (List.mem_cons_of_mem _ h)⟩
  have hx := X.1; have hb := X.2.1; have hml := X.2.2.1; have hown := X.2.2.2.1; have hts := X.2.2.2.2
  have hl : lv_has ls 4 [(0, .ref h), (1, .int a), (2, .int b), (3, .int d)] := hl
  refine lv_aload_n hx hb d_Client_init_0 rfl (lv_at hl 0 rfl) ?_
  refine W.objInit hx hb hown (hts _ wl_Client_1) (hts _ wi_JObject_init) (hts _ wd_JObject_init) rfl (by rw [hml]; exact hl.1) rfl d_Client_init_1 (Nat.le_of_ble_eq_true rfl) (Nat.le_of_ble_eq_true rfl) ?_
  refine W.eq (g2 := F0 m 4 ls []) rfl ?_
  refine lv_aload_n hx hb d_Client_init_4 rfl (lv_at hl 0 rfl) ?_
  refine lv_iload_n hx hb d_Client_init_5 rfl (lv_at hl 1 rfl) ?_
  refine hm_putF X hK hM hS (fs' := [.int a, .int 0, .int 0]) hh fF_Client_7 hin rfl rfl (Nat.le_of_ble_eq_true rfl) rfl d_Client_init_6 (fun f1 H locs e2 hM hS => ?_)
  refine lv_aload_n hx hb d_Client_init_9 rfl (lv_at hl 0 rfl) ?_
  refine lv_iload_n hx hb d_Client_init_10 rfl (lv_at hl 2 rfl) ?_
  have g3 : f1 h = some (.inr (1, [.int a, .int 0, .int 0])) := by rw [e2, hm_up_s]
  refine hm_putF X hK hM hS (fs' := [.int a, .int b, .int 0]) g3 fF_Client_13 hin rfl rfl (Nat.le_of_ble_eq_true rfl) rfl d_Client_init_11 (fun f4 H locs e5 hM hS => ?_)
  refine lv_aload_n hx hb d_Client_init_14 rfl (lv_at hl 0 rfl) ?_
  refine lv_iload_n hx hb d_Client_init_15 rfl (lv_at hl 3 rfl) ?_
  have g6 : f4 h = some (.inr (1, [.int a, .int b, .int 0])) := by rw [e5, hm_up_s]
  refine hm_putF X hK hM hS (fs' := [.int a, .int b, .int d]) g6 fF_Client_16 hin rfl rfl (Nat.le_of_ble_eq_true rfl) rfl d_Client_init_16 (fun f7 H locs e8 hM hS => ?_)
  have g9 : f7 h = some (.inr (1, [.int a, .int b, .int d])) := by rw [e8, hm_up_s]
  exact hm_vret X hQ hr hlk hK hM hS d_Client_init_19 ⟨g9, (fun q x n0 hq => by have t0 := hq; have t1 := hm_keep e2 n0 t0; have t2 := hm_keep e5 n0 t1; have t3 := hm_keep e8 n0 t2; exact t3)⟩
set_option maxHeartbeats 4000000 in
set_option maxRecDepth 100000 in
theorem c_Family_init (l : Launch) (D : va_G) (k : Nat → ClassId) (f : hm) (h : Nat) (a : Int32) (b : Int32) (hh : f h = some (.inr (2, [.int 0, .int 0, .int 0]))) : hm_Mv l D vwCl (tyL k) y_Family_init (Cond.code y_Family_init b_Family_init 3 none :: TB) ({ frames := 1, cells := 0, slots := 0, locals := 20 }) [.ref h, .int a, .int b] f (fun (f1 : hm) => f1 h = some (.inr (2, [.int a, .int b, .int 0])) ∧ ∀ (q : Nat) (x : va_E), q ≠ h → f q = some x → f1 q = some x) 0 0 := by
  refine hm_enter (Qc := fun sz => va_Qv _ (hm_R D vwCl (tyL k) f sz) (hm_A f sz)) (by decide) rfl (Nat.le_of_ble_eq_true rfl) ?_
  intro p e s m below meth cd ls X0 hr hlk hin hK hM hS hA hl Q hQ
  have X : CallFix p m cd b_Family_init 3 s ([.ref h, .int a, .int b] : List Value).toArray TB R_Family := ⟨X0.1, X0.2.1, X0.2.2.1, X0.2.2.2.1, fun w h => X0.2.2.2.2 w (List.mem_cons_of_mem _ h)⟩
  have hx := X.1; have hb := X.2.1; have hml := X.2.2.1; have hown := X.2.2.2.1; have hts := X.2.2.2.2
  have hl : lv_has ls 3 [(0, .ref h), (1, .int a), (2, .int b)] := hl
  refine lv_aload_n hx hb d_Family_init_0 rfl (lv_at hl 0 rfl) ?_
  refine W.objInit hx hb hown (hts _ wl_Family_1) (hts _ wi_JObject_init) (hts _ wd_JObject_init) rfl (by rw [hml]; exact hl.1) rfl d_Family_init_1 (Nat.le_of_ble_eq_true rfl) (Nat.le_of_ble_eq_true rfl) ?_
  refine W.eq (g2 := F0 m 4 ls []) rfl ?_
  refine lv_aload_n hx hb d_Family_init_4 rfl (lv_at hl 0 rfl) ?_
  refine lv_iconst (v := 0) hx hb d_Family_init_5 (by decide) ?_
  refine hm_put X hK hM hS (fs' := [.int 0, .int 0, .int 0]) hh fl_Family_7 rfl rfl (Nat.le_of_ble_eq_true rfl) rfl d_Family_init_6 (fun f1 H locs e2 hM hS => ?_)
  refine lv_aload_n hx hb d_Family_init_9 rfl (lv_at hl 0 rfl) ?_
  refine lv_iload_n hx hb d_Family_init_10 rfl (lv_at hl 1 rfl) ?_
  have g3 : f1 h = some (.inr (2, [.int 0, .int 0, .int 0])) := by rw [e2, hm_up_s]
  refine hm_putF X hK hM hS (fs' := [.int a, .int 0, .int 0]) g3 fF_Family_13 hin rfl rfl (Nat.le_of_ble_eq_true rfl) rfl d_Family_init_11 (fun f4 H locs e5 hM hS => ?_)
  refine lv_aload_n hx hb d_Family_init_14 rfl (lv_at hl 0 rfl) ?_
  refine lv_iload_n hx hb d_Family_init_15 rfl (lv_at hl 2 rfl) ?_
  have g6 : f4 h = some (.inr (2, [.int a, .int 0, .int 0])) := by rw [e5, hm_up_s]
  refine hm_putF X hK hM hS (fs' := [.int a, .int b, .int 0]) g6 fF_Family_17 hin rfl rfl (Nat.le_of_ble_eq_true rfl) rfl d_Family_init_16 (fun f7 H locs e8 hM hS => ?_)
  have g9 : f7 h = some (.inr (2, [.int a, .int b, .int 0])) := by rw [e8, hm_up_s]
  exact hm_vret X hQ hr hlk hK hM hS d_Family_init_19 ⟨g9, (fun q x n0 hq => by have t0 := hq; have t1 := hm_keep e2 n0 t0; have t2 := hm_keep e5 n0 t1; have t3 := hm_keep e8 n0 t2; exact t3)⟩
set_option maxHeartbeats 4000000 in
set_option maxRecDepth 100000 in
theorem c_Grant_init (l : Launch) (D : va_G) (k : Nat → ClassId) (f : hm) (h : Nat) : hm_Mv l D vwCl (tyL k) y_Grant_init (Cond.code y_Grant_init b_Grant_init 1 none :: TB) ({ frames := 1, cells := 0, slots := 0, locals := 20 }) [.ref h] f (fun (f1 : hm) => f = f1) 0 0 := by
  refine hm_enter (Qc := fun sz => va_Qv _ (hm_R D vwCl (tyL k) f sz) (hm_A f sz)) (by decide) rfl (Nat.le_of_ble_eq_true rfl) ?_
  intro p e s m below meth cd ls X0 hr hlk hin hK hM hS hA hl Q hQ
  have X : CallFix p m cd b_Grant_init 1 s ([.ref h] : List Value).toArray TB R_Grant := ⟨X0.1, X0.2.1, X0.2.2.1, X0.2.2.2.1, fun w h => X0.2.2.2.2 w (List.mem_cons_of_mem _ h)⟩
  have hx := X.1; have hb := X.2.1; have hml := X.2.2.1; have hown := X.2.2.2.1; have hts := X.2.2.2.2
  have hl : lv_has ls 1 [(0, .ref h)] := hl
  refine lv_aload_n hx hb d_Grant_init_0 rfl (lv_at hl 0 rfl) ?_
  refine W.objInit hx hb hown (hts _ wl_Grant_1) (hts _ wi_JObject_init) (hts _ wd_JObject_init) rfl (by rw [hml]; exact hl.1) rfl d_Grant_init_1 (Nat.le_of_ble_eq_true rfl) (Nat.le_of_ble_eq_true rfl) ?_
  refine W.eq (g2 := F0 m 4 ls []) rfl ?_
  exact hm_vret X hQ hr hlk hK hM hS d_Grant_init_4 rfl
set_option maxHeartbeats 4000000 in
set_option maxRecDepth 100000 in
theorem c_Text_init (l : Launch) (D : va_G) (k : Nat → ClassId) (f : hm) (h : Nat) (hh : f h = some (.inr (5, [.null, .int 0]))) : hm_Mv l D vwCl (tyL k) y_Text_init (Cond.code y_Text_init b_Text_init 1 none :: TB) ({ frames := 1, cells := 1, slots := 120, locals := 20 }) [.ref h] f (fun (f1 : hm) => ∃ (a : Nat), f a = none ∧ f1 h = some (.inr (5, [.ref a, .int 0])) ∧ f1 a = some (.inl (k 2, 120, .inl (fun _ => 0))) ∧ ∀ (q : Nat) (x : va_E), q ≠ h → f q = some x → f1 q = some x) 1 120 := by
  refine hm_enter (Qc := fun sz => va_Qv _ (hm_R D vwCl (tyL k) f sz) (hm_A f sz)) (by decide) rfl (Nat.le_of_ble_eq_true rfl) ?_
  intro p e s m below meth cd ls X0 hr hlk hin hK hM hS hA hl Q hQ
  have X : CallFix p m cd b_Text_init 1 s ([.ref h] : List Value).toArray TB R_Text := ⟨X0.1, X0.2.1, X0.2.2.1, X0.2.2.2.1, fun w h => X0.2.2.2.2 w (List.mem_cons_of_mem _ h)⟩
  have hx := X.1; have hb := X.2.1; have hml := X.2.2.1; have hown := X.2.2.2.1; have hts := X.2.2.2.2
  have hl : lv_has ls 1 [(0, .ref h)] := hl
  refine lv_aload_n hx hb d_Text_init_0 rfl (lv_at hl 0 rfl) ?_
  refine W.objInit hx hb hown (hts _ wl_Text_3) (hts _ wi_JObject_init) (hts _ wd_JObject_init) rfl (by rw [hml]; exact hl.1) rfl d_Text_init_1 (Nat.le_of_ble_eq_true rfl) (Nat.le_of_ble_eq_true rfl) ?_
  refine W.eq (g2 := F0 m 4 ls []) rfl ?_
  refine lv_aload_n hx hb d_Text_init_4 rfl (lv_at hl 0 rfl) ?_
  refine lv_bipush (v := 120) hx hb d_Text_init_5 (by decide) ?_
  refine hm_newa (atype := .char) (ty := .char) X hK hM hS hA rfl wa_2 2 rfl (N' := 120) (a0 := (120, .inl (fun _ => 0))) (fun _ => rfl) (by decide) (by decide) (by decide) (by decide) (by decide) d_Text_init_7 (fun q1 f2 H e3 z4 hM hS => ?_)
  have g5 : f2 q1 = some (.inl (k 2, 120, .inl (fun _ => 0))) := hm_new1 e3
  have g6 : f2 h = some (.inr (5, [.null, .int 0])) := by rw [e3, hm_up_n (hm_ne0 hh z4)]; exact hh
  refine hm_putF X hK hM hS (fs' := [.ref q1, .int 0]) g6 fF_Text_11 hin rfl rfl (Nat.le_of_ble_eq_true rfl) rfl d_Text_init_9 (fun f7 H locs e8 hM hS => ?_)
  refine lv_aload_n hx hb d_Text_init_12 rfl (lv_at hl 0 rfl) ?_
  refine lv_iconst (v := 0) hx hb d_Text_init_13 (by decide) ?_
  have g9 : f7 h = some (.inr (5, [.ref q1, .int 0])) := by rw [e8, hm_up_s]
  refine hm_put X hK hM hS (fs' := [.ref q1, .int 0]) g9 fl_Text_15 rfl rfl (Nat.le_of_ble_eq_true rfl) rfl d_Text_init_14 (fun f10 H locs e11 hM hS => ?_)
  have g12 : f10 h = some (.inr (5, [.ref q1, .int 0])) := by rw [e11, hm_up_s]
  have g13 : f7 q1 = some (.inl (k 2, 120, .inl (fun _ => 0))) := by rw [e8, hm_up_n ((hm_ne0 hh z4).symm)]; exact g5
  have g14 : f10 q1 = some (.inl (k 2, 120, .inl (fun _ => 0))) := by rw [e11, hm_up_n ((hm_ne0 hh z4).symm)]; exact g13
  exact hm_vret X hQ hr hlk hK hM hS d_Text_init_17 ⟨q1, z4, g12, g14, (fun q x n0 hq => by have t0 := hq; have u1 := hm_ne0 t0 z4; have t1 := hm_keep e3 u1 t0; have t2 := hm_keep e8 n0 t1; have t3 := hm_keep e11 n0 t2; exact t3)⟩
set_option maxHeartbeats 4000000 in
set_option maxRecDepth 100000 in
theorem c_Reader_init (l : Launch) (D : va_G) (k : Nat → ClassId) (f : hm) (h : Nat) (hh : f h = some (.inr (7, [.null, .null, .int 0]))) : hm_Mv l D vwCl (tyL k) y_ClaimsReader_init (Cond.code y_ClaimsReader_init b_ClaimsReader_init 1 none :: TB) ({ frames := 1, cells := 2, slots := 10, locals := 20 }) [.ref h] f (fun (f1 : hm) => ∃ (a : Nat) (b : Nat), f a = none ∧ f b = none ∧ (a ≠ b) ∧ f1 h = some (.inr (7, [.ref a, .ref b, .int 0])) ∧ f1 a = some (.inl (k 0, 5, .inl (fun _ => 0))) ∧ f1 b = some (.inl (k 1, 5, .inl (fun _ => 0))) ∧ ∀ (q : Nat) (x : va_E), q ≠ h → f q = some x → f1 q = some x) 2 10 := by
  refine hm_enter (Qc := fun sz => va_Qv _ (hm_R D vwCl (tyL k) f sz) (hm_A f sz)) (by decide) rfl (Nat.le_of_ble_eq_true rfl) ?_
  intro p e s m below meth cd ls X0 hr hlk hin hK hM hS hA hl Q hQ
  have X : CallFix p m cd b_ClaimsReader_init 1 s ([.ref h] : List Value).toArray TB R_ClaimsReader := ⟨X0.1, X0.2.1, X0.2.2.1, X0.2.2.2.1, fun w h => X0.2.2.2.2 w (List.mem_cons_of_mem _ h)⟩
  have hx := X.1; have hb := X.2.1; have hml := X.2.2.1; have hown := X.2.2.2.1; have hts := X.2.2.2.2
  have hl : lv_has ls 1 [(0, .ref h)] := hl
  refine lv_aload_n hx hb d_ClaimsReader_init_0 rfl (lv_at hl 0 rfl) ?_
  refine W.objInit hx hb hown (hts _ wl_ClaimsReader_3) (hts _ wi_JObject_init) (hts _ wd_JObject_init) rfl (by rw [hml]; exact hl.1) rfl d_ClaimsReader_init_1 (Nat.le_of_ble_eq_true rfl) (Nat.le_of_ble_eq_true rfl) ?_
  refine W.eq (g2 := F0 m 4 ls []) rfl ?_
  refine lv_aload_n hx hb d_ClaimsReader_init_4 rfl (lv_at hl 0 rfl) ?_
  refine lv_iconst (v := 5) hx hb d_ClaimsReader_init_5 (by decide) ?_
  refine hm_newa (atype := .int) (ty := .int) X hK hM hS hA rfl wa_0 0 rfl (N' := 5) (a0 := (5, .inl (fun _ => 0))) (fun _ => rfl) (by decide) (by decide) (by decide) (by decide) (by decide) d_ClaimsReader_init_6 (fun q1 f2 H e3 z4 hM hS => ?_)
  have g5 : f2 q1 = some (.inl (k 0, 5, .inl (fun _ => 0))) := hm_new1 e3
  have g6 : f2 h = some (.inr (7, [.null, .null, .int 0])) := by rw [e3, hm_up_n (hm_ne0 hh z4)]; exact hh
  refine hm_putF X hK hM hS (fs' := [.ref q1, .null, .int 0]) g6 fF_ClaimsReader_11 hin rfl rfl (Nat.le_of_ble_eq_true rfl) rfl d_ClaimsReader_init_8 (fun f7 H locs e8 hM hS => ?_)
  refine lv_aload_n hx hb d_ClaimsReader_init_11 rfl (lv_at hl 0 rfl) ?_
  refine lv_iconst (v := 5) hx hb d_ClaimsReader_init_12 (by decide) ?_
  have g13 : f7 h = some (.inr (7, [.ref q1, .null, .int 0])) := by rw [e8, hm_up_s]
  have g14 : f7 q1 = some (.inl (k 0, 5, .inl (fun _ => 0))) := by rw [e8, hm_up_n ((hm_ne0 hh z4).symm)]; exact g5
  refine hm_newa (atype := .boolean) (ty := .boolean) X hK hM hS hA rfl wa_1 1 rfl (N' := 5) (a0 := (5, .inl (fun _ => 0))) (fun _ => rfl) (by decide) (by decide) (by decide) (by decide) (by decide) d_ClaimsReader_init_13 (fun q9 f10 H e11 z12 hM hS => ?_)
  have g15 : f10 q9 = some (.inl (k 1, 5, .inl (fun _ => 0))) := hm_new1 e11
  have g16 : f10 h = some (.inr (7, [.ref q1, .null, .int 0])) := by rw [e11, hm_up_n (hm_ne0 g13 z12)]; exact g13
  refine hm_putF X hK hM hS (fs' := [.ref q1, .ref q9, .int 0]) g16 fF_ClaimsReader_15 hin rfl rfl (Nat.le_of_ble_eq_true rfl) rfl d_ClaimsReader_init_15 (fun f17 H locs e18 hM hS => ?_)
  refine lv_aload_n hx hb d_ClaimsReader_init_18 rfl (lv_at hl 0 rfl) ?_
  refine lv_iconst (v := 0) hx hb d_ClaimsReader_init_19 (by decide) ?_
  have g19 : f17 h = some (.inr (7, [.ref q1, .ref q9, .int 0])) := by rw [e18, hm_up_s]
  refine hm_put X hK hM hS (fs' := [.ref q1, .ref q9, .int 0]) g19 fl_ClaimsReader_19 rfl rfl (Nat.le_of_ble_eq_true rfl) rfl d_ClaimsReader_init_20 (fun f20 H locs e21 hM hS => ?_)
  have g22 : f20 h = some (.inr (7, [.ref q1, .ref q9, .int 0])) := by rw [e21, hm_up_s]
  have g23 : f10 q1 = some (.inl (k 0, 5, .inl (fun _ => 0))) := by rw [e11, hm_up_n (hm_ne0 g14 z12)]; exact g14
  have g24 : f17 q1 = some (.inl (k 0, 5, .inl (fun _ => 0))) := by rw [e18, hm_up_n ((hm_ne0 hh z4).symm)]; exact g23
  have g25 : f20 q1 = some (.inl (k 0, 5, .inl (fun _ => 0))) := by rw [e21, hm_up_n ((hm_ne0 hh z4).symm)]; exact g24
  have g26 : f17 q9 = some (.inl (k 1, 5, .inl (fun _ => 0))) := by rw [e18, hm_up_n ((hm_ne0 g13 z12).symm)]; exact g15
  have g27 : f20 q9 = some (.inl (k 1, 5, .inl (fun _ => 0))) := by rw [e21, hm_up_n ((hm_ne0 g13 z12).symm)]; exact g26
  exact hm_vret X hQ hr hlk hK hM hS d_ClaimsReader_init_23 ⟨q1, q9, z4, (hm_none e3 (hm_none e8 z12)), (hm_ne0 g14 z12), g22, g25, g27, (fun q x n0 hq => by have t0 := hq; have u1 := hm_ne0 t0 z4; have t1 := hm_keep e3 u1 t0; have t2 := hm_keep e8 n0 t1; have u2 := hm_ne0 t2 z12; have t3 := hm_keep e11 u2 t2; have t4 := hm_keep e18 n0 t3; have t5 := hm_keep e21 n0 t4; exact t5)⟩
set_option maxHeartbeats 4000000 in
set_option maxRecDepth 100000 in
theorem c_Wrapping_init (l : Launch) (D : va_G) (k : Nat → ClassId) (f : hm) (h : Nat) (x : Int32) (hh : f h = some (.inr (6, [.int 0]))) : hm_Mv l D vwCl (tyL k) y_Wrapping_init (Cond.code y_Wrapping_init b_Wrapping_init 2 none :: TB) ({ frames := 1, cells := 0, slots := 0, locals := 20 }) [.ref h, .int x] f (fun (f1 : hm) => f1 h = some (.inr (6, [.int x])) ∧ ∀ (q : Nat) (x : va_E), q ≠ h → f q = some x → f1 q = some x) 0 0 := by
  refine hm_enter (Qc := fun sz => va_Qv _ (hm_R D vwCl (tyL k) f sz) (hm_A f sz)) (by decide) rfl (Nat.le_of_ble_eq_true rfl) ?_
  intro p e s m below meth cd ls X0 hr hlk hin hK hM hS hA hl Q hQ
  have X : CallFix p m cd b_Wrapping_init 2 s ([.ref h, .int x] : List Value).toArray TB R_Wrapping := ⟨X0.1, X0.2.1, X0.2.2.1, X0.2.2.2.1, fun w h => X0.2.2.2.2 w (List.mem_cons_of_mem _ h)⟩
  have hx := X.1; have hb := X.2.1; have hml := X.2.2.1; have hown := X.2.2.2.1; have hts := X.2.2.2.2
  have hl : lv_has ls 2 [(0, .ref h), (1, .int x)] := hl
  refine lv_aload_n hx hb d_Wrapping_init_0 rfl (lv_at hl 0 rfl) ?_
  refine W.objInit hx hb hown (hts _ wl_Wrapping_3) (hts _ wi_JObject_init) (hts _ wd_JObject_init) rfl (by rw [hml]; exact hl.1) rfl d_Wrapping_init_1 (Nat.le_of_ble_eq_true rfl) (Nat.le_of_ble_eq_true rfl) ?_
  refine W.eq (g2 := F0 m 4 ls []) rfl ?_
  refine lv_aload_n hx hb d_Wrapping_init_4 rfl (lv_at hl 0 rfl) ?_
  refine lv_iload_n hx hb d_Wrapping_init_5 rfl (lv_at hl 1 rfl) ?_
  refine hm_putF X hK hM hS (fs' := [.int x]) hh fF_Wrapping_9 hin rfl rfl (Nat.le_of_ble_eq_true rfl) rfl d_Wrapping_init_6 (fun f1 H locs e2 hM hS => ?_)
  have g3 : f1 h = some (.inr (6, [.int x])) := by rw [e2, hm_up_s]
  exact hm_vret X hQ hr hlk hK hM hS d_Wrapping_init_9 ⟨g3, (fun q x n0 hq => by have t0 := hq; have t1 := hm_keep e2 n0 t0; exact t1)⟩
set_option maxHeartbeats 4000000 in
set_option maxRecDepth 100000 in
theorem c_Shelf_init (l : Launch) (D : va_G) (k : Nat → ClassId) (f : hm) (h : Nat) (N : Nat) (hh : f h = some (.inr (4, [.null, .int 0]))) (hN : N ≤ 24) : hm_Mv l D vwCl (tyL k) y_Shelf_init (Cond.code y_Shelf_init b_Shelf_init 3 none :: TB) ({ frames := 2, cells := (1 + N), slots := (N + 9 * N), locals := 40 }) [.ref h, .int (nI N)] f (fun (f1 : hm) => ∃ (a : Nat) (g : Nat → Option Nat), f a = none ∧ (hm_rows0 f f1 g N) ∧ f1 h = some (.inr (4, [.ref a, .int 0])) ∧ f1 a = some (.inl (k 3, N, .inr (.inr (.inr (.inr g))))) ∧ ∀ (q : Nat) (x : va_E), q ≠ h → f q = some x → f1 q = some x) (1 + N) (N + 9 * N) := by
  refine hm_enter (Qc := fun sz => va_Qv _ (hm_R D vwCl (tyL k) f sz) (hm_A f sz)) (by decide) rfl (Nat.le_of_ble_eq_true rfl) ?_
  intro p e s m below meth cd ls X0 hr hlk hin hK hM hS hA hl Q hQ
  have X : CallFix p m cd b_Shelf_init 3 s ([.ref h, .int (nI N)] : List Value).toArray TB R_Shelf := ⟨X0.1, X0.2.1, X0.2.2.1, X0.2.2.2.1, fun w h => X0.2.2.2.2 w (List.mem_cons_of_mem _ h)⟩
  have hx := X.1; have hb := X.2.1; have hml := X.2.2.1; have hown := X.2.2.2.1; have hts := X.2.2.2.2
  have hl : lv_has ls 3 [(0, .ref h), (1, .int (nI N))] := hl
  refine lv_aload_n hx hb d_Shelf_init_0 rfl (lv_at hl 0 rfl) ?_
  refine W.objInit hx hb hown (hts _ wl_Shelf_1) (hts _ wi_JObject_init) (hts _ wd_JObject_init) rfl (by rw [hml]; exact hl.1) rfl d_Shelf_init_1 (Nat.le_of_ble_eq_true rfl) (Nat.le_of_ble_eq_true rfl) ?_
  refine W.eq (g2 := F0 m 4 ls []) rfl ?_
  refine lv_aload_n hx hb d_Shelf_init_4 rfl (lv_at hl 0 rfl) ?_
  refine lv_iconst (v := 0) hx hb d_Shelf_init_5 (by decide) ?_
  refine hm_put X hK hM hS (fs' := [.null, .int 0]) hh fl_Shelf_7 rfl rfl (Nat.le_of_ble_eq_true rfl) rfl d_Shelf_init_6 (fun f1 H locs e2 hM hS => ?_)
  refine lv_aload_n hx hb d_Shelf_init_9 rfl (lv_at hl 0 rfl) ?_
  refine lv_iload_n hx hb d_Shelf_init_10 rfl (lv_at hl 1 rfl) ?_
  have g7 : f1 h = some (.inr (4, [.null, .int 0])) := by rw [e2, hm_up_s]
  refine hm_newq X hK hM hS hA wk_Shelf_13 (by decide) 3 rfl (N' := N) (nI_pos (by omega)) (nI_clamp (by omega)) (by omega) (by show 0 + 1 ≤ 1 + N; omega) (by show 0 + N ≤ N + 9 * N; omega) d_Shelf_init_11 (fun q3 f4 H e5 z6 hM hS => ?_)
  have g8 : f4 q3 = some (.inl (k 3, N, .inr (.inr (.inr (.inr (fun _ => none)))))) := hm_new1 e5
  have g9 : f4 h = some (.inr (4, [.null, .int 0])) := by rw [e5, hm_up_n (hm_ne0 g7 z6)]; exact g7
  refine hm_putF X hK hM hS (fs' := [.ref q3, .int 0]) g9 fF_Shelf_15 hin rfl rfl (Nat.le_of_ble_eq_true rfl) rfl d_Shelf_init_14 (fun f10 H locs e11 hM hS => ?_)
  have za : f q3 = none := (hm_none e2 z6)
  refine lv_iconst (v := 0) hx hb d_Shelf_init_17 (by decide) ?_
  refine lv_istore_n (lv' := [(2, .int 0), (0, .ref h), (1, .int (nI N))]) hx hb d_Shelf_init_18 rfl hl (by decide) rfl (fun ls hl => ?_)
  have g12 : f10 h = some (.inr (4, [.ref q3, .int 0])) := by rw [e11, hm_up_s]
  have g13 : f10 q3 = some (.inl (k 3, N, .inr (.inr (.inr (.inr (fun _ => none)))))) := by rw [e11, hm_up_n ((hm_ne0 g7 z6).symm)]; exact g8
  have loop19 : ∀ (fu : Nat) (j : Nat) (g : Nat → Option Nat) (fL : hm) (H : Heap) (locs : List Loc) (ls : Array Slot) (hmu : N - j < fu) (hj : j ≤ N) (hrows : hm_rows0 f fL g j) (hh : fL h = some (.inr (4, [.ref q3, .int 0]))) (ha : fL q3 = some (.inl (k 3, N, .inr (.inr (.inr (.inr g)))))) (hfr : ∀ (q : Nat) (x : va_E), q ≠ h → f q = some x → fL q = some x) (hM : hm_W D vwCl (hm_A f s.heap.size) fL H) (hS : va_S (hm_A f s.heap.size) s.heap H locs) (hl : lv_has ls 3 [(0, .ref h), (1, .int (nI N)), (2, .int (nI j))]), W p l e ({ frames := 2, cells := (1 + N), slots := (N + 9 * N), locals := 40 }) s m ([.ref h, .int (nI N)] : List Value).toArray below meth cd H locs (1 + j) (N + 9 * j) Q (F0 m 19 ls []) := by
    intro fu
    induction fu with
    | zero => intro j g fL H locs ls hmu; exact absurd hmu (Nat.not_lt_zero _)
    | succ fu ih =>
      intro j g fL H locs ls hmu hj hrows hh ha hfr hM hS hl
      refine lv_iload_n hx hb d_Shelf_init_19 rfl (lv_at hl 2 rfl) ?_
      refine lv_iload_n hx hb d_Shelf_init_20 rfl (lv_at hl 1 rfl) ?_
      refine lv_icmp_ge (tgt := 43) hx hb d_Shelf_init_21 (by decide) (fun h14 => ?_) (fun h14 => ?_)
      · have hjN : j = N := by rw [nI_leI (by omega) (by omega)] at h14; omega
        subst hjN
        skip
        exact hm_vret X hQ hr hlk hK hM hS d_Shelf_init_43 ⟨q3, g, za, hrows, hh, ha, hfr⟩
      · have hlt : j < N := by rw [nI_leI (by omega) (by omega)] at h14; omega
        refine lv_aload_n hx hb d_Shelf_init_24 rfl (lv_at hl 0 rfl) ?_
        refine hm_get X hK hM hh fl_Shelf_15 (v := .ref q3) rfl d_Shelf_init_25 ?_
        refine lv_iload_n hx hb d_Shelf_init_28 rfl (lv_at hl 2 rfl) ?_
        refine hm_new X hK hM hS hA nw_Shelf_13 (by show 1 + j + 1 ≤ 1 + N; omega) (by show N + 9 * j + 9 ≤ N + 9 * N; omega) d_Shelf_init_29 (fun q15 f16 H e17 z18 hM hS => ?_)
        have g19 : f16 q15 = some (.inr (3, [.int 0, .int 0, .int 0, .int 0, .int 0, .int 0, .int 0, .int 0, .null])) := hm_new1 e17
        refine lv_dup hx hb d_Shelf_init_32 rfl ?_
        have g20 : f16 h = some (.inr (4, [.ref q3, .int 0])) := by rw [e17, hm_up_n (hm_ne0 hh z18)]; exact hh
        have g21 : f16 q3 = some (.inl (k 3, N, .inr (.inr (.inr (.inr g))))) := by rw [e17, hm_up_n (hm_ne0 ha z18)]; exact ha
        refine hm_callv hS hM hA (va_runI (As := []) (rest := [.ref q15, .int (nI j), .ref q3]) X (c_Grant_init l D k f16 q15   H.size) (hm_cwI hts me_Grant_init wl_Shelf_19 rfl rfl ⟨Nat.le_of_ble_eq_true rfl, Nat.le_of_ble_eq_true rfl⟩) (hm_preS hM hK) rfl rfl hl.1 rfl (lv_room (Nat.le_of_ble_eq_true rfl)) d_Shelf_init_33 ⟨by show 1 + j + 1 + 0 ≤ 1 + N; omega, by show N + 9 * j + 9 + 0 ≤ N + 9 * N; omega⟩) (fun f22 H locs p23 hM hS => ?_)
        subst p23
        refine hm_aast X hK hM hS g21 g19 rfl 3 rfl j rfl hlt (by omega) d_Shelf_init_36 (fun f24 H locs e25 hM hS => ?_)
        refine lv_iinc (lv' := [(2, .int (nI (j + 1))), (0, .ref h), (1, .int (nI N))]) hx hb d_Shelf_init_37 hl (k := 2) rfl (hm_inc _) (by decide) rfl (fun ls hl => ?_)
        refine lv_goto (tgt := 19) hx hb d_Shelf_init_40 (by decide) ?_
        have g26 : f24 q15 = some (.inr (3, [.int 0, .int 0, .int 0, .int 0, .int 0, .int 0, .int 0, .int 0, .null])) := by rw [e25, hm_up_n ((hm_ne0 ha z18).symm)]; exact g19
        have g27 : f24 h = some (.inr (4, [.ref q3, .int 0])) := by rw [e25, hm_up_n (hm_ne0 g7 z6)]; exact g20
        have g28 : f24 q3 = some (.inl (k 3, N, .inr (.inr (.inr (.inr (va_up g j (some q15))))))) := by rw [e25, hm_up_s]
        refine hm_cs (cells' := 1 + (j + 1)) (slots' := N + 9 * (j + 1)) (by omega) (by omega) ?_
        exact ih (j + 1) (va_up g j (some q15)) f24 H locs ls (by omega) (by omega) (hm_rows0_add hrows ha z18 (hm_noneF (fun x hq => hfr _ _ (hm_ne0 hh z18).symm hq) z18) g26 (fun b y n0 hq => hm_keep e25 n0 (hm_keep e17 (hm_ne0 hq z18) hq))) g27 g28 (fun q x n0 hq => hm_keep e25 (hm_ne0 hq za) (hm_keep e17 (hm_ne0 (hfr _ _ n0 hq) z18) (hfr _ _ n0 hq))) hM hS (lv_sub hl [1, 2, 0] rfl)
  refine hm_cs (cells' := 1 + 0) (slots' := N + 9 * 0) (by omega) (by omega) ?_
  exact loop19 _ 0 (fun _ => none) f10 H locs ls (Nat.lt_succ_self _) (Nat.zero_le _) hm_rows0_0 g12 g13 (fun q x n0 hq => by have t0 := hq; have t1 := hm_keep e2 n0 t0; have u1 := hm_ne0 t1 z6; have t2 := hm_keep e5 u1 t1; have t3 := hm_keep e11 n0 t2; exact t3) hM hS (lv_sub hl [1, 2, 0] rfl)
set_option maxHeartbeats 4000000 in
set_option maxRecDepth 100000 in
theorem c_isSomeScopes (l : Launch) (D : va_G) (k : Nat → ClassId) (f : hm) (x : Int32) : hm_Mi l D vwCl (tyL k) y_GrantServer_isSomeScopes (Cond.code y_GrantServer_isSomeScopes b_GrantServer_isSomeScopes 1 (some .boolean) :: TB) ({ frames := 0, cells := 0, slots := 0, locals := 0 }) [.int x] f (fun (r : Int32) (f1 : hm) => z_some x = r ∧ f = f1) 0 0 := by
  refine hm_enter (Qc := fun sz => va_Qi _ (hm_R D vwCl (tyL k) f sz) (hm_A f sz)) (by decide) rfl (Nat.le_of_ble_eq_true rfl) ?_
  intro p e s m below meth cd ls X0 hr hlk hin hK hM hS hA hl Q hQ
  have X : CallFix p m cd b_GrantServer_isSomeScopes 1 s ([.int x] : List Value).toArray TB R_GrantServer := ⟨X0.1, X0.2.1, X0.2.2.1, X0.2.2.2.1, fun w h => X0.2.2.2.2 w (List.mem_cons_of_mem _ h)⟩
  have hx := X.1; have hb := X.2.1; have hml := X.2.2.1; have hown := X.2.2.2.1; have hts := X.2.2.2.2
  have hl : lv_has ls 1 [(0, .int x)] := hl
  refine lv_iload_n hx hb d_GrantServer_isSomeScopes_0 rfl (lv_at hl 0 rfl) ?_
  refine lv_iconst (v := 1) hx hb d_GrantServer_isSomeScopes_1 (by decide) ?_
  refine lv_icmp_lt (tgt := 15) hx hb d_GrantServer_isSomeScopes_2 (by decide) (fun h1 => ?_) (fun h1 => ?_)
  · refine lv_iconst (v := 0) hx hb d_GrantServer_isSomeScopes_15 (by decide) ?_
    exact hm_zret X hQ hr hlk hK hM hS rfl d_GrantServer_isSomeScopes_16 ⟨(by simp [z_some, h1]), rfl⟩
  · refine lv_iload_n hx hb d_GrantServer_isSomeScopes_5 rfl (lv_at hl 0 rfl) ?_
    refine lv_bipush (v := 15) hx hb d_GrantServer_isSomeScopes_6 (by decide) ?_
    refine lv_icmp_gt (tgt := 15) hx hb d_GrantServer_isSomeScopes_8 (by decide) (fun h2 => ?_) (fun h2 => ?_)
    · refine lv_iconst (v := 0) hx hb d_GrantServer_isSomeScopes_15 (by decide) ?_
      exact hm_zret X hQ hr hlk hK hM hS rfl d_GrantServer_isSomeScopes_16 ⟨(by simp [z_some, h1, h2]), rfl⟩
    · refine lv_iconst (v := 1) hx hb d_GrantServer_isSomeScopes_11 (by decide) ?_
      refine lv_goto (tgt := 16) hx hb d_GrantServer_isSomeScopes_12 (by decide) ?_
      exact hm_zret X hQ hr hlk hK hM hS rfl d_GrantServer_isSomeScopes_16 ⟨(by simp [z_some, h1, h2]), rfl⟩
set_option maxHeartbeats 4000000 in
set_option maxRecDepth 100000 in
theorem c_isWithin (l : Launch) (D : va_G) (k : Nat → ClassId) (f : hm) (x : Int32) (y : Int32) : hm_Mi l D vwCl (tyL k) y_GrantServer_isWithin (Cond.code y_GrantServer_isWithin b_GrantServer_isWithin 2 (some .boolean) :: TB) ({ frames := 0, cells := 0, slots := 0, locals := 0 }) [.int x, .int y] f (fun (r : Int32) (f1 : hm) => z_within x y = r ∧ f = f1) 0 0 := by
  refine hm_enter (Qc := fun sz => va_Qi _ (hm_R D vwCl (tyL k) f sz) (hm_A f sz)) (by decide) rfl (Nat.le_of_ble_eq_true rfl) ?_
  intro p e s m below meth cd ls X0 hr hlk hin hK hM hS hA hl Q hQ
  have X : CallFix p m cd b_GrantServer_isWithin 2 s ([.int x, .int y] : List Value).toArray TB R_GrantServer := ⟨X0.1, X0.2.1, X0.2.2.1, X0.2.2.2.1, fun w h => X0.2.2.2.2 w (List.mem_cons_of_mem _ h)⟩
  have hx := X.1; have hb := X.2.1; have hml := X.2.2.1; have hown := X.2.2.2.1; have hts := X.2.2.2.2
  have hl : lv_has ls 2 [(0, .int x), (1, .int y)] := hl
  refine lv_iload_n hx hb d_GrantServer_isWithin_0 rfl (lv_at hl 0 rfl) ?_
  refine lv_iload_n hx hb d_GrantServer_isWithin_1 rfl (lv_at hl 1 rfl) ?_
  refine lv_iconst (v := (-1)) hx hb d_GrantServer_isWithin_2 (by decide) ?_
  refine lv_ixor hx hb d_GrantServer_isWithin_3 ?_
  refine lv_iand hx hb d_GrantServer_isWithin_4 ?_
  refine lv_if_ne (tgt := 12) hx hb d_GrantServer_isWithin_5 (by decide) (fun h1 => ?_) (fun h1 => ?_)
  · refine lv_iconst (v := 0) hx hb d_GrantServer_isWithin_12 (by decide) ?_
    exact hm_zret X hQ hr hlk hK hM hS rfl d_GrantServer_isWithin_13 ⟨(if_neg h1), rfl⟩
  · refine lv_iconst (v := 1) hx hb d_GrantServer_isWithin_8 (by decide) ?_
    refine lv_goto (tgt := 13) hx hb d_GrantServer_isWithin_9 (by decide) ?_
    exact hm_zret X hQ hr hlk hK hM hS rfl d_GrantServer_isWithin_13 ⟨(if_pos h1), rfl⟩
set_option maxHeartbeats 4000000 in
set_option maxRecDepth 100000 in
theorem c_isWritable (l : Launch) (D : va_G) (k : Nat → ClassId) (f : hm) (x : Int32) : hm_Mi l D vwCl (tyL k) y_GrantServer_isWritable (Cond.code y_GrantServer_isWritable b_GrantServer_isWritable 1 (some .boolean) :: TB) ({ frames := 0, cells := 0, slots := 0, locals := 0 }) [.int x] f (fun (r : Int32) (f1 : hm) => z_text x = r ∧ f = f1) 0 0 := by
  refine hm_enter (Qc := fun sz => va_Qi _ (hm_R D vwCl (tyL k) f sz) (hm_A f sz)) (by decide) rfl (Nat.le_of_ble_eq_true rfl) ?_
  intro p e s m below meth cd ls X0 hr hlk hin hK hM hS hA hl Q hQ
  have X : CallFix p m cd b_GrantServer_isWritable 1 s ([.int x] : List Value).toArray TB R_GrantServer := ⟨X0.1, X0.2.1, X0.2.2.1, X0.2.2.2.1, fun w h => X0.2.2.2.2 w (List.mem_cons_of_mem _ h)⟩
  have hx := X.1; have hb := X.2.1; have hml := X.2.2.1; have hown := X.2.2.2.1; have hts := X.2.2.2.2
  have hl : lv_has ls 1 [(0, .int x)] := hl
  refine lv_iload_n hx hb d_GrantServer_isWritable_0 rfl (lv_at hl 0 rfl) ?_
  refine lv_bipush (v := 32) hx hb d_GrantServer_isWritable_1 (by decide) ?_
  refine lv_icmp_lt (tgt := 16) hx hb d_GrantServer_isWritable_3 (by decide) (fun h1 => ?_) (fun h1 => ?_)
  · refine lv_iconst (v := 0) hx hb d_GrantServer_isWritable_16 (by decide) ?_
    exact hm_zret X hQ hr hlk hK hM hS rfl d_GrantServer_isWritable_17 ⟨(by simp [z_text, h1]), rfl⟩
  · refine lv_iload_n hx hb d_GrantServer_isWritable_6 rfl (lv_at hl 0 rfl) ?_
    refine lv_bipush (v := 126) hx hb d_GrantServer_isWritable_7 (by decide) ?_
    refine lv_icmp_gt (tgt := 16) hx hb d_GrantServer_isWritable_9 (by decide) (fun h2 => ?_) (fun h2 => ?_)
    · refine lv_iconst (v := 0) hx hb d_GrantServer_isWritable_16 (by decide) ?_
      exact hm_zret X hQ hr hlk hK hM hS rfl d_GrantServer_isWritable_17 ⟨(by simp [z_text, h1, h2]), rfl⟩
    · refine lv_iconst (v := 1) hx hb d_GrantServer_isWritable_12 (by decide) ?_
      refine lv_goto (tgt := 17) hx hb d_GrantServer_isWritable_13 (by decide) ?_
      exact hm_zret X hQ hr hlk hK hM hS rfl d_GrantServer_isWritable_17 ⟨(by simp [z_text, h1, h2]), rfl⟩
set_option maxHeartbeats 4000000 in
set_option maxRecDepth 100000 in
theorem c_keptLife (l : Launch) (D : va_G) (k : Nat → ClassId) (f : hm) (x : Int32) : hm_Mi l D vwCl (tyL k) y_GrantServer_keptLife (Cond.code y_GrantServer_keptLife b_GrantServer_keptLife 1 (some .int) :: TB) ({ frames := 1, cells := 0, slots := 0, locals := 24 }) [.int x] f (fun (r : Int32) (f1 : hm) => z_kept x = r ∧ f = f1) 0 0 := by
  refine hm_enter (Qc := fun sz => va_Qi _ (hm_R D vwCl (tyL k) f sz) (hm_A f sz)) (by decide) rfl (Nat.le_of_ble_eq_true rfl) ?_
  intro p e s m below meth cd ls X0 hr hlk hin hK hM hS hA hl Q hQ
  have X : CallFix p m cd b_GrantServer_keptLife 1 s ([.int x] : List Value).toArray TB R_GrantServer := ⟨X0.1, X0.2.1, X0.2.2.1, X0.2.2.2.1, fun w h => X0.2.2.2.2 w (List.mem_cons_of_mem _ h)⟩
  have hx := X.1; have hb := X.2.1; have hml := X.2.2.1; have hown := X.2.2.2.1; have hts := X.2.2.2.2
  have hl : lv_has ls 1 [(0, .int x)] := hl
  refine lv_iconst (v := 1) hx hb d_GrantServer_keptLife_0 (by decide) ?_
  refine lv_sipush (v := 1000) hx hb d_GrantServer_keptLife_1 (by decide) ?_
  refine lv_iload_n hx hb d_GrantServer_keptLife_4 rfl (lv_at hl 0 rfl) ?_
  refine va_mmin hx hb (hml.trans hl.1.symm) hown (hts _ wl_GrantServer_243) (hts _ ws_Mmin) (hts _ wn_Math) (hts _ wd_Mmin) (Nat.le_of_ble_eq_true rfl) (Nat.le_of_ble_eq_true rfl) (Nat.zero_le _) (Nat.zero_le _) d_GrantServer_keptLife_5 ?_
  refine va_mmax hx hb (hml.trans hl.1.symm) hown (hts _ wl_GrantServer_248) (hts _ ws_Mmax) (hts _ wn_Math) (hts _ wd_Mmax) (Nat.le_of_ble_eq_true rfl) (Nat.le_of_ble_eq_true rfl) (Nat.zero_le _) (Nat.zero_le _) d_GrantServer_keptLife_8 ?_
  exact hm_iret X hQ hr hlk hK hM hS d_GrantServer_keptLife_11 ⟨rfl, rfl⟩
set_option maxHeartbeats 4000000 in
set_option maxRecDepth 100000 in
theorem c_Text_size (l : Launch) (D : va_G) (k : Nat → ClassId) (f : hm) (t : Nat) (a : Nat) (n : Int32) (ht : f t = some (.inr (5, [.ref a, .int n]))) : hm_Mi l D vwCl (tyL k) y_Text_size (Cond.code y_Text_size b_Text_size 1 (some .int) :: TB) ({ frames := 0, cells := 0, slots := 0, locals := 0 }) [.ref t] f (fun (r : Int32) (f1 : hm) => n = r ∧ f = f1) 0 0 := by
  refine hm_enter (Qc := fun sz => va_Qi _ (hm_R D vwCl (tyL k) f sz) (hm_A f sz)) (by decide) rfl (Nat.le_of_ble_eq_true rfl) ?_
  intro p e s m below meth cd ls X0 hr hlk hin hK hM hS hA hl Q hQ
  have X : CallFix p m cd b_Text_size 1 s ([.ref t] : List Value).toArray TB R_Text := ⟨X0.1, X0.2.1, X0.2.2.1, X0.2.2.2.1, fun w h => X0.2.2.2.2 w (List.mem_cons_of_mem _ h)⟩
  have hx := X.1; have hb := X.2.1; have hml := X.2.2.1; have hown := X.2.2.2.1; have hts := X.2.2.2.2
  have hl : lv_has ls 1 [(0, .ref t)] := hl
  refine lv_aload_n hx hb d_Text_size_0 rfl (lv_at hl 0 rfl) ?_
  refine hm_get X hK hM ht fl_Text_15 (v := .int n) rfl d_Text_size_1 ?_
  exact hm_iret X hQ hr hlk hK hM hS d_Text_size_4 ⟨rfl, rfl⟩
set_option maxHeartbeats 4000000 in
set_option maxRecDepth 100000 in
theorem c_Text_clear (l : Launch) (D : va_G) (k : Nat → ClassId) (f : hm) (t : Nat) (a : Nat) (n : Int32) (ht : f t = some (.inr (5, [.ref a, .int n]))) : hm_Mv l D vwCl (tyL k) y_Text_clear (Cond.code y_Text_clear b_Text_clear 1 none :: TB) ({ frames := 0, cells := 0, slots := 0, locals := 0 }) [.ref t] f (fun (f1 : hm) => f1 t = some (.inr (5, [.ref a, .int 0])) ∧ ∀ (q : Nat) (x : va_E), q ≠ t → f q = some x → f1 q = some x) 0 0 := by
  refine hm_enter (Qc := fun sz => va_Qv _ (hm_R D vwCl (tyL k) f sz) (hm_A f sz)) (by decide) rfl (Nat.le_of_ble_eq_true rfl) ?_
  intro p e s m below meth cd ls X0 hr hlk hin hK hM hS hA hl Q hQ
  have X : CallFix p m cd b_Text_clear 1 s ([.ref t] : List Value).toArray TB R_Text := ⟨X0.1, X0.2.1, X0.2.2.1, X0.2.2.2.1, fun w h => X0.2.2.2.2 w (List.mem_cons_of_mem _ h)⟩
  have hx := X.1; have hb := X.2.1; have hml := X.2.2.1; have hown := X.2.2.2.1; have hts := X.2.2.2.2
  have hl : lv_has ls 1 [(0, .ref t)] := hl
  refine lv_aload_n hx hb d_Text_clear_0 rfl (lv_at hl 0 rfl) ?_
  refine lv_iconst (v := 0) hx hb d_Text_clear_1 (by decide) ?_
  refine hm_put X hK hM hS (fs' := [.ref a, .int 0]) ht fl_Text_15 rfl rfl (Nat.le_of_ble_eq_true rfl) rfl d_Text_clear_2 (fun f1 H locs e2 hM hS => ?_)
  have g3 : f1 t = some (.inr (5, [.ref a, .int 0])) := by rw [e2, hm_up_s]
  exact hm_vret X hQ hr hlk hK hM hS d_Text_clear_5 ⟨g3, (fun q x n0 hq => by have t0 := hq; have t1 := hm_keep e2 n0 t0; exact t1)⟩
set_option maxHeartbeats 4000000 in
set_option maxRecDepth 100000 in
theorem c_Text_codeAt (l : Launch) (D : va_G) (k : Nat → ClassId) (f : hm) (t : Nat) (a : Nat) (n : Nat) (x : Nat → Int32) (i : Int32) (ht : f t = some (.inr (5, [.ref a, .int (nI n)]))) (ha : f a = some (.inl (k 2, 120, .inl x))) (hn : n ≤ 120) : hm_Mi l D vwCl (tyL k) y_Text_codeAt (Cond.code y_Text_codeAt b_Text_codeAt 2 (some .int) :: TB) ({ frames := 0, cells := 0, slots := 0, locals := 0 }) [.ref t, .int i] f (fun (r : Int32) (f1 : hm) => z_at n x i = r ∧ f = f1) 0 0 := by
  refine hm_enter (Qc := fun sz => va_Qi _ (hm_R D vwCl (tyL k) f sz) (hm_A f sz)) (by decide) rfl (Nat.le_of_ble_eq_true rfl) ?_
  intro p e s m below meth cd ls X0 hr hlk hin hK hM hS hA hl Q hQ
  have X : CallFix p m cd b_Text_codeAt 2 s ([.ref t, .int i] : List Value).toArray TB R_Text := ⟨X0.1, X0.2.1, X0.2.2.1, X0.2.2.2.1, fun w h => X0.2.2.2.2 w (List.mem_cons_of_mem _ h)⟩
  have hx := X.1; have hb := X.2.1; have hml := X.2.2.1; have hown := X.2.2.2.1; have hts := X.2.2.2.2
  have hl : lv_has ls 2 [(0, .ref t), (1, .int i)] := hl
  refine lv_iload_n hx hb d_Text_codeAt_0 rfl (lv_at hl 1 rfl) ?_
  refine lv_if_lt (tgt := 21) hx hb d_Text_codeAt_1 (by decide) (fun h1 => ?_) (fun h1 => ?_)
  · refine lv_iconst (v := (-1)) hx hb d_Text_codeAt_21 (by decide) ?_
    exact hm_iret X hQ hr hlk hK hM hS d_Text_codeAt_22 ⟨(by simp [z_at, h1]), rfl⟩
  · refine lv_iload_n hx hb d_Text_codeAt_4 rfl (lv_at hl 1 rfl) ?_
    refine lv_aload_n hx hb d_Text_codeAt_5 rfl (lv_at hl 0 rfl) ?_
    refine hm_get X hK hM ht fl_Text_15 (v := .int (nI n)) rfl d_Text_codeAt_6 ?_
    refine lv_icmp_ge (tgt := 21) hx hb d_Text_codeAt_9 (by decide) (fun h2 => ?_) (fun h2 => ?_)
    · refine lv_iconst (v := (-1)) hx hb d_Text_codeAt_21 (by decide) ?_
      exact hm_iret X hQ hr hlk hK hM hS d_Text_codeAt_22 ⟨(by simp [z_at, h1, h2]), rfl⟩
    · obtain ⟨j, hj, hij⟩ := hm_ix h1 h2 (by omega)
      subst hij
      refine lv_aload_n hx hb d_Text_codeAt_12 rfl (lv_at hl 0 rfl) ?_
      refine hm_get X hK hM ht fl_Text_11 (v := .ref a) rfl d_Text_codeAt_13 ?_
      refine lv_iload_n hx hb d_Text_codeAt_16 rfl (lv_at hl 1 rfl) ?_
      refine hm_cald X hK hM ha 2 rfl j rfl (by omega) (by omega) d_Text_codeAt_17 ?_
      refine lv_goto (tgt := 22) hx hb d_Text_codeAt_18 (by decide) ?_
      exact hm_iret X hQ hr hlk hK hM hS d_Text_codeAt_22 ⟨(z_at_in hj (by omega)), rfl⟩
set_option maxHeartbeats 4000000 in
set_option maxRecDepth 100000 in
theorem c_Text_add (l : Launch) (D : va_G) (k : Nat → ClassId) (f : hm) (t : Nat) (a : Nat) (n : Nat) (x : Nat → Int32) (y : Int32) (ht : f t = some (.inr (5, [.ref a, .int (nI n)]))) (ha : f a = some (.inl (k 2, 120, .inl x))) (hn : n < 120) (hy : vp_nar .char y = y) : hm_Mi l D vwCl (tyL k) y_Text_add (Cond.code y_Text_add b_Text_add 2 (some .boolean) :: TB) ({ frames := 0, cells := 0, slots := 0, locals := 0 }) [.ref t, .int y] f (fun (r : Int32) (f1 : hm) => 1 = r ∧ f1 t = some (.inr (5, [.ref a, .int (nI (n + 1))])) ∧ f1 a = some (.inl (k 2, 120, .inl (upd x n y))) ∧ ∀ (q : Nat) (x : va_E), q ≠ t → q ≠ a → f q = some x → f1 q = some x) 0 0 := by
  refine hm_enter (Qc := fun sz => va_Qi _ (hm_R D vwCl (tyL k) f sz) (hm_A f sz)) (by decide) rfl (Nat.le_of_ble_eq_true rfl) ?_
  intro p e s m below meth cd ls X0 hr hlk hin hK hM hS hA hl Q hQ
  have X : CallFix p m cd b_Text_add 2 s ([.ref t, .int y] : List Value).toArray TB R_Text := ⟨X0.1, X0.2.1, X0.2.2.1, X0.2.2.2.1, fun w h => X0.2.2.2.2 w (List.mem_cons_of_mem _ h)⟩
  have hx := X.1; have hb := X.2.1; have hml := X.2.2.1; have hown := X.2.2.2.1; have hts := X.2.2.2.2
  have hl : lv_has ls 2 [(0, .ref t), (1, .int y)] := hl
  refine lv_aload_n hx hb d_Text_add_0 rfl (lv_at hl 0 rfl) ?_
  refine hm_get X hK hM ht fl_Text_15 (v := .int (nI n)) rfl d_Text_add_1 ?_
  refine lv_bipush (v := 120) hx hb d_Text_add_4 (by decide) ?_
  refine lv_icmp_lt (tgt := 11) hx hb d_Text_add_6 (by decide) (fun h1 => ?_) (fun h1 => ?_)
  · refine lv_aload_n hx hb d_Text_add_11 rfl (lv_at hl 0 rfl) ?_
    refine hm_get X hK hM ht fl_Text_11 (v := .ref a) rfl d_Text_add_12 ?_
    refine lv_aload_n hx hb d_Text_add_15 rfl (lv_at hl 0 rfl) ?_
    refine hm_get X hK hM ht fl_Text_15 (v := .int (nI n)) rfl d_Text_add_16 ?_
    refine lv_iload_n hx hb d_Text_add_19 rfl (lv_at hl 1 rfl) ?_
    refine hm_cast X hK hM hS ha 2 rfl n rfl (by omega) (by omega) (y := y) hy d_Text_add_20 (fun f2 H locs e3 hM hS => ?_)
    refine lv_aload_n hx hb d_Text_add_21 rfl (lv_at hl 0 rfl) ?_
    refine lv_dup hx hb d_Text_add_22 rfl ?_
    have g4 : f2 t = some (.inr (5, [.ref a, .int (nI n)])) := by rw [e3, hm_up_n (hm_neA ht ha)]; exact ht
    refine hm_get X hK hM g4 fl_Text_15 (v := .int (nI n)) rfl d_Text_add_23 ?_
    refine lv_iconst (v := 1) hx hb d_Text_add_26 (by decide) ?_
    refine lv_iadd hx hb d_Text_add_27 ?_
    refine hm_top (nI_1 _) ?_
    refine hm_put X hK hM hS (fs' := [.ref a, .int (nI (n + 1))]) g4 fl_Text_15 rfl rfl (Nat.le_of_ble_eq_true rfl) rfl d_Text_add_28 (fun f5 H locs e6 hM hS => ?_)
    refine lv_iconst (v := 1) hx hb d_Text_add_31 (by decide) ?_
    have g7 : f5 t = some (.inr (5, [.ref a, .int (nI (n + 1))])) := by rw [e6, hm_up_s]
    have g8 : f2 a = some (.inl (k 2, 120, .inl (upd x n y))) := by rw [e3, hm_up_s]
    have g9 : f5 a = some (.inl (k 2, 120, .inl (upd x n y))) := by rw [e6, hm_up_n ((hm_neA g4 g8).symm)]; exact g8
    exact hm_zret X hQ hr hlk hK hM hS rfl d_Text_add_32 ⟨rfl, g7, g9, (fun q x n0 n1 hq => by have t0 := hq; have t1 := hm_keep e3 n1 t0; have t2 := hm_keep e6 n0 t1; exact t2)⟩
  · exact absurd (nI_lt hn (by decide)) h1
set_option maxHeartbeats 4000000 in
set_option maxRecDepth 100000 in
theorem c_Text_addF (l : Launch) (D : va_G) (k : Nat → ClassId) (f : hm) (t : Nat) (a : Nat) (n : Nat) (x : Nat → Int32) (y : Int32) (ht : f t = some (.inr (5, [.ref a, .int (nI n)]))) (hn : ¬ n < 120) (hn9 : n < 2 ^ 31) : hm_Mi l D vwCl (tyL k) y_Text_add (Cond.code y_Text_add b_Text_add 2 (some .boolean) :: TB) ({ frames := 0, cells := 0, slots := 0, locals := 0 }) [.ref t, .int y] f (fun (r : Int32) (f1 : hm) => 0 = r ∧ f = f1) 0 0 := by
  refine hm_enter (Qc := fun sz => va_Qi _ (hm_R D vwCl (tyL k) f sz) (hm_A f sz)) (by decide) rfl (Nat.le_of_ble_eq_true rfl) ?_
  intro p e s m below meth cd ls X0 hr hlk hin hK hM hS hA hl Q hQ
  have X : CallFix p m cd b_Text_add 2 s ([.ref t, .int y] : List Value).toArray TB R_Text := ⟨X0.1, X0.2.1, X0.2.2.1, X0.2.2.2.1, fun w h => X0.2.2.2.2 w (List.mem_cons_of_mem _ h)⟩
  have hx := X.1; have hb := X.2.1; have hml := X.2.2.1; have hown := X.2.2.2.1; have hts := X.2.2.2.2
  have hl : lv_has ls 2 [(0, .ref t), (1, .int y)] := hl
  refine lv_aload_n hx hb d_Text_add_0 rfl (lv_at hl 0 rfl) ?_
  refine hm_get X hK hM ht fl_Text_15 (v := .int (nI n)) rfl d_Text_add_1 ?_
  refine lv_bipush (v := 120) hx hb d_Text_add_4 (by decide) ?_
  refine lv_icmp_lt (tgt := 11) hx hb d_Text_add_6 (by decide) (fun h1 => ?_) (fun h1 => ?_)
  · exact absurd h1 (nI_nlt (b := 120) (by omega) hn9)
  · refine lv_iconst (v := 0) hx hb d_Text_add_9 (by decide) ?_
    exact hm_zret X hQ hr hlk hK hM hS rfl d_Text_add_10 ⟨rfl, rfl⟩
set_option maxHeartbeats 4000000 in
set_option maxRecDepth 100000 in
theorem c_Text_putF (l : Launch) (D : va_G) (k : Nat → ClassId) (f : hm) (t : Nat) (a : Nat) (n : Nat) (i : Int32) (y : Int32) (ht : f t = some (.inr (5, [.ref a, .int (nI n)]))) (hi : i < 0 ∨ nI n ≤ i) : hm_Mi l D vwCl (tyL k) y_Text_put (Cond.code y_Text_put b_Text_put 3 (some .boolean) :: TB) ({ frames := 0, cells := 0, slots := 0, locals := 0 }) [.ref t, .int i, .int y] f (fun (r : Int32) (f1 : hm) => 0 = r ∧ f = f1) 0 0 := by
  refine hm_enter (Qc := fun sz => va_Qi _ (hm_R D vwCl (tyL k) f sz) (hm_A f sz)) (by decide) rfl (Nat.le_of_ble_eq_true rfl) ?_
  intro p e s m below meth cd ls X0 hr hlk hin hK hM hS hA hl Q hQ
  have X : CallFix p m cd b_Text_put 3 s ([.ref t, .int i, .int y] : List Value).toArray TB R_Text := ⟨X0.1, X0.2.1, X0.2.2.1, X0.2.2.2.1, fun w h => X0.2.2.2.2 w (List.mem_cons_of_mem _ h)⟩
  have hx := X.1; have hb := X.2.1; have hml := X.2.2.1; have hown := X.2.2.2.1; have hts := X.2.2.2.2
  have hl : lv_has ls 3 [(0, .ref t), (1, .int i), (2, .int y)] := hl
  refine lv_iload_n hx hb d_Text_put_0 rfl (lv_at hl 1 rfl) ?_
  refine lv_if_lt (tgt := 12) hx hb d_Text_put_1 (by decide) (fun h1 => ?_) (fun h1 => ?_)
  · refine lv_iconst (v := 0) hx hb d_Text_put_12 (by decide) ?_
    exact hm_zret X hQ hr hlk hK hM hS rfl d_Text_put_13 ⟨rfl, rfl⟩
  · refine lv_iload_n hx hb d_Text_put_4 rfl (lv_at hl 1 rfl) ?_
    refine lv_aload_n hx hb d_Text_put_5 rfl (lv_at hl 0 rfl) ?_
    refine hm_get X hK hM ht fl_Text_15 (v := .int (nI n)) rfl d_Text_put_6 ?_
    refine lv_icmp_lt (tgt := 14) hx hb d_Text_put_9 (by decide) (fun h2 => ?_) (fun h2 => ?_)
    · exact hi.elim (fun z => absurd z h1) (fun z => absurd z (Int32.not_le.mpr h2))
    · refine lv_iconst (v := 0) hx hb d_Text_put_12 (by decide) ?_
      exact hm_zret X hQ hr hlk hK hM hS rfl d_Text_put_13 ⟨rfl, rfl⟩
set_option maxHeartbeats 4000000 in
set_option maxRecDepth 100000 in
theorem c_Text_put (l : Launch) (D : va_G) (k : Nat → ClassId) (f : hm) (t : Nat) (a : Nat) (n : Nat) (x : Nat → Int32) (j : Nat) (y : Int32) (ht : f t = some (.inr (5, [.ref a, .int (nI n)]))) (ha : f a = some (.inl (k 2, 120, .inl x))) (hn : n ≤ 120) (hj : j < n) (hy : vp_nar .char y = y) : hm_Mi l D vwCl (tyL k) y_Text_put (Cond.code y_Text_put b_Text_put 3 (some .boolean) :: TB) ({ frames := 0, cells := 0, slots := 0, locals := 0 }) [.ref t, .int (nI j), .int y] f (fun (r : Int32) (f1 : hm) => 1 = r ∧ f1 t = some (.inr (5, [.ref a, .int (nI n)])) ∧ f1 a = some (.inl (k 2, 120, .inl (upd x j y))) ∧ ∀ (q : Nat) (x : va_E), q ≠ t → q ≠ a → f q = some x → f1 q = some x) 0 0 := by
  refine hm_enter (Qc := fun sz => va_Qi _ (hm_R D vwCl (tyL k) f sz) (hm_A f sz)) (by decide) rfl (Nat.le_of_ble_eq_true rfl) ?_
  intro p e s m below meth cd ls X0 hr hlk hin hK hM hS hA hl Q hQ
  have X : CallFix p m cd b_Text_put 3 s ([.ref t, .int (nI j), .int y] : List Value).toArray TB R_Text := ⟨X0.1, X0.2.1, X0.2.2.1, X0.2.2.2.1, fun w h => X0.2.2.2.2 w (List.mem_cons_of_mem _ h)⟩
  have hx := X.1; have hb := X.2.1; have hml := X.2.2.1; have hown := X.2.2.2.1; have hts := X.2.2.2.2
  have hl : lv_has ls 3 [(0, .ref t), (1, .int (nI j)), (2, .int y)] := hl
  refine lv_iload_n hx hb d_Text_put_0 rfl (lv_at hl 1 rfl) ?_
  refine lv_if_lt (tgt := 12) hx hb d_Text_put_1 (by decide) (fun h1 => ?_) (fun h1 => ?_)
  · exact absurd h1 (nI_pos (by omega))
  · refine lv_iload_n hx hb d_Text_put_4 rfl (lv_at hl 1 rfl) ?_
    refine lv_aload_n hx hb d_Text_put_5 rfl (lv_at hl 0 rfl) ?_
    refine hm_get X hK hM ht fl_Text_15 (v := .int (nI n)) rfl d_Text_put_6 ?_
    refine lv_icmp_lt (tgt := 14) hx hb d_Text_put_9 (by decide) (fun h2 => ?_) (fun h2 => ?_)
    · refine lv_aload_n hx hb d_Text_put_14 rfl (lv_at hl 0 rfl) ?_
      refine hm_get X hK hM ht fl_Text_11 (v := .ref a) rfl d_Text_put_15 ?_
      refine lv_iload_n hx hb d_Text_put_18 rfl (lv_at hl 1 rfl) ?_
      refine lv_iload_n hx hb d_Text_put_19 rfl (lv_at hl 2 rfl) ?_
      refine hm_cast X hK hM hS ha 2 rfl j rfl (by omega) (by omega) (y := y) hy d_Text_put_20 (fun f3 H locs e4 hM hS => ?_)
      refine lv_iconst (v := 1) hx hb d_Text_put_21 (by decide) ?_
      have g5 : f3 t = some (.inr (5, [.ref a, .int (nI n)])) := by rw [e4, hm_up_n (hm_neA ht ha)]; exact ht
      have g6 : f3 a = some (.inl (k 2, 120, .inl (upd x j y))) := by rw [e4, hm_up_s]
      exact hm_zret X hQ hr hlk hK hM hS rfl d_Text_put_22 ⟨rfl, g5, g6, (fun q x n0 n1 hq => by have t0 := hq; have t1 := hm_keep e4 n1 t0; exact t1)⟩
    · exact absurd (nI_lt hj (by omega)) h2
set_option maxHeartbeats 4000000 in
set_option maxRecDepth 100000 in
theorem c_Grant_begin (l : Launch) (D : va_G) (k : Nat → ClassId) (f : hm) (h : Nat) (w : Nat → Int32) (m1 : Option Nat) (a : Int32) (b : Int32) (d : Int32) (g : Int32) (y : Option Nat) (hh : f h = some (.inr (3, gV w m1))) : hm_Mv l D vwCl (tyL k) y_Grant_begin (Cond.code y_Grant_begin b_Grant_begin 6 none :: TB) ({ frames := 0, cells := 0, slots := 0, locals := 0 }) [.ref h, .int a, .int b, .int d, .int g, va_rf y] f (fun (f1 : hm) => f1 h = some (.inr (3, gV (upd (upd (upd (upd (upd (upd w 0 a) 1 b) 2 d) 3 g) 6 0) 7 0) y)) ∧ ∀ (q : Nat) (x : va_E), q ≠ h → f q = some x → f1 q = some x) 0 0 := by
  refine hm_enter (Qc := fun sz => va_Qv _ (hm_R D vwCl (tyL k) f sz) (hm_A f sz)) (by decide) rfl (by cases y <;> exact Nat.le_of_ble_eq_true rfl) ?_
  intro p e s m below meth cd ls X0 hr hlk hin hK hM hS hA hl Q hQ
  have X : CallFix p m cd b_Grant_begin 6 s ([.ref h, .int a, .int b, .int d, .int g, va_rf y] : List Value).toArray TB R_Grant := ⟨X0.1, X0.2.1, X0.2.2.1, X0.2.2.2.1, fun w h => X0.2.2.2.2 w (List.mem_cons_of_mem _ h)⟩
  have hx := X.1; have hb := X.2.1; have hml := X.2.2.1; have hown := X.2.2.2.1; have hts := X.2.2.2.2
  have hl : lv_has ls 6 [(0, .ref h), (1, .int a), (2, .int b), (3, .int d), (4, .int g), (5, va_rf y)] := hl
  refine lv_aload_n hx hb d_Grant_begin_0 rfl (lv_at hl 0 rfl) ?_
  refine lv_iload_n hx hb d_Grant_begin_1 rfl (lv_at hl 1 rfl) ?_
  refine hm_put X hK hM hS (fs' := gV (upd w 0 a) m1) hh fl_Grant_7 rfl rfl (Nat.le_of_ble_eq_true rfl) rfl d_Grant_begin_2 (fun f1 H locs e2 hM hS => ?_)
  refine lv_aload_n hx hb d_Grant_begin_5 rfl (lv_at hl 0 rfl) ?_
  refine lv_iload_n hx hb d_Grant_begin_6 rfl (lv_at hl 2 rfl) ?_
  have g3 : f1 h = some (.inr (3, gV (upd w 0 a) m1)) := by rw [e2, hm_up_s]
  refine hm_put X hK hM hS (fs' := gV (upd (upd w 0 a) 1 b) m1) g3 fl_Grant_13 rfl rfl (Nat.le_of_ble_eq_true rfl) rfl d_Grant_begin_7 (fun f4 H locs e5 hM hS => ?_)
  refine lv_aload_n hx hb d_Grant_begin_10 rfl (lv_at hl 0 rfl) ?_
  refine lv_iload_n hx hb d_Grant_begin_11 rfl (lv_at hl 3 rfl) ?_
  have g6 : f4 h = some (.inr (3, gV (upd (upd w 0 a) 1 b) m1)) := by rw [e5, hm_up_s]
  refine hm_put X hK hM hS (fs' := gV (upd (upd (upd w 0 a) 1 b) 2 d) m1) g6 fl_Grant_16 rfl rfl (Nat.le_of_ble_eq_true rfl) rfl d_Grant_begin_12 (fun f7 H locs e8 hM hS => ?_)
  refine lv_aload_n hx hb d_Grant_begin_15 rfl (lv_at hl 0 rfl) ?_
  refine lv_iload hx hb d_Grant_begin_16 (lv_at hl 4 rfl) ?_
  have g9 : f7 h = some (.inr (3, gV (upd (upd (upd w 0 a) 1 b) 2 d) m1)) := by rw [e8, hm_up_s]
  refine hm_put X hK hM hS (fs' := gV (upd (upd (upd (upd w 0 a) 1 b) 2 d) 3 g) m1) g9 fl_Grant_19 rfl rfl (Nat.le_of_ble_eq_true rfl) rfl d_Grant_begin_18 (fun f10 H locs e11 hM hS => ?_)
  refine lv_aload_n hx hb d_Grant_begin_21 rfl (lv_at hl 0 rfl) ?_
  refine hm_aloadq hx hb d_Grant_begin_22 (lv_at hl 5 rfl) ?_
  have g12 : f10 h = some (.inr (3, gV (upd (upd (upd (upd w 0 a) 1 b) 2 d) 3 g) m1)) := by rw [e11, hm_up_s]
  refine hm_put X hK hM hS (fs' := gV (upd (upd (upd (upd w 0 a) 1 b) 2 d) 3 g) y) g12 fl_Grant_22 (hm_narq _ _) (hm_fitq _ _) (Nat.le_of_ble_eq_true rfl) rfl d_Grant_begin_24 (fun f13 H locs e14 hM hS => ?_)
  refine lv_aload_n hx hb d_Grant_begin_27 rfl (lv_at hl 0 rfl) ?_
  refine lv_iconst (v := 0) hx hb d_Grant_begin_28 (by decide) ?_
  have g15 : f13 h = some (.inr (3, gV (upd (upd (upd (upd w 0 a) 1 b) 2 d) 3 g) y)) := by rw [e14, hm_up_s]
  refine hm_put X hK hM hS (fs' := gV (upd (upd (upd (upd (upd w 0 a) 1 b) 2 d) 3 g) 6 0) y) g15 fl_Grant_26 rfl rfl (Nat.le_of_ble_eq_true rfl) rfl d_Grant_begin_29 (fun f16 H locs e17 hM hS => ?_)
  refine lv_aload_n hx hb d_Grant_begin_32 rfl (lv_at hl 0 rfl) ?_
  refine lv_iconst (v := 0) hx hb d_Grant_begin_33 (by decide) ?_
  have g18 : f16 h = some (.inr (3, gV (upd (upd (upd (upd (upd w 0 a) 1 b) 2 d) 3 g) 6 0) y)) := by rw [e17, hm_up_s]
  refine hm_put X hK hM hS (fs' := gV (upd (upd (upd (upd (upd (upd w 0 a) 1 b) 2 d) 3 g) 6 0) 7 0) y) g18 fl_Grant_30 rfl rfl (Nat.le_of_ble_eq_true rfl) rfl d_Grant_begin_34 (fun f19 H locs e20 hM hS => ?_)
  have g21 : f19 h = some (.inr (3, gV (upd (upd (upd (upd (upd (upd w 0 a) 1 b) 2 d) 3 g) 6 0) 7 0) y)) := by rw [e20, hm_up_s]
  exact hm_vret X hQ hr hlk hK hM hS d_Grant_begin_37 ⟨g21, (fun q x n0 hq => by have t0 := hq; have t1 := hm_keep e2 n0 t0; have t2 := hm_keep e5 n0 t1; have t3 := hm_keep e8 n0 t2; have t4 := hm_keep e11 n0 t3; have t5 := hm_keep e14 n0 t4; have t6 := hm_keep e17 n0 t5; have t7 := hm_keep e20 n0 t6; exact t7)⟩
set_option maxHeartbeats 4000000 in
set_option maxRecDepth 100000 in
theorem c_Grant_isActive (l : Launch) (D : va_G) (k : Nat → ClassId) (f : hm) (h : Nat) (w : Nat → Int32) (m1 : Option Nat) (fs : Int32) (fa : Int32) (fv : Int32) (x : Int32) (hh : f h = some (.inr (3, gV w m1))) (hfam : ∀ q, m1 = some q → f q = some (.inr (2, [.int fs, .int fa, .int fv]))) : hm_Mi l D vwCl (tyL k) y_Grant_isActive (Cond.code y_Grant_isActive b_Grant_isActive 2 (some .boolean) :: TB) ({ frames := 0, cells := 0, slots := 0, locals := 0 }) [.ref h, .int x] f (fun (r : Int32) (f1 : hm) => z_act w m1 fv x = r ∧ f = f1) 0 0 := by
  refine hm_enter (Qc := fun sz => va_Qi _ (hm_R D vwCl (tyL k) f sz) (hm_A f sz)) (by decide) rfl (Nat.le_of_ble_eq_true rfl) ?_
  intro p e s m below meth cd ls X0 hr hlk hin hK hM hS hA hl Q hQ
  have X : CallFix p m cd b_Grant_isActive 2 s ([.ref h, .int x] : List Value).toArray TB R_Grant := ⟨X0.1, X0.2.1, X0.2.2.1, X0.2.2.2.1, fun w h => X0.2.2.2.2 w (List.mem_cons_of_mem _ h)⟩
  have hx := X.1; have hb := X.2.1; have hml := X.2.2.1; have hown := X.2.2.2.1; have hts := X.2.2.2.2
  have hl : lv_has ls 2 [(0, .ref h), (1, .int x)] := hl
  refine lv_aload_n hx hb d_Grant_isActive_0 rfl (lv_at hl 0 rfl) ?_
  refine hm_get X hK hM hh fl_Grant_26 (v := .int (w 6)) rfl d_Grant_isActive_1 ?_
  refine lv_if_ne (tgt := 43) hx hb d_Grant_isActive_4 (by decide) (fun h1 => ?_) (fun h1 => ?_)
  · refine lv_iconst (v := 0) hx hb d_Grant_isActive_43 (by decide) ?_
    exact hm_zret X hQ hr hlk hK hM hS rfl d_Grant_isActive_44 ⟨(by simp [z_act, h1]), rfl⟩
  · refine lv_aload_n hx hb d_Grant_isActive_7 rfl (lv_at hl 0 rfl) ?_
    refine hm_get X hK hM hh fl_Grant_30 (v := .int (w 7)) rfl d_Grant_isActive_8 ?_
    refine lv_if_ne (tgt := 43) hx hb d_Grant_isActive_11 (by decide) (fun h2 => ?_) (fun h2 => ?_)
    · refine lv_iconst (v := 0) hx hb d_Grant_isActive_43 (by decide) ?_
      exact hm_zret X hQ hr hlk hK hM hS rfl d_Grant_isActive_44 ⟨(by simp [z_act, h1, h2]), rfl⟩
    · refine lv_aload_n hx hb d_Grant_isActive_14 rfl (lv_at hl 0 rfl) ?_
      refine hm_get X hK hM hh fl_Grant_22 (v := va_rf m1) rfl d_Grant_isActive_15 ?_
      refine hm_ifnullq (tgt := 31) hx hb d_Grant_isActive_18 (by decide) (fun h3 => ?_) (fun a4 h3 => ?_)
      · refine lv_aload_n hx hb d_Grant_isActive_31 rfl (lv_at hl 0 rfl) ?_
        refine hm_get X hK hM hh fl_Grant_19 (v := .int (w 3)) rfl d_Grant_isActive_32 ?_
        refine lv_iload_n hx hb d_Grant_isActive_35 rfl (lv_at hl 1 rfl) ?_
        refine lv_icmp_le (tgt := 43) hx hb d_Grant_isActive_36 (by decide) (fun h5 => ?_) (fun h5 => ?_)
        · refine lv_iconst (v := 0) hx hb d_Grant_isActive_43 (by decide) ?_
          exact hm_zret X hQ hr hlk hK hM hS rfl d_Grant_isActive_44 ⟨(by simp [z_act, h1, h2, h3, h5]), rfl⟩
        · refine lv_iconst (v := 1) hx hb d_Grant_isActive_39 (by decide) ?_
          refine lv_goto (tgt := 44) hx hb d_Grant_isActive_40 (by decide) ?_
          exact hm_zret X hQ hr hlk hK hM hS rfl d_Grant_isActive_44 ⟨(by simp [z_act, h1, h2, h3, h5]), rfl⟩
      · have g5 := hfam a4 h3
        refine lv_aload_n hx hb d_Grant_isActive_21 rfl (lv_at hl 0 rfl) ?_
        refine hm_get X hK hM hh fl_Grant_22 (v := va_rf m1) rfl d_Grant_isActive_22 ?_
        refine hm_ref h3 ?_
        refine hm_get X hK hM g5 fl_Grant_33 (v := .int fv) rfl d_Grant_isActive_25 ?_
        refine lv_if_ne (tgt := 43) hx hb d_Grant_isActive_28 (by decide) (fun h6 => ?_) (fun h6 => ?_)
        · refine lv_iconst (v := 0) hx hb d_Grant_isActive_43 (by decide) ?_
          exact hm_zret X hQ hr hlk hK hM hS rfl d_Grant_isActive_44 ⟨(by simp [z_act, h1, h2, h3, h6]), rfl⟩
        · refine lv_aload_n hx hb d_Grant_isActive_31 rfl (lv_at hl 0 rfl) ?_
          refine hm_get X hK hM hh fl_Grant_19 (v := .int (w 3)) rfl d_Grant_isActive_32 ?_
          refine lv_iload_n hx hb d_Grant_isActive_35 rfl (lv_at hl 1 rfl) ?_
          refine lv_icmp_le (tgt := 43) hx hb d_Grant_isActive_36 (by decide) (fun h7 => ?_) (fun h7 => ?_)
          · refine lv_iconst (v := 0) hx hb d_Grant_isActive_43 (by decide) ?_
            exact hm_zret X hQ hr hlk hK hM hS rfl d_Grant_isActive_44 ⟨(by simp [z_act, h1, h2, h3, h6, h7]), rfl⟩
          · refine lv_iconst (v := 1) hx hb d_Grant_isActive_39 (by decide) ?_
            refine lv_goto (tgt := 44) hx hb d_Grant_isActive_40 (by decide) ?_
            exact hm_zret X hQ hr hlk hK hM hS rfl d_Grant_isActive_44 ⟨(by simp [z_act, h1, h2, h3, h6, h7]), rfl⟩
set_option maxHeartbeats 4000000 in
set_option maxRecDepth 100000 in
theorem c_Shelf_rows (l : Launch) (D : va_G) (k : Nat → ClassId) (f : hm) (h : Nat) (a : Nat) (x : Int32) (hh : f h = some (.inr (4, [.ref a, .int x]))) : hm_Mi l D vwCl (tyL k) y_Shelf_rows (Cond.code y_Shelf_rows b_Shelf_rows 1 (some .int) :: TB) ({ frames := 0, cells := 0, slots := 0, locals := 0 }) [.ref h] f (fun (r : Int32) (f1 : hm) => x = r ∧ f = f1) 0 0 := by
  refine hm_enter (Qc := fun sz => va_Qi _ (hm_R D vwCl (tyL k) f sz) (hm_A f sz)) (by decide) rfl (Nat.le_of_ble_eq_true rfl) ?_
  intro p e s m below meth cd ls X0 hr hlk hin hK hM hS hA hl Q hQ
  have X : CallFix p m cd b_Shelf_rows 1 s ([.ref h] : List Value).toArray TB R_Shelf := ⟨X0.1, X0.2.1, X0.2.2.1, X0.2.2.2.1, fun w h => X0.2.2.2.2 w (List.mem_cons_of_mem _ h)⟩
  have hx := X.1; have hb := X.2.1; have hml := X.2.2.1; have hown := X.2.2.2.1; have hts := X.2.2.2.2
  have hl : lv_has ls 1 [(0, .ref h)] := hl
  refine lv_aload_n hx hb d_Shelf_rows_0 rfl (lv_at hl 0 rfl) ?_
  refine hm_get X hK hM hh fl_Shelf_7 (v := .int x) rfl d_Shelf_rows_1 ?_
  exact hm_iret X hQ hr hlk hK hM hS d_Shelf_rows_4 ⟨rfl, rfl⟩
set_option maxHeartbeats 4000000 in
set_option maxRecDepth 100000 in
theorem c_Shelf_isFull (l : Launch) (D : va_G) (k : Nat → ClassId) (f : hm) (h : Nat) (a : Nat) (N : Nat) (u : Nat) (g : Nat → Option Nat) (hh : f h = some (.inr (4, [.ref a, .int (nI u)]))) (ha : f a = some (.inl (k 3, N, .inr (.inr (.inr (.inr g)))))) (hu : u ≤ N) (hN : N ≤ 24) : hm_Mi l D vwCl (tyL k) y_Shelf_isFull (Cond.code y_Shelf_isFull b_Shelf_isFull 1 (some .boolean) :: TB) ({ frames := 0, cells := 0, slots := 0, locals := 0 }) [.ref h] f (fun (r : Int32) (f1 : hm) => z_full u N = r ∧ f = f1) 0 0 := by
  refine hm_enter (Qc := fun sz => va_Qi _ (hm_R D vwCl (tyL k) f sz) (hm_A f sz)) (by decide) rfl (Nat.le_of_ble_eq_true rfl) ?_
  intro p e s m below meth cd ls X0 hr hlk hin hK hM hS hA hl Q hQ
  have X : CallFix p m cd b_Shelf_isFull 1 s ([.ref h] : List Value).toArray TB R_Shelf := ⟨X0.1, X0.2.1, X0.2.2.1, X0.2.2.2.1, fun w h => X0.2.2.2.2 w (List.mem_cons_of_mem _ h)⟩
  have hx := X.1; have hb := X.2.1; have hml := X.2.2.1; have hown := X.2.2.2.1; have hts := X.2.2.2.2
  have hl : lv_has ls 1 [(0, .ref h)] := hl
  refine lv_aload_n hx hb d_Shelf_isFull_0 rfl (lv_at hl 0 rfl) ?_
  refine hm_get X hK hM hh fl_Shelf_7 (v := .int (nI u)) rfl d_Shelf_isFull_1 ?_
  refine lv_aload_n hx hb d_Shelf_isFull_4 rfl (lv_at hl 0 rfl) ?_
  refine hm_get X hK hM hh fl_Shelf_15 (v := .ref a) rfl d_Shelf_isFull_5 ?_
  refine hm_alen X hK hM ha 3 rfl (v := nI N) rfl d_Shelf_isFull_8 ?_
  refine lv_icmp_lt (tgt := 16) hx hb d_Shelf_isFull_9 (by decide) (fun h1 => ?_) (fun h1 => ?_)
  · refine lv_iconst (v := 0) hx hb d_Shelf_isFull_16 (by decide) ?_
    exact hm_zret X hQ hr hlk hK hM hS rfl d_Shelf_isFull_17 ⟨(z_full_lt (by simpa [nI_ltI (show u < 2 ^ 31 by omega) (show N < 2 ^ 31 by omega)] using h1)), rfl⟩
  · refine lv_iconst (v := 1) hx hb d_Shelf_isFull_12 (by decide) ?_
    refine lv_goto (tgt := 17) hx hb d_Shelf_isFull_13 (by decide) ?_
    exact hm_zret X hQ hr hlk hK hM hS rfl d_Shelf_isFull_17 ⟨(z_full_ge (by simpa [nI_ltI (show u < 2 ^ 31 by omega) (show N < 2 ^ 31 by omega)] using h1)), rfl⟩
end
section
theorem d_GrantServerModel_within_0 : decode b_GrantServerModel_within 0 = .ok (.iload_n 0, 1) := by decide +kernel
theorem d_GrantServerModel_within_1 : decode b_GrantServerModel_within 1 = .ok (.iconst 1, 1) := by decide +kernel
theorem d_GrantServerModel_within_2 : decode b_GrantServerModel_within 2 = .ok (.if_icmp .ge 7, 3) := by decide +kernel
theorem d_GrantServerModel_within_5 : decode b_GrantServerModel_within 5 = .ok (.iconst 1, 1) := by decide +kernel
theorem d_GrantServerModel_within_6 : decode b_GrantServerModel_within 6 = .ok (.goto 17, 3) := by decide +kernel
theorem d_GrantServerModel_within_9 : decode b_GrantServerModel_within 9 = .ok (.iload_n 0, 1) := by decide +kernel
theorem d_GrantServerModel_within_10 : decode b_GrantServerModel_within 10 = .ok (.sipush 1000, 3) := by decide +kernel
theorem d_GrantServerModel_within_13 : decode b_GrantServerModel_within 13 = .ok (.if_icmp .le 9, 3) := by decide +kernel
theorem d_GrantServerModel_within_16 : decode b_GrantServerModel_within 16 = .ok (.sipush 1000, 3) := by decide +kernel
theorem d_GrantServerModel_within_19 : decode b_GrantServerModel_within 19 = .ok (.goto 4, 3) := by decide +kernel
theorem d_GrantServerModel_within_22 : decode b_GrantServerModel_within 22 = .ok (.iload_n 0, 1) := by decide +kernel
theorem d_GrantServerModel_within_23 : decode b_GrantServerModel_within 23 = .ok (.ireturn, 1) := by decide +kernel
theorem d_GrantServerModel_isClient_0 : decode b_GrantServerModel_isClient 0 = .ok (.iload_n 1, 1) := by decide +kernel
theorem d_GrantServerModel_isClient_1 : decode b_GrantServerModel_isClient 1 = .ok (.ifCond .lt 15, 3) := by decide +kernel
theorem d_GrantServerModel_isClient_4 : decode b_GrantServerModel_isClient 4 = .ok (.iload_n 1, 1) := by decide +kernel
theorem d_GrantServerModel_isClient_5 : decode b_GrantServerModel_isClient 5 = .ok (.aload_n 0, 1) := by decide +kernel
theorem d_GrantServerModel_isClient_6 : decode b_GrantServerModel_isClient 6 = .ok (.getfield 86, 3) := by decide +kernel
theorem d_GrantServerModel_isClient_9 : decode b_GrantServerModel_isClient 9 = .ok (.if_icmp .ge 7, 3) := by decide +kernel
theorem d_GrantServerModel_isClient_12 : decode b_GrantServerModel_isClient 12 = .ok (.iconst 1, 1) := by decide +kernel
theorem d_GrantServerModel_isClient_13 : decode b_GrantServerModel_isClient 13 = .ok (.goto 4, 3) := by decide +kernel
theorem d_GrantServerModel_isClient_16 : decode b_GrantServerModel_isClient 16 = .ok (.iconst 0, 1) := by decide +kernel
theorem d_GrantServerModel_isClient_17 : decode b_GrantServerModel_isClient 17 = .ok (.ireturn, 1) := by decide +kernel
theorem d_GrantServerModel_from_0 : decode b_GrantServerModel_from 0 = .ok (.iload_n 0, 1) := by decide +kernel
theorem d_GrantServerModel_from_1 : decode b_GrantServerModel_from 1 = .ok (.ifCond .ne 7, 3) := by decide +kernel
theorem d_GrantServerModel_from_4 : decode b_GrantServerModel_from 4 = .ok (.iconst 0, 1) := by decide +kernel
theorem d_GrantServerModel_from_5 : decode b_GrantServerModel_from 5 = .ok (.goto 15, 3) := by decide +kernel
theorem d_GrantServerModel_from_8 : decode b_GrantServerModel_from 8 = .ok (.iload_n 0, 1) := by decide +kernel
theorem d_GrantServerModel_from_9 : decode b_GrantServerModel_from 9 = .ok (.iconst 1, 1) := by decide +kernel
theorem d_GrantServerModel_from_10 : decode b_GrantServerModel_from 10 = .ok (.if_icmp .ne 8, 3) := by decide +kernel
theorem d_GrantServerModel_from_13 : decode b_GrantServerModel_from 13 = .ok (.bipush 16, 2) := by decide +kernel
theorem d_GrantServerModel_from_15 : decode b_GrantServerModel_from 15 = .ok (.goto 5, 3) := by decide +kernel
theorem d_GrantServerModel_from_18 : decode b_GrantServerModel_from 18 = .ok (.bipush 40, 2) := by decide +kernel
theorem d_GrantServerModel_from_20 : decode b_GrantServerModel_from 20 = .ok (.ireturn, 1) := by decide +kernel
theorem d_GrantServerModel_to_0 : decode b_GrantServerModel_to 0 = .ok (.iload_n 0, 1) := by decide +kernel
theorem d_GrantServerModel_to_1 : decode b_GrantServerModel_to 1 = .ok (.ifCond .ne 8, 3) := by decide +kernel
theorem d_GrantServerModel_to_4 : decode b_GrantServerModel_to 4 = .ok (.bipush 16, 2) := by decide +kernel
theorem d_GrantServerModel_to_6 : decode b_GrantServerModel_to 6 = .ok (.goto 15, 3) := by decide +kernel
theorem d_GrantServerModel_to_9 : decode b_GrantServerModel_to 9 = .ok (.iload_n 0, 1) := by decide +kernel
theorem d_GrantServerModel_to_10 : decode b_GrantServerModel_to 10 = .ok (.iconst 1, 1) := by decide +kernel
theorem d_GrantServerModel_to_11 : decode b_GrantServerModel_to 11 = .ok (.if_icmp .ne 8, 3) := by decide +kernel
theorem d_GrantServerModel_to_14 : decode b_GrantServerModel_to 14 = .ok (.bipush 40, 2) := by decide +kernel
theorem d_GrantServerModel_to_16 : decode b_GrantServerModel_to 16 = .ok (.goto 5, 3) := by decide +kernel
theorem d_GrantServerModel_to_19 : decode b_GrantServerModel_to 19 = .ok (.bipush 64, 2) := by decide +kernel
theorem d_GrantServerModel_to_21 : decode b_GrantServerModel_to 21 = .ok (.ireturn, 1) := by decide +kernel
theorem d_GrantServerModel_find_0 : decode b_GrantServerModel_find 0 = .ok (.iload_n 1, 1) := by decide +kernel
theorem d_GrantServerModel_find_1 : decode b_GrantServerModel_find 1 = .ok (.invokestatic 93, 3) := by decide +kernel
theorem d_GrantServerModel_find_4 : decode b_GrantServerModel_find 4 = .ok (.istore_n 3, 1) := by decide +kernel
theorem d_GrantServerModel_find_5 : decode b_GrantServerModel_find 5 = .ok (.iload_n 3, 1) := by decide +kernel
theorem d_GrantServerModel_find_6 : decode b_GrantServerModel_find 6 = .ok (.iload_n 1, 1) := by decide +kernel
theorem d_GrantServerModel_find_7 : decode b_GrantServerModel_find 7 = .ok (.invokestatic 96, 3) := by decide +kernel
theorem d_GrantServerModel_find_10 : decode b_GrantServerModel_find 10 = .ok (.if_icmp .ge 25, 3) := by decide +kernel
theorem d_GrantServerModel_find_13 : decode b_GrantServerModel_find 13 = .ok (.iload_n 2, 1) := by decide +kernel
theorem d_GrantServerModel_find_14 : decode b_GrantServerModel_find 14 = .ok (.ifCond .eq 15, 3) := by decide +kernel
theorem d_GrantServerModel_find_17 : decode b_GrantServerModel_find 17 = .ok (.aload_n 0, 1) := by decide +kernel
theorem d_GrantServerModel_find_18 : decode b_GrantServerModel_find 18 = .ok (.getfield 23, 3) := by decide +kernel
theorem d_GrantServerModel_find_21 : decode b_GrantServerModel_find 21 = .ok (.iload_n 3, 1) := by decide +kernel
theorem d_GrantServerModel_find_22 : decode b_GrantServerModel_find 22 = .ok (.iaload, 1) := by decide +kernel
theorem d_GrantServerModel_find_23 : decode b_GrantServerModel_find 23 = .ok (.iload_n 2, 1) := by decide +kernel
theorem d_GrantServerModel_find_24 : decode b_GrantServerModel_find 24 = .ok (.if_icmp .ne 5, 3) := by decide +kernel
theorem d_GrantServerModel_find_27 : decode b_GrantServerModel_find 27 = .ok (.iload_n 3, 1) := by decide +kernel
theorem d_GrantServerModel_find_28 : decode b_GrantServerModel_find 28 = .ok (.ireturn, 1) := by decide +kernel
theorem d_GrantServerModel_find_29 : decode b_GrantServerModel_find 29 = .ok (.iinc 3 1, 3) := by decide +kernel
theorem d_GrantServerModel_find_32 : decode b_GrantServerModel_find 32 = .ok (.goto (-27), 3) := by decide +kernel
theorem d_GrantServerModel_find_35 : decode b_GrantServerModel_find 35 = .ok (.iconst (-1), 1) := by decide +kernel
theorem d_GrantServerModel_find_36 : decode b_GrantServerModel_find 36 = .ok (.ireturn, 1) := by decide +kernel
theorem d_GrantServerModel_room_0 : decode b_GrantServerModel_room 0 = .ok (.iload_n 1, 1) := by decide +kernel
theorem d_GrantServerModel_room_1 : decode b_GrantServerModel_room 1 = .ok (.invokestatic 93, 3) := by decide +kernel
theorem d_GrantServerModel_room_4 : decode b_GrantServerModel_room 4 = .ok (.istore_n 2, 1) := by decide +kernel
theorem d_GrantServerModel_room_5 : decode b_GrantServerModel_room 5 = .ok (.iload_n 2, 1) := by decide +kernel
theorem d_GrantServerModel_room_6 : decode b_GrantServerModel_room 6 = .ok (.iload_n 1, 1) := by decide +kernel
theorem d_GrantServerModel_room_7 : decode b_GrantServerModel_room 7 = .ok (.invokestatic 96, 3) := by decide +kernel
theorem d_GrantServerModel_room_10 : decode b_GrantServerModel_room 10 = .ok (.if_icmp .ge 20, 3) := by decide +kernel
theorem d_GrantServerModel_room_13 : decode b_GrantServerModel_room 13 = .ok (.aload_n 0, 1) := by decide +kernel
theorem d_GrantServerModel_room_14 : decode b_GrantServerModel_room 14 = .ok (.getfield 23, 3) := by decide +kernel
theorem d_GrantServerModel_room_17 : decode b_GrantServerModel_room 17 = .ok (.iload_n 2, 1) := by decide +kernel
theorem d_GrantServerModel_room_18 : decode b_GrantServerModel_room 18 = .ok (.iaload, 1) := by decide +kernel
theorem d_GrantServerModel_room_19 : decode b_GrantServerModel_room 19 = .ok (.ifCond .ne 5, 3) := by decide +kernel
theorem d_GrantServerModel_room_22 : decode b_GrantServerModel_room 22 = .ok (.iload_n 2, 1) := by decide +kernel
theorem d_GrantServerModel_room_23 : decode b_GrantServerModel_room 23 = .ok (.ireturn, 1) := by decide +kernel
theorem d_GrantServerModel_room_24 : decode b_GrantServerModel_room 24 = .ok (.iinc 2 1, 3) := by decide +kernel
theorem d_GrantServerModel_room_27 : decode b_GrantServerModel_room 27 = .ok (.goto (-22), 3) := by decide +kernel
theorem d_GrantServerModel_room_30 : decode b_GrantServerModel_room 30 = .ok (.iconst (-1), 1) := by decide +kernel
theorem d_GrantServerModel_room_31 : decode b_GrantServerModel_room 31 = .ok (.ireturn, 1) := by decide +kernel
theorem d_GrantServerModel_isActive_0 : decode b_GrantServerModel_isActive 0 = .ok (.aload_n 0, 1) := by decide +kernel
theorem d_GrantServerModel_isActive_1 : decode b_GrantServerModel_isActive 1 = .ok (.getfield 23, 3) := by decide +kernel
theorem d_GrantServerModel_isActive_4 : decode b_GrantServerModel_isActive 4 = .ok (.iload_n 1, 1) := by decide +kernel
theorem d_GrantServerModel_isActive_5 : decode b_GrantServerModel_isActive 5 = .ok (.iaload, 1) := by decide +kernel
theorem d_GrantServerModel_isActive_6 : decode b_GrantServerModel_isActive 6 = .ok (.ifCond .eq 52, 3) := by decide +kernel
theorem d_GrantServerModel_isActive_9 : decode b_GrantServerModel_isActive 9 = .ok (.aload_n 0, 1) := by decide +kernel
theorem d_GrantServerModel_isActive_10 : decode b_GrantServerModel_isActive 10 = .ok (.getfield 35, 3) := by decide +kernel
theorem d_GrantServerModel_isActive_13 : decode b_GrantServerModel_isActive 13 = .ok (.iload_n 1, 1) := by decide +kernel
theorem d_GrantServerModel_isActive_14 : decode b_GrantServerModel_isActive 14 = .ok (.baload, 1) := by decide +kernel
theorem d_GrantServerModel_isActive_15 : decode b_GrantServerModel_isActive 15 = .ok (.ifCond .ne 43, 3) := by decide +kernel
theorem d_GrantServerModel_isActive_18 : decode b_GrantServerModel_isActive 18 = .ok (.aload_n 0, 1) := by decide +kernel
theorem d_GrantServerModel_isActive_19 : decode b_GrantServerModel_isActive 19 = .ok (.getfield 32, 3) := by decide +kernel
theorem d_GrantServerModel_isActive_22 : decode b_GrantServerModel_isActive 22 = .ok (.iload_n 1, 1) := by decide +kernel
theorem d_GrantServerModel_isActive_23 : decode b_GrantServerModel_isActive 23 = .ok (.iaload, 1) := by decide +kernel
theorem d_GrantServerModel_isActive_24 : decode b_GrantServerModel_isActive 24 = .ok (.aload_n 0, 1) := by decide +kernel
theorem d_GrantServerModel_isActive_25 : decode b_GrantServerModel_isActive 25 = .ok (.getfield 104, 3) := by decide +kernel
theorem d_GrantServerModel_isActive_28 : decode b_GrantServerModel_isActive 28 = .ok (.if_icmp .le 30, 3) := by decide +kernel
theorem d_GrantServerModel_isActive_31 : decode b_GrantServerModel_isActive 31 = .ok (.aload_n 0, 1) := by decide +kernel
theorem d_GrantServerModel_isActive_32 : decode b_GrantServerModel_isActive 32 = .ok (.getfield 39, 3) := by decide +kernel
theorem d_GrantServerModel_isActive_35 : decode b_GrantServerModel_isActive 35 = .ok (.iload_n 1, 1) := by decide +kernel
theorem d_GrantServerModel_isActive_36 : decode b_GrantServerModel_isActive 36 = .ok (.iaload, 1) := by decide +kernel
theorem d_GrantServerModel_isActive_37 : decode b_GrantServerModel_isActive 37 = .ok (.ifCond .lt 17, 3) := by decide +kernel
theorem d_GrantServerModel_isActive_40 : decode b_GrantServerModel_isActive 40 = .ok (.aload_n 0, 1) := by decide +kernel
theorem d_GrantServerModel_isActive_41 : decode b_GrantServerModel_isActive 41 = .ok (.getfield 54, 3) := by decide +kernel
theorem d_GrantServerModel_isActive_44 : decode b_GrantServerModel_isActive 44 = .ok (.aload_n 0, 1) := by decide +kernel
theorem d_GrantServerModel_isActive_45 : decode b_GrantServerModel_isActive 45 = .ok (.getfield 39, 3) := by decide +kernel
theorem d_GrantServerModel_isActive_48 : decode b_GrantServerModel_isActive 48 = .ok (.iload_n 1, 1) := by decide +kernel
theorem d_GrantServerModel_isActive_49 : decode b_GrantServerModel_isActive 49 = .ok (.iaload, 1) := by decide +kernel
theorem d_GrantServerModel_isActive_50 : decode b_GrantServerModel_isActive 50 = .ok (.baload, 1) := by decide +kernel
theorem d_GrantServerModel_isActive_51 : decode b_GrantServerModel_isActive 51 = .ok (.ifCond .ne 7, 3) := by decide +kernel
theorem d_GrantServerModel_isActive_54 : decode b_GrantServerModel_isActive 54 = .ok (.iconst 1, 1) := by decide +kernel
theorem d_GrantServerModel_isActive_55 : decode b_GrantServerModel_isActive 55 = .ok (.goto 4, 3) := by decide +kernel
theorem d_GrantServerModel_isActive_58 : decode b_GrantServerModel_isActive 58 = .ok (.iconst 0, 1) := by decide +kernel
theorem d_GrantServerModel_isActive_59 : decode b_GrantServerModel_isActive 59 = .ok (.ireturn, 1) := by decide +kernel
theorem d_GrantServerModel_tick_0 : decode b_GrantServerModel_tick 0 = .ok (.iload_n 1, 1) := by decide +kernel
theorem d_GrantServerModel_tick_1 : decode b_GrantServerModel_tick 1 = .ok (.ifCond .lt 10, 3) := by decide +kernel
theorem d_GrantServerModel_tick_4 : decode b_GrantServerModel_tick 4 = .ok (.iload_n 1, 1) := by decide +kernel
theorem d_GrantServerModel_tick_5 : decode b_GrantServerModel_tick 5 = .ok (.sipush 10000, 3) := by decide +kernel
theorem d_GrantServerModel_tick_8 : decode b_GrantServerModel_tick 8 = .ok (.if_icmp .le 5, 3) := by decide +kernel
theorem d_GrantServerModel_tick_11 : decode b_GrantServerModel_tick 11 = .ok (.iconst 0, 1) := by decide +kernel
theorem d_GrantServerModel_tick_12 : decode b_GrantServerModel_tick 12 = .ok (.ireturn, 1) := by decide +kernel
theorem d_GrantServerModel_tick_13 : decode b_GrantServerModel_tick 13 = .ok (.aload_n 0, 1) := by decide +kernel
theorem d_GrantServerModel_tick_14 : decode b_GrantServerModel_tick 14 = .ok (.aload_n 0, 1) := by decide +kernel
theorem d_GrantServerModel_tick_15 : decode b_GrantServerModel_tick 15 = .ok (.getfield 104, 3) := by decide +kernel
theorem d_GrantServerModel_tick_18 : decode b_GrantServerModel_tick 18 = .ok (.iload_n 1, 1) := by decide +kernel
theorem d_GrantServerModel_tick_19 : decode b_GrantServerModel_tick 19 = .ok (.iadd, 1) := by decide +kernel
theorem d_GrantServerModel_tick_20 : decode b_GrantServerModel_tick 20 = .ok (.putfield 104, 3) := by decide +kernel
theorem d_GrantServerModel_tick_23 : decode b_GrantServerModel_tick 23 = .ok (.iconst 1, 1) := by decide +kernel
theorem d_GrantServerModel_tick_24 : decode b_GrantServerModel_tick 24 = .ok (.ireturn, 1) := by decide +kernel
theorem d_GrantServerModel_isText_0 : decode b_GrantServerModel_isText 0 = .ok (.iload_n 0, 1) := by decide +kernel
theorem d_GrantServerModel_isText_1 : decode b_GrantServerModel_isText 1 = .ok (.bipush 32, 2) := by decide +kernel
theorem d_GrantServerModel_isText_3 : decode b_GrantServerModel_isText 3 = .ok (.if_icmp .lt 13, 3) := by decide +kernel
theorem d_GrantServerModel_isText_6 : decode b_GrantServerModel_isText 6 = .ok (.iload_n 0, 1) := by decide +kernel
theorem d_GrantServerModel_isText_7 : decode b_GrantServerModel_isText 7 = .ok (.bipush 126, 2) := by decide +kernel
theorem d_GrantServerModel_isText_9 : decode b_GrantServerModel_isText 9 = .ok (.if_icmp .gt 7, 3) := by decide +kernel
theorem d_GrantServerModel_isText_12 : decode b_GrantServerModel_isText 12 = .ok (.iconst 1, 1) := by decide +kernel
theorem d_GrantServerModel_isText_13 : decode b_GrantServerModel_isText 13 = .ok (.goto 4, 3) := by decide +kernel
theorem d_GrantServerModel_isText_16 : decode b_GrantServerModel_isText 16 = .ok (.iconst 0, 1) := by decide +kernel
theorem d_GrantServerModel_isText_17 : decode b_GrantServerModel_isText 17 = .ok (.ireturn, 1) := by decide +kernel
set_option maxRecDepth 20000 in
theorem fl_GrantServerModel_104 : hm_fl vwCl TB R_GrantServerModel 104 8 4 false .int := ⟨_, _, _, _, cl_GrantServerModel, by decide, (TBm 696 (by decide +kernel) rfl), rfl, rfl⟩
set_option maxRecDepth 20000 in
theorem fl_GrantServerModel_23 : hm_fl vwCl TB R_GrantServerModel 23 8 10 true (.array .int) := ⟨_, _, _, _, cl_GrantServerModel, by decide, (TBm 702 (by decide +kernel) rfl), rfl, rfl⟩
set_option maxRecDepth 20000 in
theorem fl_GrantServerModel_32 : hm_fl vwCl TB R_GrantServerModel 32 8 13 true (.array .int) := ⟨_, _, _, _, cl_GrantServerModel, by decide, (TBm 705 (by decide +kernel) rfl), rfl, rfl⟩
set_option maxRecDepth 20000 in
theorem fl_GrantServerModel_35 : hm_fl vwCl TB R_GrantServerModel 35 8 14 true (.array .boolean) := ⟨_, _, _, _, cl_GrantServerModel, by decide, (TBm 706 (by decide +kernel) rfl), rfl, rfl⟩
set_option maxRecDepth 20000 in
theorem fl_GrantServerModel_39 : hm_fl vwCl TB R_GrantServerModel 39 8 15 true (.array .int) := ⟨_, _, _, _, cl_GrantServerModel, by decide, (TBm 707 (by decide +kernel) rfl), rfl, rfl⟩
set_option maxRecDepth 20000 in
theorem fl_GrantServerModel_54 : hm_fl vwCl TB R_GrantServerModel 54 8 21 true (.array .boolean) := ⟨_, _, _, _, cl_GrantServerModel, by decide, (TBm 713 (by decide +kernel) rfl), rfl, rfl⟩
set_option maxRecDepth 20000 in
theorem fl_GrantServerModel_86 : hm_fl vwCl TB R_GrantServerModel 86 8 8 false .int := ⟨_, _, _, _, cl_GrantServerModel, by decide, (TBm 700 (by decide +kernel) rfl), rfl, rfl⟩
set_option maxRecDepth 20000 in
theorem me_GrantServerModel_from : hm_meS y_GrantServerModel_from b_GrantServerModel_from 1 (some .int) 1 := ⟨⟨(TBm 814 rfl rfl), (TBm 47 (by decide +kernel) rfl), by decide +kernel⟩, (TBm 813 (by decide +kernel) rfl)⟩
set_option maxRecDepth 20000 in
theorem me_GrantServerModel_to : hm_meS y_GrantServerModel_to b_GrantServerModel_to 1 (some .int) 1 := ⟨⟨(TBm 817 rfl rfl), (TBm 47 (by decide +kernel) rfl), by decide +kernel⟩, (TBm 816 (by decide +kernel) rfl)⟩
set_option maxRecDepth 20000 in
theorem wl_GrantServerModel_93 : Cond.methodLink R_GrantServerModel 93 y_GrantServerModel_from ∈ TB := TBm 812 (by decide +kernel) rfl
set_option maxRecDepth 20000 in
theorem wl_GrantServerModel_96 : Cond.methodLink R_GrantServerModel 96 y_GrantServerModel_to ∈ TB := TBm 815 (by decide +kernel) rfl
set_option maxHeartbeats 4000000 in
set_option maxRecDepth 100000 in
theorem m_c_within (l : Launch) (D : va_G) (k : Nat → ClassId) (f : hm) (x : Int32) : hm_Mi l D vwCl (tyL k) y_GrantServerModel_within (Cond.code y_GrantServerModel_within b_GrantServerModel_within 1 (some .int) :: TB) ({ frames := 0, cells := 0, slots := 0, locals := 0 }) [.int x] f (fun (r : Int32) (f1 : hm) => m_kept x = r ∧ f = f1) 0 0 := by
  refine hm_enter (Qc := fun sz => va_Qi _ (hm_R D vwCl (tyL k) f sz) (hm_A f sz)) (by decide) rfl (Nat.le_of_ble_eq_true rfl) ?_
  intro p e s m below meth cd ls X0 hr hlk hin hK hM hS hA hl Q hQ
  have X : CallFix p m cd b_GrantServerModel_within 1 s ([.int x] : List Value).toArray TB R_GrantServerModel := ⟨X0.1, X0.2.1, X0.2.2.1, X0.2.2.2.1, fun w h => X0.2.2.2.2 w (List.mem_cons_of_mem _ h)⟩
  have hx := X.1; have hb := X.2.1; have hml := X.2.2.1; have hown := X.2.2.2.1; have hts := X.2.2.2.2
  have hl : lv_has ls 1 [(0, .int x)] := hl
  refine lv_iload_n hx hb d_GrantServerModel_within_0 rfl (lv_at hl 0 rfl) ?_
  refine lv_iconst (v := 1) hx hb d_GrantServerModel_within_1 (by decide) ?_
  refine lv_icmp_ge (tgt := 9) hx hb d_GrantServerModel_within_2 (by decide) (fun h1 => ?_) (fun h1 => ?_)
  · refine lv_iload_n hx hb d_GrantServerModel_within_9 rfl (lv_at hl 0 rfl) ?_
    refine lv_sipush (v := 1000) hx hb d_GrantServerModel_within_10 (by decide) ?_
    refine lv_icmp_le (tgt := 22) hx hb d_GrantServerModel_within_13 (by decide) (fun h2 => ?_) (fun h2 => ?_)
    · refine lv_iload_n hx hb d_GrantServerModel_within_22 rfl (lv_at hl 0 rfl) ?_
      exact hm_iret X hQ hr hlk hK hM hS d_GrantServerModel_within_23 ⟨(by simp [m_kept, h1, Int32.not_lt.mpr h1, h2, Int32.not_lt.mpr h2]), rfl⟩
    · refine lv_sipush (v := 1000) hx hb d_GrantServerModel_within_16 (by decide) ?_
      refine lv_goto (tgt := 23) hx hb d_GrantServerModel_within_19 (by decide) ?_
      exact hm_iret X hQ hr hlk hK hM hS d_GrantServerModel_within_23 ⟨(by simp [m_kept, h1, Int32.not_lt.mpr h1, h2, Int32.not_le.mp h2]), rfl⟩
  · refine lv_iconst (v := 1) hx hb d_GrantServerModel_within_5 (by decide) ?_
    refine lv_goto (tgt := 23) hx hb d_GrantServerModel_within_6 (by decide) ?_
    exact hm_iret X hQ hr hlk hK hM hS d_GrantServerModel_within_23 ⟨(by simp [m_kept, h1, Int32.not_le.mp h1]), rfl⟩
set_option maxHeartbeats 4000000 in
set_option maxRecDepth 100000 in
theorem m_c_from (l : Launch) (D : va_G) (k : Nat → ClassId) (f : hm) (x : Int32) : hm_Mi l D vwCl (tyL k) y_GrantServerModel_from (Cond.code y_GrantServerModel_from b_GrantServerModel_from 1 (some .int) :: TB) ({ frames := 0, cells := 0, slots := 0, locals := 0 }) [.int x] f (fun (r : Int32) (f1 : hm) => m_from x = r ∧ f = f1) 0 0 := by
  refine hm_enter (Qc := fun sz => va_Qi _ (hm_R D vwCl (tyL k) f sz) (hm_A f sz)) (by decide) rfl (Nat.le_of_ble_eq_true rfl) ?_
  intro p e s m below meth cd ls X0 hr hlk hin hK hM hS hA hl Q hQ
  have X : CallFix p m cd b_GrantServerModel_from 1 s ([.int x] : List Value).toArray TB R_GrantServerModel := ⟨X0.1, X0.2.1, X0.2.2.1, X0.2.2.2.1, fun w h => X0.2.2.2.2 w (List.mem_cons_of_mem _ h)⟩
  have hx := X.1; have hb := X.2.1; have hml := X.2.2.1; have hown := X.2.2.2.1; have hts := X.2.2.2.2
  have hl : lv_has ls 1 [(0, .int x)] := hl
  refine lv_iload_n hx hb d_GrantServerModel_from_0 rfl (lv_at hl 0 rfl) ?_
  refine lv_if_ne (tgt := 8) hx hb d_GrantServerModel_from_1 (by decide) (fun h1 => ?_) (fun h1 => ?_)
  · refine lv_iload_n hx hb d_GrantServerModel_from_8 rfl (lv_at hl 0 rfl) ?_
    refine lv_iconst (v := 1) hx hb d_GrantServerModel_from_9 (by decide) ?_
    refine lv_icmp_ne (tgt := 18) hx hb d_GrantServerModel_from_10 (by decide) (fun h2 => ?_) (fun h2 => ?_)
    · refine lv_bipush (v := 40) hx hb d_GrantServerModel_from_18 (by decide) ?_
      exact hm_iret X hQ hr hlk hK hM hS d_GrantServerModel_from_20 ⟨(by simp [m_from, h1, h2]), rfl⟩
    · refine lv_bipush (v := 16) hx hb d_GrantServerModel_from_13 (by decide) ?_
      refine lv_goto (tgt := 20) hx hb d_GrantServerModel_from_15 (by decide) ?_
      exact hm_iret X hQ hr hlk hK hM hS d_GrantServerModel_from_20 ⟨(by simp [m_from, h1, h2]), rfl⟩
  · refine lv_iconst (v := 0) hx hb d_GrantServerModel_from_4 (by decide) ?_
    refine lv_goto (tgt := 20) hx hb d_GrantServerModel_from_5 (by decide) ?_
    exact hm_iret X hQ hr hlk hK hM hS d_GrantServerModel_from_20 ⟨(by simp [m_from, h1]), rfl⟩
set_option maxHeartbeats 4000000 in
set_option maxRecDepth 100000 in
theorem m_c_to (l : Launch) (D : va_G) (k : Nat → ClassId) (f : hm) (x : Int32) : hm_Mi l D vwCl (tyL k) y_GrantServerModel_to (Cond.code y_GrantServerModel_to b_GrantServerModel_to 1 (some .int) :: TB) ({ frames := 0, cells := 0, slots := 0, locals := 0 }) [.int x] f (fun (r : Int32) (f1 : hm) => m_to x = r ∧ f = f1) 0 0 := by
  refine hm_enter (Qc := fun sz => va_Qi _ (hm_R D vwCl (tyL k) f sz) (hm_A f sz)) (by decide) rfl (Nat.le_of_ble_eq_true rfl) ?_
  intro p e s m below meth cd ls X0 hr hlk hin hK hM hS hA hl Q hQ
  have X : CallFix p m cd b_GrantServerModel_to 1 s ([.int x] : List Value).toArray TB R_GrantServerModel := ⟨X0.1, X0.2.1, X0.2.2.1, X0.2.2.2.1, fun w h => X0.2.2.2.2 w (List.mem_cons_of_mem _ h)⟩
  have hx := X.1; have hb := X.2.1; have hml := X.2.2.1; have hown := X.2.2.2.1; have hts := X.2.2.2.2
  have hl : lv_has ls 1 [(0, .int x)] := hl
  refine lv_iload_n hx hb d_GrantServerModel_to_0 rfl (lv_at hl 0 rfl) ?_
  refine lv_if_ne (tgt := 9) hx hb d_GrantServerModel_to_1 (by decide) (fun h1 => ?_) (fun h1 => ?_)
  · refine lv_iload_n hx hb d_GrantServerModel_to_9 rfl (lv_at hl 0 rfl) ?_
    refine lv_iconst (v := 1) hx hb d_GrantServerModel_to_10 (by decide) ?_
    refine lv_icmp_ne (tgt := 19) hx hb d_GrantServerModel_to_11 (by decide) (fun h2 => ?_) (fun h2 => ?_)
    · refine lv_bipush (v := 64) hx hb d_GrantServerModel_to_19 (by decide) ?_
      exact hm_iret X hQ hr hlk hK hM hS d_GrantServerModel_to_21 ⟨(by simp [m_to, h1, h2]), rfl⟩
    · refine lv_bipush (v := 40) hx hb d_GrantServerModel_to_14 (by decide) ?_
      refine lv_goto (tgt := 21) hx hb d_GrantServerModel_to_16 (by decide) ?_
      exact hm_iret X hQ hr hlk hK hM hS d_GrantServerModel_to_21 ⟨(by simp [m_to, h1, h2]), rfl⟩
  · refine lv_bipush (v := 16) hx hb d_GrantServerModel_to_4 (by decide) ?_
    refine lv_goto (tgt := 21) hx hb d_GrantServerModel_to_6 (by decide) ?_
    exact hm_iret X hQ hr hlk hK hM hS d_GrantServerModel_to_21 ⟨(by simp [m_to, h1]), rfl⟩
set_option maxHeartbeats 4000000 in
set_option maxRecDepth 100000 in
theorem m_c_isText (l : Launch) (D : va_G) (k : Nat → ClassId) (f : hm) (x : Int32) : hm_Mi l D vwCl (tyL k) y_GrantServerModel_isText (Cond.code y_GrantServerModel_isText b_GrantServerModel_isText 1 (some .boolean) :: TB) ({ frames := 0, cells := 0, slots := 0, locals := 0 }) [.int x] f (fun (r : Int32) (f1 : hm) => z_text x = r ∧ f = f1) 0 0 := by
  refine hm_enter (Qc := fun sz => va_Qi _ (hm_R D vwCl (tyL k) f sz) (hm_A f sz)) (by decide) rfl (Nat.le_of_ble_eq_true rfl) ?_
  intro p e s m below meth cd ls X0 hr hlk hin hK hM hS hA hl Q hQ
  have X : CallFix p m cd b_GrantServerModel_isText 1 s ([.int x] : List Value).toArray TB R_GrantServerModel := ⟨X0.1, X0.2.1, X0.2.2.1, X0.2.2.2.1, fun w h => X0.2.2.2.2 w (List.mem_cons_of_mem _ h)⟩
  have hx := X.1; have hb := X.2.1; have hml := X.2.2.1; have hown := X.2.2.2.1; have hts := X.2.2.2.2
  have hl : lv_has ls 1 [(0, .int x)] := hl
  refine lv_iload_n hx hb d_GrantServerModel_isText_0 rfl (lv_at hl 0 rfl) ?_
  refine lv_bipush (v := 32) hx hb d_GrantServerModel_isText_1 (by decide) ?_
  refine lv_icmp_lt (tgt := 16) hx hb d_GrantServerModel_isText_3 (by decide) (fun h1 => ?_) (fun h1 => ?_)
  · refine lv_iconst (v := 0) hx hb d_GrantServerModel_isText_16 (by decide) ?_
    exact hm_zret X hQ hr hlk hK hM hS rfl d_GrantServerModel_isText_17 ⟨(by simp [z_text, h1, Int32.not_le.mpr h1]), rfl⟩
  · refine lv_iload_n hx hb d_GrantServerModel_isText_6 rfl (lv_at hl 0 rfl) ?_
    refine lv_bipush (v := 126) hx hb d_GrantServerModel_isText_7 (by decide) ?_
    refine lv_icmp_gt (tgt := 16) hx hb d_GrantServerModel_isText_9 (by decide) (fun h2 => ?_) (fun h2 => ?_)
    · refine lv_iconst (v := 0) hx hb d_GrantServerModel_isText_16 (by decide) ?_
      exact hm_zret X hQ hr hlk hK hM hS rfl d_GrantServerModel_isText_17 ⟨(by simp [z_text, h1, Int32.not_lt.mp h1, h2, Int32.not_le.mpr h2]), rfl⟩
    · refine lv_iconst (v := 1) hx hb d_GrantServerModel_isText_12 (by decide) ?_
      refine lv_goto (tgt := 17) hx hb d_GrantServerModel_isText_13 (by decide) ?_
      exact hm_zret X hQ hr hlk hK hM hS rfl d_GrantServerModel_isText_17 ⟨(by simp [z_text, h1, Int32.not_lt.mp h1, h2, Int32.not_lt.mp h2]), rfl⟩
set_option maxHeartbeats 4000000 in
set_option maxRecDepth 100000 in
theorem m_c_isClient (l : Launch) (D : va_G) (k : Nat → ClassId) (f : hm) (h : Nat) (ad : Nat → Nat) (sk : Int64) (v : Nat → Int32) (c : Nat → Nat → Int32) (x : Int32) (hmo : mo k f h ad sk v c) : hm_Mi l D vwCl (tyL k) y_GrantServerModel_isClient (Cond.code y_GrantServerModel_isClient b_GrantServerModel_isClient 2 (some .boolean) :: TB) ({ frames := 0, cells := 0, slots := 0, locals := 0 }) [.ref h, .int x] f (fun (r : Int32) (f1 : hm) => m_isC (v 8) x = r ∧ f = f1) 0 0 := by
  refine hm_enter (Qc := fun sz => va_Qi _ (hm_R D vwCl (tyL k) f sz) (hm_A f sz)) (by decide) rfl (Nat.le_of_ble_eq_true rfl) ?_
  intro p e s m below meth cd ls X0 hr hlk hin hK hM hS hA hl Q hQ
  have X : CallFix p m cd b_GrantServerModel_isClient 2 s ([.ref h, .int x] : List Value).toArray TB R_GrantServerModel := ⟨X0.1, X0.2.1, X0.2.2.1, X0.2.2.2.1, fun w h => X0.2.2.2.2 w (List.mem_cons_of_mem _ h)⟩
  have hx := X.1; have hb := X.2.1; have hml := X.2.2.1; have hown := X.2.2.2.1; have hts := X.2.2.2.2
  have hl : lv_has ls 2 [(0, .ref h), (1, .int x)] := hl
  have hfr : mo_fr h ad f f := mo_fr.rf
  refine lv_iload_n hx hb d_GrantServerModel_isClient_0 rfl (lv_at hl 1 rfl) ?_
  refine lv_if_lt (tgt := 16) hx hb d_GrantServerModel_isClient_1 (by decide) (fun h1 => ?_) (fun h1 => ?_)
  · refine lv_iconst (v := 0) hx hb d_GrantServerModel_isClient_16 (by decide) ?_
    exact hm_zret X hQ hr hlk hK hM hS rfl d_GrantServerModel_isClient_17 ⟨(by simp [m_isC, h1, Int32.not_le.mpr h1]), rfl⟩
  · refine lv_iload_n hx hb d_GrantServerModel_isClient_4 rfl (lv_at hl 1 rfl) ?_
    refine lv_aload_n hx hb d_GrantServerModel_isClient_5 rfl (lv_at hl 0 rfl) ?_
    refine hm_get X hK hM hmo.1 fl_GrantServerModel_86 (v := .int (v 8)) rfl d_GrantServerModel_isClient_6 ?_
    refine lv_icmp_ge (tgt := 16) hx hb d_GrantServerModel_isClient_9 (by decide) (fun h2 => ?_) (fun h2 => ?_)
    · refine lv_iconst (v := 0) hx hb d_GrantServerModel_isClient_16 (by decide) ?_
      exact hm_zret X hQ hr hlk hK hM hS rfl d_GrantServerModel_isClient_17 ⟨(by simp [m_isC, h1, Int32.not_lt.mp h1, h2, Int32.not_lt.mpr h2]), rfl⟩
    · refine lv_iconst (v := 1) hx hb d_GrantServerModel_isClient_12 (by decide) ?_
      refine lv_goto (tgt := 17) hx hb d_GrantServerModel_isClient_13 (by decide) ?_
      exact hm_zret X hQ hr hlk hK hM hS rfl d_GrantServerModel_isClient_17 ⟨(by simp [m_isC, h1, Int32.not_lt.mp h1, h2, Int32.not_le.mp h2]), rfl⟩
set_option maxHeartbeats 4000000 in
set_option maxRecDepth 100000 in
theorem m_c_tick (l : Launch) (D : va_G) (k : Nat → ClassId) (f : hm) (h : Nat) (ad : Nat → Nat) (sk : Int64) (v : Nat → Int32) (c : Nat → Nat → Int32) (x : Int32) (hmo : mo k f h ad sk v c) : hm_Mi l D vwCl (tyL k) y_GrantServerModel_tick (Cond.code y_GrantServerModel_tick b_GrantServerModel_tick 2 (some .boolean) :: TB) ({ frames := 0, cells := 0, slots := 0, locals := 0 }) [.ref h, .int x] f (fun (r : Int32) (f1 : hm) => m_tick x = r ∧ mo k f1 h ad sk (m_tickV v x) c ∧ mo_fr h ad f f1) 0 0 := by
  refine hm_enter (Qc := fun sz => va_Qi _ (hm_R D vwCl (tyL k) f sz) (hm_A f sz)) (by decide) rfl (Nat.le_of_ble_eq_true rfl) ?_
  intro p e s m below meth cd ls X0 hr hlk hin hK hM hS hA hl Q hQ
  have X : CallFix p m cd b_GrantServerModel_tick 2 s ([.ref h, .int x] : List Value).toArray TB R_GrantServerModel := ⟨X0.1, X0.2.1, X0.2.2.1, X0.2.2.2.1, fun w h => X0.2.2.2.2 w (List.mem_cons_of_mem _ h)⟩
  have hx := X.1; have hb := X.2.1; have hml := X.2.2.1; have hown := X.2.2.2.1; have hts := X.2.2.2.2
  have hl : lv_has ls 2 [(0, .ref h), (1, .int x)] := hl
  have hfr : mo_fr h ad f f := mo_fr.rf
  refine lv_iload_n hx hb d_GrantServerModel_tick_0 rfl (lv_at hl 1 rfl) ?_
  refine lv_if_lt (tgt := 11) hx hb d_GrantServerModel_tick_1 (by decide) (fun h1 => ?_) (fun h1 => ?_)
  · refine lv_iconst (v := 0) hx hb d_GrantServerModel_tick_11 (by decide) ?_
    exact hm_zret X hQ hr hlk hK hM hS rfl d_GrantServerModel_tick_12 ⟨(by simp [m_tick, h1, Int32.not_le.mpr h1]), (hmo.cv (by simp [m_tickV, h1, Int32.not_le.mpr h1]) (by simp [m_tickV, h1, Int32.not_le.mpr h1])), hfr⟩
  · refine lv_iload_n hx hb d_GrantServerModel_tick_4 rfl (lv_at hl 1 rfl) ?_
    refine lv_sipush (v := 10000) hx hb d_GrantServerModel_tick_5 (by decide) ?_
    refine lv_icmp_le (tgt := 13) hx hb d_GrantServerModel_tick_8 (by decide) (fun h2 => ?_) (fun h2 => ?_)
    · refine lv_aload_n hx hb d_GrantServerModel_tick_13 rfl (lv_at hl 0 rfl) ?_
      refine lv_aload_n hx hb d_GrantServerModel_tick_14 rfl (lv_at hl 0 rfl) ?_
      refine hm_get X hK hM hmo.1 fl_GrantServerModel_104 (v := .int (v 4)) rfl d_GrantServerModel_tick_15 ?_
      refine lv_iload_n hx hb d_GrantServerModel_tick_18 rfl (lv_at hl 1 rfl) ?_
      refine lv_iadd hx hb d_GrantServerModel_tick_19 ?_
      refine hm_put X hK hM hS (fs' := moV sk (upd v 4 ((v 4) + x)) ad) hmo.1 fl_GrantServerModel_104 rfl rfl (Nat.le_of_ble_eq_true rfl) rfl d_GrantServerModel_tick_20 (fun f3 H locs e4 hM hS => ?_)
      have hfr := hfr.put e4; have hmo : mo k f3 h ad sk (upd v 4 ((v 4) + x)) c := hmo.put e4
      refine lv_iconst (v := 1) hx hb d_GrantServerModel_tick_23 (by decide) ?_
      exact hm_zret X hQ hr hlk hK hM hS rfl d_GrantServerModel_tick_24 ⟨(by simp [m_tick, h1, Int32.not_lt.mp h1, h2, Int32.not_lt.mpr h2]), (hmo.cv (by simp [m_tickV, h1, Int32.not_lt.mp h1, h2, Int32.not_lt.mpr h2]) (by simp [m_tickV, h1, Int32.not_lt.mp h1, h2, Int32.not_lt.mpr h2])), hfr⟩
    · refine lv_iconst (v := 0) hx hb d_GrantServerModel_tick_11 (by decide) ?_
      exact hm_zret X hQ hr hlk hK hM hS rfl d_GrantServerModel_tick_12 ⟨(by simp [m_tick, h1, Int32.not_lt.mp h1, h2, Int32.not_le.mp h2]), (hmo.cv (by simp [m_tickV, h1, Int32.not_lt.mp h1, h2, Int32.not_le.mp h2]) (by simp [m_tickV, h1, Int32.not_lt.mp h1, h2, Int32.not_le.mp h2])), hfr⟩
set_option maxHeartbeats 4000000 in
set_option maxRecDepth 100000 in
theorem m_c_find (l : Launch) (D : va_G) (k : Nat → ClassId) (f : hm) (h : Nat) (ad : Nat → Nat) (sk : Int64) (v : Nat → Int32) (c : Nat → Nat → Int32) (x : Int32) (y : Int32) (hmo : mo k f h ad sk v c) : hm_Mi l D vwCl (tyL k) y_GrantServerModel_find (Cond.code y_GrantServerModel_find b_GrantServerModel_find 4 (some .int) :: TB) ({ frames := 1, cells := 0, slots := 0, locals := 20 }) [.ref h, .int x, .int y] f (fun (r : Int32) (f1 : hm) => m_findF (c 10) y (m_toN x - m_fromN x) (m_fromN x) = r ∧ f = f1) 0 0 := by
  refine hm_enter (Qc := fun sz => va_Qi _ (hm_R D vwCl (tyL k) f sz) (hm_A f sz)) (by decide) rfl (Nat.le_of_ble_eq_true rfl) ?_
  intro p e s m below meth cd ls X0 hr hlk hin hK hM hS hA hl Q hQ
  have X : CallFix p m cd b_GrantServerModel_find 4 s ([.ref h, .int x, .int y] : List Value).toArray TB R_GrantServerModel := ⟨X0.1, X0.2.1, X0.2.2.1, X0.2.2.2.1, fun w h => X0.2.2.2.2 w (List.mem_cons_of_mem _ h)⟩
  have hx := X.1; have hb := X.2.1; have hml := X.2.2.1; have hown := X.2.2.2.1; have hts := X.2.2.2.2
  have hl : lv_has ls 4 [(0, .ref h), (1, .int x), (2, .int y)] := hl
  have hfr : mo_fr h ad f f := mo_fr.rf
  have hft := m_ft x
  refine lv_iload_n hx hb d_GrantServerModel_find_0 rfl (lv_at hl 1 rfl) ?_
  refine hm_calli hS hM hA (va_runS (As := [.int x]) (rest := []) X (m_c_from l D k f x  s.heap.size) (hm_cwS hts me_GrantServerModel_from wl_GrantServerModel_93 rfl rfl ⟨Nat.le_of_ble_eq_true rfl, Nat.le_of_ble_eq_true rfl⟩) (hm_preS hM hK) rfl rfl hl.1 rfl (lv_room (Nat.le_of_ble_eq_true rfl)) d_GrantServerModel_find_1 ⟨Nat.le_of_ble_eq_true rfl, Nat.le_of_ble_eq_true rfl⟩) (fun r3 f1 H locs p2 hM hS => ?_)
  obtain ⟨rfl, rfl⟩ := p2
  refine hm_top (m_from_eq x) ?_
  refine lv_istore_n (lv' := [(3, .int (nI (m_fromN x))), (0, .ref h), (1, .int x), (2, .int y)]) hx hb d_GrantServerModel_find_4 rfl hl (by decide) rfl (fun ls hl => ?_)
  have loop5 : ∀ (fu : Nat) (j : Nat) (H : Heap) (locs : List Loc) (ls : Array Slot) (hmu : m_toN x - j < fu) (hj1 : m_fromN x ≤ j) (hj2 : j ≤ m_toN x) (hinv : m_findF (c 10) y (m_toN x - m_fromN x) (m_fromN x) = m_findF (c 10) y (m_toN x - j) j) (hM : hm_W D vwCl (hm_A f s.heap.size) f H) (hS : va_S (hm_A f s.heap.size) s.heap H locs) (hl : lv_has ls 4 [(0, .ref h), (1, .int x), (2, .int y), (3, .int (nI j))]), W p l e ({ frames := 1, cells := 0, slots := 0, locals := 20 }) s m ([.ref h, .int x, .int y] : List Value).toArray below meth cd H locs 0 0 Q (F0 m 5 ls []) := by
    intro fu
    induction fu with
    | zero => intro j H locs ls hmu; exact absurd hmu (Nat.not_lt_zero _)
    | succ fu ih =>
      intro j H locs ls hmu hj1 hj2 hinv  hM hS hl
      refine lv_iload_n hx hb d_GrantServerModel_find_5 rfl (lv_at hl 3 rfl) ?_
      refine lv_iload_n hx hb d_GrantServerModel_find_6 rfl (lv_at hl 1 rfl) ?_
      refine hm_calli hS hM hA (va_runS (As := [.int x]) (rest := [.int (nI j)]) X (m_c_to l D k f x  H.size) (hm_cwS hts me_GrantServerModel_to wl_GrantServerModel_96 rfl rfl ⟨Nat.le_of_ble_eq_true rfl, Nat.le_of_ble_eq_true rfl⟩) (hm_preS hM hK) rfl rfl hl.1 rfl (lv_room (Nat.le_of_ble_eq_true rfl)) d_GrantServerModel_find_7 ⟨Nat.le_of_ble_eq_true rfl, Nat.le_of_ble_eq_true rfl⟩) (fun r6 f4 H locs p5 hM hS => ?_)
      obtain ⟨rfl, rfl⟩ := p5
      refine hm_top (m_to_eq x) ?_
      refine lv_icmp_ge (tgt := 35) hx hb d_GrantServerModel_find_10 (by decide) (fun h7 => ?_) (fun h7 => ?_)
      · have hge : m_toN x ≤ j := by have z := h7; rw [nI_leI (by omega) (by omega)] at z; omega
        refine lv_iconst (v := (-1)) hx hb d_GrantServerModel_find_35 (by decide) ?_
        exact hm_iret X hQ hr hlk hK hM hS d_GrantServerModel_find_36 ⟨(by rw [hinv, show m_toN x - j = 0 by omega]; rfl), rfl⟩
      · have hlt : j < m_toN x := by have z := h7; rw [nI_leI (by omega) (by omega)] at z; omega
        refine lv_iload_n hx hb d_GrantServerModel_find_13 rfl (lv_at hl 2 rfl) ?_
        refine lv_if_eq (tgt := 29) hx hb d_GrantServerModel_find_14 (by decide) (fun h8 => ?_) (fun h8 => ?_)
        · refine lv_iinc (lv' := [(3, .int (nI (j + 1))), (0, .ref h), (1, .int x), (2, .int y)]) hx hb d_GrantServerModel_find_29 hl (k := 3) rfl (hm_inc _) (by decide) rfl (fun ls hl => ?_)
          refine lv_goto (tgt := 5) hx hb d_GrantServerModel_find_32 (by decide) ?_
          exact ih (j + 1)  H locs ls (by omega) (by omega) (by omega) (by rw [hinv, show m_toN x - j = (m_toN x - (j + 1)) + 1 by omega]; simp [m_findF, h7, Int32.not_le.mp h7, h8])  hM hS (lv_sub hl [1, 2, 3, 0] rfl)
        · refine lv_aload_n hx hb d_GrantServerModel_find_17 rfl (lv_at hl 0 rfl) ?_
          refine hm_get X hK hM hmo.1 fl_GrantServerModel_23 (v := .ref (ad 10)) rfl d_GrantServerModel_find_18 ?_
          refine lv_iload_n hx hb d_GrantServerModel_find_21 rfl (lv_at hl 3 rfl) ?_
          have g9 : f (ad 10) = some (.inl (k 0, 64, .inl (c 10))) := hmo.arr 10 (by decide) (by decide)
          refine hm_iald X hK hM g9 0 rfl j rfl (show j < 64 by omega) (by decide) d_GrantServerModel_find_22 ?_
          refine lv_iload_n hx hb d_GrantServerModel_find_23 rfl (lv_at hl 2 rfl) ?_
          refine lv_icmp_ne (tgt := 29) hx hb d_GrantServerModel_find_24 (by decide) (fun h10 => ?_) (fun h10 => ?_)
          · refine lv_iinc (lv' := [(3, .int (nI (j + 1))), (0, .ref h), (1, .int x), (2, .int y)]) hx hb d_GrantServerModel_find_29 hl (k := 3) rfl (hm_inc _) (by decide) rfl (fun ls hl => ?_)
            refine lv_goto (tgt := 5) hx hb d_GrantServerModel_find_32 (by decide) ?_
            exact ih (j + 1)  H locs ls (by omega) (by omega) (by omega) (by rw [hinv, show m_toN x - j = (m_toN x - (j + 1)) + 1 by omega]; simp [m_findF, h7, Int32.not_le.mp h7, h8, h10])  hM hS (lv_sub hl [1, 2, 3, 0] rfl)
          · refine lv_iload_n hx hb d_GrantServerModel_find_27 rfl (lv_at hl 3 rfl) ?_
            exact hm_iret X hQ hr hlk hK hM hS d_GrantServerModel_find_28 ⟨(by rw [hinv, show m_toN x - j = (m_toN x - (j + 1)) + 1 by omega]; simp [m_findF, h7, Int32.not_le.mp h7, h8, h10]), rfl⟩
  exact loop5 _ (m_fromN x)  H locs ls (Nat.lt_succ_self _) (Nat.le_refl _) hft.1 rfl  hM hS (lv_sub hl [1, 2, 3, 0] rfl)
set_option maxHeartbeats 4000000 in
set_option maxRecDepth 100000 in
theorem m_c_room (l : Launch) (D : va_G) (k : Nat → ClassId) (f : hm) (h : Nat) (ad : Nat → Nat) (sk : Int64) (v : Nat → Int32) (c : Nat → Nat → Int32) (x : Int32) (hmo : mo k f h ad sk v c) : hm_Mi l D vwCl (tyL k) y_GrantServerModel_room (Cond.code y_GrantServerModel_room b_GrantServerModel_room 3 (some .int) :: TB) ({ frames := 1, cells := 0, slots := 0, locals := 20 }) [.ref h, .int x] f (fun (r : Int32) (f1 : hm) => m_roomF (c 10) (m_toN x - m_fromN x) (m_fromN x) = r ∧ f = f1) 0 0 := by
  refine hm_enter (Qc := fun sz => va_Qi _ (hm_R D vwCl (tyL k) f sz) (hm_A f sz)) (by decide) rfl (Nat.le_of_ble_eq_true rfl) ?_
  intro p e s m below meth cd ls X0 hr hlk hin hK hM hS hA hl Q hQ
  have X : CallFix p m cd b_GrantServerModel_room 3 s ([.ref h, .int x] : List Value).toArray TB R_GrantServerModel := ⟨X0.1, X0.2.1, X0.2.2.1, X0.2.2.2.1, fun w h => X0.2.2.2.2 w (List.mem_cons_of_mem _ h)⟩
  have hx := X.1; have hb := X.2.1; have hml := X.2.2.1; have hown := X.2.2.2.1; have hts := X.2.2.2.2
  have hl : lv_has ls 3 [(0, .ref h), (1, .int x)] := hl
  have hfr : mo_fr h ad f f := mo_fr.rf
  have hft := m_ft x
  refine lv_iload_n hx hb d_GrantServerModel_room_0 rfl (lv_at hl 1 rfl) ?_
  refine hm_calli hS hM hA (va_runS (As := [.int x]) (rest := []) X (m_c_from l D k f x  s.heap.size) (hm_cwS hts me_GrantServerModel_from wl_GrantServerModel_93 rfl rfl ⟨Nat.le_of_ble_eq_true rfl, Nat.le_of_ble_eq_true rfl⟩) (hm_preS hM hK) rfl rfl hl.1 rfl (lv_room (Nat.le_of_ble_eq_true rfl)) d_GrantServerModel_room_1 ⟨Nat.le_of_ble_eq_true rfl, Nat.le_of_ble_eq_true rfl⟩) (fun r3 f1 H locs p2 hM hS => ?_)
  obtain ⟨rfl, rfl⟩ := p2
  refine hm_top (m_from_eq x) ?_
  refine lv_istore_n (lv' := [(2, .int (nI (m_fromN x))), (0, .ref h), (1, .int x)]) hx hb d_GrantServerModel_room_4 rfl hl (by decide) rfl (fun ls hl => ?_)
  have loop5 : ∀ (fu : Nat) (j : Nat) (H : Heap) (locs : List Loc) (ls : Array Slot) (hmu : m_toN x - j < fu) (hj1 : m_fromN x ≤ j) (hj2 : j ≤ m_toN x) (hinv : m_roomF (c 10) (m_toN x - m_fromN x) (m_fromN x) = m_roomF (c 10) (m_toN x - j) j) (hM : hm_W D vwCl (hm_A f s.heap.size) f H) (hS : va_S (hm_A f s.heap.size) s.heap H locs) (hl : lv_has ls 3 [(0, .ref h), (1, .int x), (2, .int (nI j))]), W p l e ({ frames := 1, cells := 0, slots := 0, locals := 20 }) s m ([.ref h, .int x] : List Value).toArray below meth cd H locs 0 0 Q (F0 m 5 ls []) := by
    intro fu
    induction fu with
    | zero => intro j H locs ls hmu; exact absurd hmu (Nat.not_lt_zero _)
    | succ fu ih =>
      intro j H locs ls hmu hj1 hj2 hinv  hM hS hl
      refine lv_iload_n hx hb d_GrantServerModel_room_5 rfl (lv_at hl 2 rfl) ?_
      refine lv_iload_n hx hb d_GrantServerModel_room_6 rfl (lv_at hl 1 rfl) ?_
      refine hm_calli hS hM hA (va_runS (As := [.int x]) (rest := [.int (nI j)]) X (m_c_to l D k f x  H.size) (hm_cwS hts me_GrantServerModel_to wl_GrantServerModel_96 rfl rfl ⟨Nat.le_of_ble_eq_true rfl, Nat.le_of_ble_eq_true rfl⟩) (hm_preS hM hK) rfl rfl hl.1 rfl (lv_room (Nat.le_of_ble_eq_true rfl)) d_GrantServerModel_room_7 ⟨Nat.le_of_ble_eq_true rfl, Nat.le_of_ble_eq_true rfl⟩) (fun r6 f4 H locs p5 hM hS => ?_)
      obtain ⟨rfl, rfl⟩ := p5
      refine hm_top (m_to_eq x) ?_
      refine lv_icmp_ge (tgt := 30) hx hb d_GrantServerModel_room_10 (by decide) (fun h7 => ?_) (fun h7 => ?_)
      · have hge : m_toN x ≤ j := by have z := h7; rw [nI_leI (by omega) (by omega)] at z; omega
        refine lv_iconst (v := (-1)) hx hb d_GrantServerModel_room_30 (by decide) ?_
        exact hm_iret X hQ hr hlk hK hM hS d_GrantServerModel_room_31 ⟨(by rw [hinv, show m_toN x - j = 0 by omega]; rfl), rfl⟩
      · have hlt : j < m_toN x := by have z := h7; rw [nI_leI (by omega) (by omega)] at z; omega
        refine lv_aload_n hx hb d_GrantServerModel_room_13 rfl (lv_at hl 0 rfl) ?_
        refine hm_get X hK hM hmo.1 fl_GrantServerModel_23 (v := .ref (ad 10)) rfl d_GrantServerModel_room_14 ?_
        refine lv_iload_n hx hb d_GrantServerModel_room_17 rfl (lv_at hl 2 rfl) ?_
        have g8 : f (ad 10) = some (.inl (k 0, 64, .inl (c 10))) := hmo.arr 10 (by decide) (by decide)
        refine hm_iald X hK hM g8 0 rfl j rfl (show j < 64 by omega) (by decide) d_GrantServerModel_room_18 ?_
        refine lv_if_ne (tgt := 24) hx hb d_GrantServerModel_room_19 (by decide) (fun h9 => ?_) (fun h9 => ?_)
        · refine lv_iinc (lv' := [(2, .int (nI (j + 1))), (0, .ref h), (1, .int x)]) hx hb d_GrantServerModel_room_24 hl (k := 2) rfl (hm_inc _) (by decide) rfl (fun ls hl => ?_)
          refine lv_goto (tgt := 5) hx hb d_GrantServerModel_room_27 (by decide) ?_
          exact ih (j + 1)  H locs ls (by omega) (by omega) (by omega) (by rw [hinv, show m_toN x - j = (m_toN x - (j + 1)) + 1 by omega]; simp [m_roomF, h7, Int32.not_le.mp h7, h9])  hM hS (lv_sub hl [1, 2, 0] rfl)
        · refine lv_iload_n hx hb d_GrantServerModel_room_22 rfl (lv_at hl 2 rfl) ?_
          exact hm_iret X hQ hr hlk hK hM hS d_GrantServerModel_room_23 ⟨(by rw [hinv, show m_toN x - j = (m_toN x - (j + 1)) + 1 by omega]; simp [m_roomF, h7, Int32.not_le.mp h7, h9]), rfl⟩
  exact loop5 _ (m_fromN x)  H locs ls (Nat.lt_succ_self _) (Nat.le_refl _) hft.1 rfl  hM hS (lv_sub hl [1, 2, 0] rfl)
set_option maxHeartbeats 4000000 in
set_option maxRecDepth 100000 in
theorem m_c_isActive (l : Launch) (D : va_G) (k : Nat → ClassId) (f : hm) (h : Nat) (ad : Nat → Nat) (sk : Int64) (v : Nat → Int32) (c : Nat → Nat → Int32) (j : Nat) (hmo : mo k f h ad sk v c) (hj : j < 64) (hfam : c 15 j < 0 ∨ ∃ t, t < 520 ∧ c 15 j = nI t) : hm_Mi l D vwCl (tyL k) y_GrantServerModel_isActive (Cond.code y_GrantServerModel_isActive b_GrantServerModel_isActive 2 (some .boolean) :: TB) ({ frames := 0, cells := 0, slots := 0, locals := 0 }) [.ref h, .int (nI j)] f (fun (r : Int32) (f1 : hm) => m_act v c j = r ∧ f = f1) 0 0 := by
  refine hm_enter (Qc := fun sz => va_Qi _ (hm_R D vwCl (tyL k) f sz) (hm_A f sz)) (by decide) rfl (Nat.le_of_ble_eq_true rfl) ?_
  intro p e s m below meth cd ls X0 hr hlk hin hK hM hS hA hl Q hQ
  have X : CallFix p m cd b_GrantServerModel_isActive 2 s ([.ref h, .int (nI j)] : List Value).toArray TB R_GrantServerModel := ⟨X0.1, X0.2.1, X0.2.2.1, X0.2.2.2.1, fun w h => X0.2.2.2.2 w (List.mem_cons_of_mem _ h)⟩
  have hx := X.1; have hb := X.2.1; have hml := X.2.2.1; have hown := X.2.2.2.1; have hts := X.2.2.2.2
  have hl : lv_has ls 2 [(0, .ref h), (1, .int (nI j))] := hl
  have hfr : mo_fr h ad f f := mo_fr.rf
  refine lv_aload_n hx hb d_GrantServerModel_isActive_0 rfl (lv_at hl 0 rfl) ?_
  refine hm_get X hK hM hmo.1 fl_GrantServerModel_23 (v := .ref (ad 10)) rfl d_GrantServerModel_isActive_1 ?_
  refine lv_iload_n hx hb d_GrantServerModel_isActive_4 rfl (lv_at hl 1 rfl) ?_
  have g1 : f (ad 10) = some (.inl (k 0, 64, .inl (c 10))) := hmo.arr 10 (by decide) (by decide)
  refine hm_iald X hK hM g1 0 rfl j rfl (show j < 64 from hj) (by decide) d_GrantServerModel_isActive_5 ?_
  refine lv_if_eq (tgt := 58) hx hb d_GrantServerModel_isActive_6 (by decide) (fun h2 => ?_) (fun h2 => ?_)
  · refine lv_iconst (v := 0) hx hb d_GrantServerModel_isActive_58 (by decide) ?_
    exact hm_zret X hQ hr hlk hK hM hS rfl d_GrantServerModel_isActive_59 ⟨(by simp [m_act, h2]), rfl⟩
  · refine lv_aload_n hx hb d_GrantServerModel_isActive_9 rfl (lv_at hl 0 rfl) ?_
    refine hm_get X hK hM hmo.1 fl_GrantServerModel_35 (v := .ref (ad 14)) rfl d_GrantServerModel_isActive_10 ?_
    refine lv_iload_n hx hb d_GrantServerModel_isActive_13 rfl (lv_at hl 1 rfl) ?_
    have g3 : f (ad 14) = some (.inl (k 1, 64, .inl (c 14))) := hmo.arr 14 (by decide) (by decide)
    refine hm_zald X hK hM g3 1 rfl j rfl (show j < 64 from hj) (by decide) d_GrantServerModel_isActive_14 ?_
    refine lv_if_ne (tgt := 58) hx hb d_GrantServerModel_isActive_15 (by decide) (fun h4 => ?_) (fun h4 => ?_)
    · refine lv_iconst (v := 0) hx hb d_GrantServerModel_isActive_58 (by decide) ?_
      exact hm_zret X hQ hr hlk hK hM hS rfl d_GrantServerModel_isActive_59 ⟨(by simp [m_act, h2, h4]), rfl⟩
    · refine lv_aload_n hx hb d_GrantServerModel_isActive_18 rfl (lv_at hl 0 rfl) ?_
      refine hm_get X hK hM hmo.1 fl_GrantServerModel_32 (v := .ref (ad 13)) rfl d_GrantServerModel_isActive_19 ?_
      refine lv_iload_n hx hb d_GrantServerModel_isActive_22 rfl (lv_at hl 1 rfl) ?_
      have g5 : f (ad 13) = some (.inl (k 0, 64, .inl (c 13))) := hmo.arr 13 (by decide) (by decide)
      refine hm_iald X hK hM g5 0 rfl j rfl (show j < 64 from hj) (by decide) d_GrantServerModel_isActive_23 ?_
      refine lv_aload_n hx hb d_GrantServerModel_isActive_24 rfl (lv_at hl 0 rfl) ?_
      refine hm_get X hK hM hmo.1 fl_GrantServerModel_104 (v := .int (v 4)) rfl d_GrantServerModel_isActive_25 ?_
      refine lv_icmp_le (tgt := 58) hx hb d_GrantServerModel_isActive_28 (by decide) (fun h6 => ?_) (fun h6 => ?_)
      · refine lv_iconst (v := 0) hx hb d_GrantServerModel_isActive_58 (by decide) ?_
        exact hm_zret X hQ hr hlk hK hM hS rfl d_GrantServerModel_isActive_59 ⟨(by simp [m_act, h2, h4, h6, Int32.not_lt.mpr h6]), rfl⟩
      · refine lv_aload_n hx hb d_GrantServerModel_isActive_31 rfl (lv_at hl 0 rfl) ?_
        refine hm_get X hK hM hmo.1 fl_GrantServerModel_39 (v := .ref (ad 15)) rfl d_GrantServerModel_isActive_32 ?_
        refine lv_iload_n hx hb d_GrantServerModel_isActive_35 rfl (lv_at hl 1 rfl) ?_
        have g7 : f (ad 15) = some (.inl (k 0, 64, .inl (c 15))) := hmo.arr 15 (by decide) (by decide)
        refine hm_iald X hK hM g7 0 rfl j rfl (show j < 64 from hj) (by decide) d_GrantServerModel_isActive_36 ?_
        refine lv_if_lt (tgt := 54) hx hb d_GrantServerModel_isActive_37 (by decide) (fun h8 => ?_) (fun h8 => ?_)
        · refine lv_iconst (v := 1) hx hb d_GrantServerModel_isActive_54 (by decide) ?_
          refine lv_goto (tgt := 59) hx hb d_GrantServerModel_isActive_55 (by decide) ?_
          exact hm_zret X hQ hr hlk hK hM hS rfl d_GrantServerModel_isActive_59 ⟨(by simp [m_act, h2, h4, h6, Int32.not_le.mp h6, h8, Int32.not_le.mpr h8]), rfl⟩
        · obtain ⟨t9, ht9⟩ := hfam.resolve_left h8
          refine lv_aload_n hx hb d_GrantServerModel_isActive_40 rfl (lv_at hl 0 rfl) ?_
          refine hm_get X hK hM hmo.1 fl_GrantServerModel_54 (v := .ref (ad 21)) rfl d_GrantServerModel_isActive_41 ?_
          refine lv_aload_n hx hb d_GrantServerModel_isActive_44 rfl (lv_at hl 0 rfl) ?_
          refine hm_get X hK hM hmo.1 fl_GrantServerModel_39 (v := .ref (ad 15)) rfl d_GrantServerModel_isActive_45 ?_
          refine lv_iload_n hx hb d_GrantServerModel_isActive_48 rfl (lv_at hl 1 rfl) ?_
          have g9 : f (ad 15) = some (.inl (k 0, 64, .inl (c 15))) := hmo.arr 15 (by decide) (by decide)
          refine hm_iald X hK hM g9 0 rfl j rfl (show j < 64 from hj) (by decide) d_GrantServerModel_isActive_49 ?_
          have g10 : f (ad 21) = some (.inl (k 1, 520, .inl (c 21))) := hmo.arr 21 (by decide) (by decide)
          refine hm_zald X hK hM g10 1 rfl t9 ht9.2 ht9.1 (by decide) d_GrantServerModel_isActive_50 ?_
          refine lv_if_ne (tgt := 58) hx hb d_GrantServerModel_isActive_51 (by decide) (fun h11 => ?_) (fun h11 => ?_)
          · refine lv_iconst (v := 0) hx hb d_GrantServerModel_isActive_58 (by decide) ?_
            exact hm_zret X hQ hr hlk hK hM hS rfl d_GrantServerModel_isActive_59 ⟨(by have hz := nI_clamp (show t9 < 2 ^ 31 by omega); simp [m_act, h2, h4, h6, Int32.not_le.mp h6, h8, Int32.not_lt.mp h8, h11, ht9.2, hz] at *; try simp [*]), rfl⟩
          · refine lv_iconst (v := 1) hx hb d_GrantServerModel_isActive_54 (by decide) ?_
            refine lv_goto (tgt := 59) hx hb d_GrantServerModel_isActive_55 (by decide) ?_
            exact hm_zret X hQ hr hlk hK hM hS rfl d_GrantServerModel_isActive_59 ⟨(by have hz := nI_clamp (show t9 < 2 ^ 31 by omega); simp [m_act, h2, h4, h6, Int32.not_le.mp h6, h8, Int32.not_lt.mp h8, h11, ht9.2, hz] at *; try simp [*]), rfl⟩
end
section
theorem d_GrantServerModel_init_0 : decode b_GrantServerModel_init 0 = .ok (.aload_n 0, 1) := by decide +kernel
theorem d_GrantServerModel_init_1 : decode b_GrantServerModel_init 1 = .ok (.invokespecial 1, 3) := by decide +kernel
theorem d_GrantServerModel_init_4 : decode b_GrantServerModel_init 4 = .ok (.aload_n 0, 1) := by decide +kernel
theorem d_GrantServerModel_init_5 : decode b_GrantServerModel_init 5 = .ok (.iconst 4, 1) := by decide +kernel
theorem d_GrantServerModel_init_6 : decode b_GrantServerModel_init 6 = .ok (.newarray .int, 2) := by decide +kernel
theorem d_GrantServerModel_init_8 : decode b_GrantServerModel_init 8 = .ok (.putfield 7, 3) := by decide +kernel
theorem d_GrantServerModel_init_11 : decode b_GrantServerModel_init 11 = .ok (.aload_n 0, 1) := by decide +kernel
theorem d_GrantServerModel_init_12 : decode b_GrantServerModel_init 12 = .ok (.iconst 4, 1) := by decide +kernel
theorem d_GrantServerModel_init_13 : decode b_GrantServerModel_init 13 = .ok (.newarray .int, 2) := by decide +kernel
theorem d_GrantServerModel_init_15 : decode b_GrantServerModel_init 15 = .ok (.putfield 13, 3) := by decide +kernel
theorem d_GrantServerModel_init_18 : decode b_GrantServerModel_init 18 = .ok (.aload_n 0, 1) := by decide +kernel
theorem d_GrantServerModel_init_19 : decode b_GrantServerModel_init 19 = .ok (.iconst 4, 1) := by decide +kernel
theorem d_GrantServerModel_init_20 : decode b_GrantServerModel_init 20 = .ok (.newarray .int, 2) := by decide +kernel
theorem d_GrantServerModel_init_22 : decode b_GrantServerModel_init 22 = .ok (.putfield 16, 3) := by decide +kernel
theorem d_GrantServerModel_init_25 : decode b_GrantServerModel_init 25 = .ok (.aload_n 0, 1) := by decide +kernel
theorem d_GrantServerModel_init_26 : decode b_GrantServerModel_init 26 = .ok (.iconst (-1), 1) := by decide +kernel
theorem d_GrantServerModel_init_27 : decode b_GrantServerModel_init 27 = .ok (.putfield 19, 3) := by decide +kernel
theorem d_GrantServerModel_init_30 : decode b_GrantServerModel_init 30 = .ok (.aload_n 0, 1) := by decide +kernel
theorem d_GrantServerModel_init_31 : decode b_GrantServerModel_init 31 = .ok (.bipush 64, 2) := by decide +kernel
theorem d_GrantServerModel_init_33 : decode b_GrantServerModel_init 33 = .ok (.newarray .int, 2) := by decide +kernel
theorem d_GrantServerModel_init_35 : decode b_GrantServerModel_init 35 = .ok (.putfield 23, 3) := by decide +kernel
theorem d_GrantServerModel_init_38 : decode b_GrantServerModel_init 38 = .ok (.aload_n 0, 1) := by decide +kernel
theorem d_GrantServerModel_init_39 : decode b_GrantServerModel_init 39 = .ok (.bipush 64, 2) := by decide +kernel
theorem d_GrantServerModel_init_41 : decode b_GrantServerModel_init 41 = .ok (.newarray .int, 2) := by decide +kernel
theorem d_GrantServerModel_init_43 : decode b_GrantServerModel_init 43 = .ok (.putfield 26, 3) := by decide +kernel
theorem d_GrantServerModel_init_46 : decode b_GrantServerModel_init 46 = .ok (.aload_n 0, 1) := by decide +kernel
theorem d_GrantServerModel_init_47 : decode b_GrantServerModel_init 47 = .ok (.bipush 64, 2) := by decide +kernel
theorem d_GrantServerModel_init_49 : decode b_GrantServerModel_init 49 = .ok (.newarray .int, 2) := by decide +kernel
theorem d_GrantServerModel_init_51 : decode b_GrantServerModel_init 51 = .ok (.putfield 29, 3) := by decide +kernel
theorem d_GrantServerModel_init_54 : decode b_GrantServerModel_init 54 = .ok (.aload_n 0, 1) := by decide +kernel
theorem d_GrantServerModel_init_55 : decode b_GrantServerModel_init 55 = .ok (.bipush 64, 2) := by decide +kernel
theorem d_GrantServerModel_init_57 : decode b_GrantServerModel_init 57 = .ok (.newarray .int, 2) := by decide +kernel
theorem d_GrantServerModel_init_59 : decode b_GrantServerModel_init 59 = .ok (.putfield 32, 3) := by decide +kernel
theorem d_GrantServerModel_init_62 : decode b_GrantServerModel_init 62 = .ok (.aload_n 0, 1) := by decide +kernel
theorem d_GrantServerModel_init_63 : decode b_GrantServerModel_init 63 = .ok (.bipush 64, 2) := by decide +kernel
theorem d_GrantServerModel_init_65 : decode b_GrantServerModel_init 65 = .ok (.newarray .boolean, 2) := by decide +kernel
theorem d_GrantServerModel_init_67 : decode b_GrantServerModel_init 67 = .ok (.putfield 35, 3) := by decide +kernel
theorem d_GrantServerModel_init_70 : decode b_GrantServerModel_init 70 = .ok (.aload_n 0, 1) := by decide +kernel
theorem d_GrantServerModel_init_71 : decode b_GrantServerModel_init 71 = .ok (.bipush 64, 2) := by decide +kernel
theorem d_GrantServerModel_init_73 : decode b_GrantServerModel_init 73 = .ok (.newarray .int, 2) := by decide +kernel
theorem d_GrantServerModel_init_75 : decode b_GrantServerModel_init 75 = .ok (.putfield 39, 3) := by decide +kernel
theorem d_GrantServerModel_init_78 : decode b_GrantServerModel_init 78 = .ok (.aload_n 0, 1) := by decide +kernel
theorem d_GrantServerModel_init_79 : decode b_GrantServerModel_init 79 = .ok (.bipush 16, 2) := by decide +kernel
theorem d_GrantServerModel_init_81 : decode b_GrantServerModel_init 81 = .ok (.newarray .int, 2) := by decide +kernel
theorem d_GrantServerModel_init_83 : decode b_GrantServerModel_init 83 = .ok (.putfield 42, 3) := by decide +kernel
theorem d_GrantServerModel_init_86 : decode b_GrantServerModel_init 86 = .ok (.aload_n 0, 1) := by decide +kernel
theorem d_GrantServerModel_init_87 : decode b_GrantServerModel_init 87 = .ok (.bipush 16, 2) := by decide +kernel
theorem d_GrantServerModel_init_89 : decode b_GrantServerModel_init 89 = .ok (.newarray .int, 2) := by decide +kernel
theorem d_GrantServerModel_init_91 : decode b_GrantServerModel_init 91 = .ok (.putfield 45, 3) := by decide +kernel
theorem d_GrantServerModel_init_94 : decode b_GrantServerModel_init 94 = .ok (.aload_n 0, 1) := by decide +kernel
theorem d_GrantServerModel_init_95 : decode b_GrantServerModel_init 95 = .ok (.sipush 520, 3) := by decide +kernel
theorem d_GrantServerModel_init_98 : decode b_GrantServerModel_init 98 = .ok (.newarray .int, 2) := by decide +kernel
theorem d_GrantServerModel_init_100 : decode b_GrantServerModel_init 100 = .ok (.putfield 48, 3) := by decide +kernel
theorem d_GrantServerModel_init_103 : decode b_GrantServerModel_init 103 = .ok (.aload_n 0, 1) := by decide +kernel
theorem d_GrantServerModel_init_104 : decode b_GrantServerModel_init 104 = .ok (.sipush 520, 3) := by decide +kernel
theorem d_GrantServerModel_init_107 : decode b_GrantServerModel_init 107 = .ok (.newarray .int, 2) := by decide +kernel
theorem d_GrantServerModel_init_109 : decode b_GrantServerModel_init 109 = .ok (.putfield 51, 3) := by decide +kernel
theorem d_GrantServerModel_init_112 : decode b_GrantServerModel_init 112 = .ok (.aload_n 0, 1) := by decide +kernel
theorem d_GrantServerModel_init_113 : decode b_GrantServerModel_init 113 = .ok (.sipush 520, 3) := by decide +kernel
theorem d_GrantServerModel_init_116 : decode b_GrantServerModel_init 116 = .ok (.newarray .boolean, 2) := by decide +kernel
theorem d_GrantServerModel_init_118 : decode b_GrantServerModel_init 118 = .ok (.putfield 54, 3) := by decide +kernel
theorem d_GrantServerModel_init_121 : decode b_GrantServerModel_init 121 = .ok (.aload_n 0, 1) := by decide +kernel
theorem d_GrantServerModel_init_122 : decode b_GrantServerModel_init 122 = .ok (.bipush 120, 2) := by decide +kernel
theorem d_GrantServerModel_init_124 : decode b_GrantServerModel_init 124 = .ok (.newarray .int, 2) := by decide +kernel
theorem d_GrantServerModel_init_126 : decode b_GrantServerModel_init 126 = .ok (.putfield 57, 3) := by decide +kernel
theorem d_GrantServerModel_init_129 : decode b_GrantServerModel_init 129 = .ok (.aload_n 0, 1) := by decide +kernel
theorem d_GrantServerModel_init_130 : decode b_GrantServerModel_init 130 = .ok (.bipush 120, 2) := by decide +kernel
theorem d_GrantServerModel_init_132 : decode b_GrantServerModel_init 132 = .ok (.newarray .int, 2) := by decide +kernel
theorem d_GrantServerModel_init_134 : decode b_GrantServerModel_init 134 = .ok (.putfield 60, 3) := by decide +kernel
theorem d_GrantServerModel_init_137 : decode b_GrantServerModel_init 137 = .ok (.aload_n 0, 1) := by decide +kernel
theorem d_GrantServerModel_init_138 : decode b_GrantServerModel_init 138 = .ok (.sipush 130, 3) := by decide +kernel
theorem d_GrantServerModel_init_141 : decode b_GrantServerModel_init 141 = .ok (.newarray .int, 2) := by decide +kernel
theorem d_GrantServerModel_init_143 : decode b_GrantServerModel_init 143 = .ok (.putfield 63, 3) := by decide +kernel
theorem d_GrantServerModel_init_146 : decode b_GrantServerModel_init 146 = .ok (.aload_n 0, 1) := by decide +kernel
theorem d_GrantServerModel_init_147 : decode b_GrantServerModel_init 147 = .ok (.iconst 5, 1) := by decide +kernel
theorem d_GrantServerModel_init_148 : decode b_GrantServerModel_init 148 = .ok (.newarray .int, 2) := by decide +kernel
theorem d_GrantServerModel_init_150 : decode b_GrantServerModel_init 150 = .ok (.putfield 66, 3) := by decide +kernel
theorem d_GrantServerModel_init_153 : decode b_GrantServerModel_init 153 = .ok (.aload_n 0, 1) := by decide +kernel
theorem d_GrantServerModel_init_154 : decode b_GrantServerModel_init 154 = .ok (.iload_n 1, 1) := by decide +kernel
theorem d_GrantServerModel_init_155 : decode b_GrantServerModel_init 155 = .ok (.i2l, 1) := by decide +kernel
theorem d_GrantServerModel_init_156 : decode b_GrantServerModel_init 156 = .ok (.putfield 69, 3) := by decide +kernel
theorem d_GrantServerModel_init_159 : decode b_GrantServerModel_init 159 = .ok (.aload_n 0, 1) := by decide +kernel
theorem d_GrantServerModel_init_160 : decode b_GrantServerModel_init 160 = .ok (.iload_n 2, 1) := by decide +kernel
theorem d_GrantServerModel_init_161 : decode b_GrantServerModel_init 161 = .ok (.invokestatic 73, 3) := by decide +kernel
theorem d_GrantServerModel_init_164 : decode b_GrantServerModel_init 164 = .ok (.putfield 77, 3) := by decide +kernel
theorem d_GrantServerModel_init_167 : decode b_GrantServerModel_init 167 = .ok (.aload_n 0, 1) := by decide +kernel
theorem d_GrantServerModel_init_168 : decode b_GrantServerModel_init 168 = .ok (.iload_n 3, 1) := by decide +kernel
theorem d_GrantServerModel_init_169 : decode b_GrantServerModel_init 169 = .ok (.invokestatic 73, 3) := by decide +kernel
theorem d_GrantServerModel_init_172 : decode b_GrantServerModel_init 172 = .ok (.putfield 80, 3) := by decide +kernel
theorem d_GrantServerModel_init_175 : decode b_GrantServerModel_init 175 = .ok (.aload_n 0, 1) := by decide +kernel
theorem d_GrantServerModel_init_176 : decode b_GrantServerModel_init 176 = .ok (.iload 4, 2) := by decide +kernel
theorem d_GrantServerModel_init_178 : decode b_GrantServerModel_init 178 = .ok (.invokestatic 73, 3) := by decide +kernel
theorem d_GrantServerModel_init_181 : decode b_GrantServerModel_init 181 = .ok (.putfield 83, 3) := by decide +kernel
theorem d_GrantServerModel_init_184 : decode b_GrantServerModel_init 184 = .ok (.return_, 1) := by decide +kernel
set_option maxRecDepth 20000 in
theorem fF_GrantServerModel_13 : hm_flF vwCl TB R_GrantServerModel 13 8 6 (.array .int) := ⟨_, _, _, _, cl_GrantServerModel, by decide, (TBm 698 (by decide +kernel) rfl), rfl, rfl, rfl⟩
set_option maxRecDepth 20000 in
theorem fF_GrantServerModel_16 : hm_flF vwCl TB R_GrantServerModel 16 8 7 (.array .int) := ⟨_, _, _, _, cl_GrantServerModel, by decide, (TBm 699 (by decide +kernel) rfl), rfl, rfl, rfl⟩
set_option maxRecDepth 20000 in
theorem fF_GrantServerModel_23 : hm_flF vwCl TB R_GrantServerModel 23 8 10 (.array .int) := ⟨_, _, _, _, cl_GrantServerModel, by decide, (TBm 702 (by decide +kernel) rfl), rfl, rfl, rfl⟩
set_option maxRecDepth 20000 in
theorem fF_GrantServerModel_26 : hm_flF vwCl TB R_GrantServerModel 26 8 11 (.array .int) := ⟨_, _, _, _, cl_GrantServerModel, by decide, (TBm 703 (by decide +kernel) rfl), rfl, rfl, rfl⟩
set_option maxRecDepth 20000 in
theorem fF_GrantServerModel_29 : hm_flF vwCl TB R_GrantServerModel 29 8 12 (.array .int) := ⟨_, _, _, _, cl_GrantServerModel, by decide, (TBm 704 (by decide +kernel) rfl), rfl, rfl, rfl⟩
set_option maxRecDepth 20000 in
theorem fF_GrantServerModel_32 : hm_flF vwCl TB R_GrantServerModel 32 8 13 (.array .int) := ⟨_, _, _, _, cl_GrantServerModel, by decide, (TBm 705 (by decide +kernel) rfl), rfl, rfl, rfl⟩
set_option maxRecDepth 20000 in
theorem fF_GrantServerModel_35 : hm_flF vwCl TB R_GrantServerModel 35 8 14 (.array .boolean) := ⟨_, _, _, _, cl_GrantServerModel, by decide, (TBm 706 (by decide +kernel) rfl), rfl, rfl, rfl⟩
set_option maxRecDepth 20000 in
theorem fF_GrantServerModel_39 : hm_flF vwCl TB R_GrantServerModel 39 8 15 (.array .int) := ⟨_, _, _, _, cl_GrantServerModel, by decide, (TBm 707 (by decide +kernel) rfl), rfl, rfl, rfl⟩
set_option maxRecDepth 20000 in
theorem fF_GrantServerModel_42 : hm_flF vwCl TB R_GrantServerModel 42 8 16 (.array .int) := ⟨_, _, _, _, cl_GrantServerModel, by decide, (TBm 708 (by decide +kernel) rfl), rfl, rfl, rfl⟩
set_option maxRecDepth 20000 in
theorem fF_GrantServerModel_45 : hm_flF vwCl TB R_GrantServerModel 45 8 17 (.array .int) := ⟨_, _, _, _, cl_GrantServerModel, by decide, (TBm 709 (by decide +kernel) rfl), rfl, rfl, rfl⟩
set_option maxRecDepth 20000 in
theorem fF_GrantServerModel_48 : hm_flF vwCl TB R_GrantServerModel 48 8 19 (.array .int) := ⟨_, _, _, _, cl_GrantServerModel, by decide, (TBm 711 (by decide +kernel) rfl), rfl, rfl, rfl⟩
set_option maxRecDepth 20000 in
theorem fF_GrantServerModel_51 : hm_flF vwCl TB R_GrantServerModel 51 8 20 (.array .int) := ⟨_, _, _, _, cl_GrantServerModel, by decide, (TBm 712 (by decide +kernel) rfl), rfl, rfl, rfl⟩
set_option maxRecDepth 20000 in
theorem fF_GrantServerModel_54 : hm_flF vwCl TB R_GrantServerModel 54 8 21 (.array .boolean) := ⟨_, _, _, _, cl_GrantServerModel, by decide, (TBm 713 (by decide +kernel) rfl), rfl, rfl, rfl⟩
set_option maxRecDepth 20000 in
theorem fF_GrantServerModel_57 : hm_flF vwCl TB R_GrantServerModel 57 8 23 (.array .int) := ⟨_, _, _, _, cl_GrantServerModel, by decide, (TBm 715 (by decide +kernel) rfl), rfl, rfl, rfl⟩
set_option maxRecDepth 20000 in
theorem fF_GrantServerModel_60 : hm_flF vwCl TB R_GrantServerModel 60 8 25 (.array .int) := ⟨_, _, _, _, cl_GrantServerModel, by decide, (TBm 717 (by decide +kernel) rfl), rfl, rfl, rfl⟩
set_option maxRecDepth 20000 in
theorem fF_GrantServerModel_63 : hm_flF vwCl TB R_GrantServerModel 63 8 27 (.array .int) := ⟨_, _, _, _, cl_GrantServerModel, by decide, (TBm 719 (by decide +kernel) rfl), rfl, rfl, rfl⟩
set_option maxRecDepth 20000 in
theorem fF_GrantServerModel_66 : hm_flF vwCl TB R_GrantServerModel 66 8 30 (.array .int) := ⟨_, _, _, _, cl_GrantServerModel, by decide, (TBm 722 (by decide +kernel) rfl), rfl, rfl, rfl⟩
set_option maxRecDepth 20000 in
theorem fF_GrantServerModel_69 : hm_flF vwCl TB R_GrantServerModel 69 8 0 .long := ⟨_, _, _, _, cl_GrantServerModel, by decide, (TBm 692 (by decide +kernel) rfl), rfl, rfl, rfl⟩
set_option maxRecDepth 20000 in
theorem fF_GrantServerModel_7 : hm_flF vwCl TB R_GrantServerModel 7 8 5 (.array .int) := ⟨_, _, _, _, cl_GrantServerModel, by decide, (TBm 697 (by decide +kernel) rfl), rfl, rfl, rfl⟩
set_option maxRecDepth 20000 in
theorem fF_GrantServerModel_77 : hm_flF vwCl TB R_GrantServerModel 77 8 1 .int := ⟨_, _, _, _, cl_GrantServerModel, by decide, (TBm 693 (by decide +kernel) rfl), rfl, rfl, rfl⟩
set_option maxRecDepth 20000 in
theorem fF_GrantServerModel_80 : hm_flF vwCl TB R_GrantServerModel 80 8 2 .int := ⟨_, _, _, _, cl_GrantServerModel, by decide, (TBm 694 (by decide +kernel) rfl), rfl, rfl, rfl⟩
set_option maxRecDepth 20000 in
theorem fF_GrantServerModel_83 : hm_flF vwCl TB R_GrantServerModel 83 8 3 .int := ⟨_, _, _, _, cl_GrantServerModel, by decide, (TBm 695 (by decide +kernel) rfl), rfl, rfl, rfl⟩
set_option maxRecDepth 20000 in
theorem fl_GrantServerModel_19 : hm_fl vwCl TB R_GrantServerModel 19 8 9 false .int := ⟨_, _, _, _, cl_GrantServerModel, by decide, (TBm 701 (by decide +kernel) rfl), rfl, rfl⟩
set_option maxRecDepth 20000 in
theorem me_GrantServerModel_within : hm_meS y_GrantServerModel_within b_GrantServerModel_within 1 (some .int) 1 := ⟨⟨(TBm 691 rfl rfl), (TBm 47 (by decide +kernel) rfl), by decide +kernel⟩, (TBm 690 (by decide +kernel) rfl)⟩
set_option maxRecDepth 20000 in
theorem wl_GrantServerModel_1 : Cond.methodLink R_GrantServerModel 1 objectInit ∈ TB := TBm 688 (by decide +kernel) rfl
set_option maxRecDepth 20000 in
theorem wl_GrantServerModel_73 : Cond.methodLink R_GrantServerModel 73 y_GrantServerModel_within ∈ TB := TBm 689 (by decide +kernel) rfl
set_option maxHeartbeats 4000000 in
set_option maxRecDepth 100000 in
theorem m_c_init (l : Launch) (D : va_G) (k : Nat → ClassId) (f : hm) (h : Nat) (a : Int32) (b : Int32) (d : Int32) (g : Int32) (hh : f h = some (.inr (8, [.long 0, .int 0, .int 0, .int 0, .int 0, .null, .null, .null, .int 0, .int 0, .null, .null, .null, .null, .null, .null, .null, .null, .int 0, .null, .null, .null, .int 0, .null, .int 0, .null, .int 0, .null, .int 0, .int 0, .null]))) : hm_Mv l D vwCl (tyL k) y_GrantServerModel_init (Cond.code y_GrantServerModel_init b_GrantServerModel_init 5 none :: TB) ({ frames := 1, cells := 18, slots := 2363, locals := 20 }) [.ref h, .int a, .int b, .int d, .int g] f (fun (f1 : hm) => ∃ (ad : Nat → Nat), mo k f1 h ad a.toInt64 (mo_v0 b d g) (fun _ _ => 0) ∧ (∀ i, i < 31 → 0 < mo_n i → f (ad i) = none) ∧ ∀ (q : Nat) (x : va_E), q ≠ h → f q = some x → f1 q = some x) 18 2363 := by
  refine hm_enter (Qc := fun sz => va_Qv _ (hm_R D vwCl (tyL k) f sz) (hm_A f sz)) (by decide) rfl (Nat.le_of_ble_eq_true rfl) ?_
  intro p e s m below meth cd ls X0 hr hlk hin hK hM hS hA hl Q hQ
  have X : CallFix p m cd b_GrantServerModel_init 5 s ([.ref h, .int a, .int b, .int d, .int g] : List Value).toArray TB R_GrantServerModel := ⟨X0.1, X0.2.1, X0.2.2.1, X0.2.2.2.1, fun w h => X0.2.2.2.2 w (List.mem_cons_of_mem _ h)⟩
  have hx := X.1; have hb := X.2.1; have hml := X.2.2.1; have hown := X.2.2.2.1; have hts := X.2.2.2.2
  have hnd : ([] : List Nat).Nodup := List.nodup_nil
  have hpr : ∀ q ∈ ([] : List Nat), f q ≠ none := fun q h => by cases h
  have hl : lv_has ls 5 [(0, .ref h), (1, .int a), (2, .int b), (3, .int d), (4, .int g)] := hl
  refine lv_aload_n hx hb d_GrantServerModel_init_0 rfl (lv_at hl 0 rfl) ?_
  refine W.objInit hx hb hown (hts _ wl_GrantServerModel_1) (hts _ wi_JObject_init) (hts _ wd_JObject_init) rfl (by rw [hml]; exact hl.1) rfl d_GrantServerModel_init_1 (Nat.le_of_ble_eq_true rfl) (Nat.le_of_ble_eq_true rfl) ?_
  refine W.eq (g2 := F0 m 4 ls []) rfl ?_
  refine lv_aload_n hx hb d_GrantServerModel_init_4 rfl (lv_at hl 0 rfl) ?_
  refine lv_iconst (v := 4) hx hb d_GrantServerModel_init_5 (by decide) ?_
  refine hm_newa (atype := .int) (ty := .int) X hK hM hS hA rfl wa_0 0 rfl (N' := 4) (a0 := (4, .inl (fun _ => 0))) (fun _ => rfl) (by decide) (by decide) (by decide) (by decide) (by decide) d_GrantServerModel_init_6 (fun q1 f2 H e3 z4 hM hS => ?_)
  have hnd := hm_nd_new hnd hpr z4; have hpr := hm_pr_new hpr e3
  have g5 : f2 q1 = some (.inl (k 0, 4, .inl (fun _ => 0))) := hm_new1 e3
  have g6 : f2 h = some (.inr (8, [.long 0, .int 0, .int 0, .int 0, .int 0, .null, .null, .null, .int 0, .int 0, .null, .null, .null, .null, .null, .null, .null, .null, .int 0, .null, .null, .null, .int 0, .null, .int 0, .null, .int 0, .null, .int 0, .int 0, .null])) := by rw [e3, hm_up_n (hm_ne0 hh z4)]; exact hh
  refine hm_putF X hK hM hS (fs' := [.long 0, .int 0, .int 0, .int 0, .int 0, .ref q1, .null, .null, .int 0, .int 0, .null, .null, .null, .null, .null, .null, .null, .null, .int 0, .null, .null, .null, .int 0, .null, .int 0, .null, .int 0, .null, .int 0, .int 0, .null]) g6 fF_GrantServerModel_7 hin rfl rfl (Nat.le_of_ble_eq_true rfl) rfl d_GrantServerModel_init_8 (fun f7 H locs e8 hM hS => ?_)
  have hpr := hm_pr_up hpr e8
  refine lv_aload_n hx hb d_GrantServerModel_init_11 rfl (lv_at hl 0 rfl) ?_
  refine lv_iconst (v := 4) hx hb d_GrantServerModel_init_12 (by decide) ?_
  have g13 : f7 h = some (.inr (8, [.long 0, .int 0, .int 0, .int 0, .int 0, .ref q1, .null, .null, .int 0, .int 0, .null, .null, .null, .null, .null, .null, .null, .null, .int 0, .null, .null, .null, .int 0, .null, .int 0, .null, .int 0, .null, .int 0, .int 0, .null])) := by rw [e8, hm_up_s]
  have g14 : f7 q1 = some (.inl (k 0, 4, .inl (fun _ => 0))) := by rw [e8, hm_up_n ((hm_ne0 hh z4).symm)]; exact g5
  refine hm_newa (atype := .int) (ty := .int) X hK hM hS hA rfl wa_0 0 rfl (N' := 4) (a0 := (4, .inl (fun _ => 0))) (fun _ => rfl) (by decide) (by decide) (by decide) (by decide) (by decide) d_GrantServerModel_init_13 (fun q9 f10 H e11 z12 hM hS => ?_)
  have hnd := hm_nd_new hnd hpr z12; have hpr := hm_pr_new hpr e11
  have g15 : f10 q9 = some (.inl (k 0, 4, .inl (fun _ => 0))) := hm_new1 e11
  have g16 : f10 h = some (.inr (8, [.long 0, .int 0, .int 0, .int 0, .int 0, .ref q1, .null, .null, .int 0, .int 0, .null, .null, .null, .null, .null, .null, .null, .null, .int 0, .null, .null, .null, .int 0, .null, .int 0, .null, .int 0, .null, .int 0, .int 0, .null])) := by rw [e11, hm_up_n (hm_ne0 g13 z12)]; exact g13
  refine hm_putF X hK hM hS (fs' := [.long 0, .int 0, .int 0, .int 0, .int 0, .ref q1, .ref q9, .null, .int 0, .int 0, .null, .null, .null, .null, .null, .null, .null, .null, .int 0, .null, .null, .null, .int 0, .null, .int 0, .null, .int 0, .null, .int 0, .int 0, .null]) g16 fF_GrantServerModel_13 hin rfl rfl (Nat.le_of_ble_eq_true rfl) rfl d_GrantServerModel_init_15 (fun f17 H locs e18 hM hS => ?_)
  have hpr := hm_pr_up hpr e18
  refine lv_aload_n hx hb d_GrantServerModel_init_18 rfl (lv_at hl 0 rfl) ?_
  refine lv_iconst (v := 4) hx hb d_GrantServerModel_init_19 (by decide) ?_
  have g23 : f17 h = some (.inr (8, [.long 0, .int 0, .int 0, .int 0, .int 0, .ref q1, .ref q9, .null, .int 0, .int 0, .null, .null, .null, .null, .null, .null, .null, .null, .int 0, .null, .null, .null, .int 0, .null, .int 0, .null, .int 0, .null, .int 0, .int 0, .null])) := by rw [e18, hm_up_s]
  have g24 : f10 q1 = some (.inl (k 0, 4, .inl (fun _ => 0))) := by rw [e11, hm_up_n (hm_ne0 g14 z12)]; exact g14
  have g25 : f17 q1 = some (.inl (k 0, 4, .inl (fun _ => 0))) := by rw [e18, hm_up_n ((hm_ne0 hh z4).symm)]; exact g24
  have g26 : f17 q9 = some (.inl (k 0, 4, .inl (fun _ => 0))) := by rw [e18, hm_up_n ((hm_ne0 g13 z12).symm)]; exact g15
  refine hm_newa (atype := .int) (ty := .int) X hK hM hS hA rfl wa_0 0 rfl (N' := 4) (a0 := (4, .inl (fun _ => 0))) (fun _ => rfl) (by decide) (by decide) (by decide) (by decide) (by decide) d_GrantServerModel_init_20 (fun q19 f20 H e21 z22 hM hS => ?_)
  have hnd := hm_nd_new hnd hpr z22; have hpr := hm_pr_new hpr e21
  have g27 : f20 q19 = some (.inl (k 0, 4, .inl (fun _ => 0))) := hm_new1 e21
  have g28 : f20 h = some (.inr (8, [.long 0, .int 0, .int 0, .int 0, .int 0, .ref q1, .ref q9, .null, .int 0, .int 0, .null, .null, .null, .null, .null, .null, .null, .null, .int 0, .null, .null, .null, .int 0, .null, .int 0, .null, .int 0, .null, .int 0, .int 0, .null])) := by rw [e21, hm_up_n (hm_ne0 g23 z22)]; exact g23
  refine hm_putF X hK hM hS (fs' := [.long 0, .int 0, .int 0, .int 0, .int 0, .ref q1, .ref q9, .ref q19, .int 0, .int 0, .null, .null, .null, .null, .null, .null, .null, .null, .int 0, .null, .null, .null, .int 0, .null, .int 0, .null, .int 0, .null, .int 0, .int 0, .null]) g28 fF_GrantServerModel_16 hin rfl rfl (Nat.le_of_ble_eq_true rfl) rfl d_GrantServerModel_init_22 (fun f29 H locs e30 hM hS => ?_)
  have hpr := hm_pr_up hpr e30
  refine lv_aload_n hx hb d_GrantServerModel_init_25 rfl (lv_at hl 0 rfl) ?_
  refine lv_iconst (v := (-1)) hx hb d_GrantServerModel_init_26 (by decide) ?_
  have g31 : f29 h = some (.inr (8, [.long 0, .int 0, .int 0, .int 0, .int 0, .ref q1, .ref q9, .ref q19, .int 0, .int 0, .null, .null, .null, .null, .null, .null, .null, .null, .int 0, .null, .null, .null, .int 0, .null, .int 0, .null, .int 0, .null, .int 0, .int 0, .null])) := by rw [e30, hm_up_s]
  refine hm_put X hK hM hS (fs' := [.long 0, .int 0, .int 0, .int 0, .int 0, .ref q1, .ref q9, .ref q19, .int 0, .int (-1), .null, .null, .null, .null, .null, .null, .null, .null, .int 0, .null, .null, .null, .int 0, .null, .int 0, .null, .int 0, .null, .int 0, .int 0, .null]) g31 fl_GrantServerModel_19 rfl rfl (Nat.le_of_ble_eq_true rfl) rfl d_GrantServerModel_init_27 (fun f32 H locs e33 hM hS => ?_)
  have hpr := hm_pr_up hpr e33
  refine lv_aload_n hx hb d_GrantServerModel_init_30 rfl (lv_at hl 0 rfl) ?_
  refine lv_bipush (v := 64) hx hb d_GrantServerModel_init_31 (by decide) ?_
  have g38 : f32 h = some (.inr (8, [.long 0, .int 0, .int 0, .int 0, .int 0, .ref q1, .ref q9, .ref q19, .int 0, .int (-1), .null, .null, .null, .null, .null, .null, .null, .null, .int 0, .null, .null, .null, .int 0, .null, .int 0, .null, .int 0, .null, .int 0, .int 0, .null])) := by rw [e33, hm_up_s]
  have g39 : f20 q1 = some (.inl (k 0, 4, .inl (fun _ => 0))) := by rw [e21, hm_up_n (hm_ne0 g25 z22)]; exact g25
  have g40 : f29 q1 = some (.inl (k 0, 4, .inl (fun _ => 0))) := by rw [e30, hm_up_n ((hm_ne0 hh z4).symm)]; exact g39
  have g41 : f32 q1 = some (.inl (k 0, 4, .inl (fun _ => 0))) := by rw [e33, hm_up_n ((hm_ne0 hh z4).symm)]; exact g40
  have g42 : f20 q9 = some (.inl (k 0, 4, .inl (fun _ => 0))) := by rw [e21, hm_up_n (hm_ne0 g26 z22)]; exact g26
  have g43 : f29 q9 = some (.inl (k 0, 4, .inl (fun _ => 0))) := by rw [e30, hm_up_n ((hm_ne0 g13 z12).symm)]; exact g42
  have g44 : f32 q9 = some (.inl (k 0, 4, .inl (fun _ => 0))) := by rw [e33, hm_up_n ((hm_ne0 g13 z12).symm)]; exact g43
  have g45 : f29 q19 = some (.inl (k 0, 4, .inl (fun _ => 0))) := by rw [e30, hm_up_n ((hm_ne0 g23 z22).symm)]; exact g27
  have g46 : f32 q19 = some (.inl (k 0, 4, .inl (fun _ => 0))) := by rw [e33, hm_up_n ((hm_ne0 g23 z22).symm)]; exact g45
  refine hm_newa (atype := .int) (ty := .int) X hK hM hS hA rfl wa_0 0 rfl (N' := 64) (a0 := (64, .inl (fun _ => 0))) (fun _ => rfl) (by decide) (by decide) (by decide) (by decide) (by decide) d_GrantServerModel_init_33 (fun q34 f35 H e36 z37 hM hS => ?_)
  have hnd := hm_nd_new hnd hpr z37; have hpr := hm_pr_new hpr e36
  have g47 : f35 q34 = some (.inl (k 0, 64, .inl (fun _ => 0))) := hm_new1 e36
  have g48 : f35 h = some (.inr (8, [.long 0, .int 0, .int 0, .int 0, .int 0, .ref q1, .ref q9, .ref q19, .int 0, .int (-1), .null, .null, .null, .null, .null, .null, .null, .null, .int 0, .null, .null, .null, .int 0, .null, .int 0, .null, .int 0, .null, .int 0, .int 0, .null])) := by rw [e36, hm_up_n (hm_ne0 g38 z37)]; exact g38
  refine hm_putF X hK hM hS (fs' := [.long 0, .int 0, .int 0, .int 0, .int 0, .ref q1, .ref q9, .ref q19, .int 0, .int (-1), .ref q34, .null, .null, .null, .null, .null, .null, .null, .int 0, .null, .null, .null, .int 0, .null, .int 0, .null, .int 0, .null, .int 0, .int 0, .null]) g48 fF_GrantServerModel_23 hin rfl rfl (Nat.le_of_ble_eq_true rfl) rfl d_GrantServerModel_init_35 (fun f49 H locs e50 hM hS => ?_)
  have hpr := hm_pr_up hpr e50
  refine lv_aload_n hx hb d_GrantServerModel_init_38 rfl (lv_at hl 0 rfl) ?_
  refine lv_bipush (v := 64) hx hb d_GrantServerModel_init_39 (by decide) ?_
  have g55 : f49 h = some (.inr (8, [.long 0, .int 0, .int 0, .int 0, .int 0, .ref q1, .ref q9, .ref q19, .int 0, .int (-1), .ref q34, .null, .null, .null, .null, .null, .null, .null, .int 0, .null, .null, .null, .int 0, .null, .int 0, .null, .int 0, .null, .int 0, .int 0, .null])) := by rw [e50, hm_up_s]
  have g56 : f35 q1 = some (.inl (k 0, 4, .inl (fun _ => 0))) := by rw [e36, hm_up_n (hm_ne0 g41 z37)]; exact g41
  have g57 : f49 q1 = some (.inl (k 0, 4, .inl (fun _ => 0))) := by rw [e50, hm_up_n ((hm_ne0 hh z4).symm)]; exact g56
  have g58 : f35 q9 = some (.inl (k 0, 4, .inl (fun _ => 0))) := by rw [e36, hm_up_n (hm_ne0 g44 z37)]; exact g44
  have g59 : f49 q9 = some (.inl (k 0, 4, .inl (fun _ => 0))) := by rw [e50, hm_up_n ((hm_ne0 g13 z12).symm)]; exact g58
  have g60 : f35 q19 = some (.inl (k 0, 4, .inl (fun _ => 0))) := by rw [e36, hm_up_n (hm_ne0 g46 z37)]; exact g46
  have g61 : f49 q19 = some (.inl (k 0, 4, .inl (fun _ => 0))) := by rw [e50, hm_up_n ((hm_ne0 g23 z22).symm)]; exact g60
  have g62 : f49 q34 = some (.inl (k 0, 64, .inl (fun _ => 0))) := by rw [e50, hm_up_n ((hm_ne0 g38 z37).symm)]; exact g47
  refine hm_newa (atype := .int) (ty := .int) X hK hM hS hA rfl wa_0 0 rfl (N' := 64) (a0 := (64, .inl (fun _ => 0))) (fun _ => rfl) (by decide) (by decide) (by decide) (by decide) (by decide) d_GrantServerModel_init_41 (fun q51 f52 H e53 z54 hM hS => ?_)
  have hnd := hm_nd_new hnd hpr z54; have hpr := hm_pr_new hpr e53
  have g63 : f52 q51 = some (.inl (k 0, 64, .inl (fun _ => 0))) := hm_new1 e53
  have g64 : f52 h = some (.inr (8, [.long 0, .int 0, .int 0, .int 0, .int 0, .ref q1, .ref q9, .ref q19, .int 0, .int (-1), .ref q34, .null, .null, .null, .null, .null, .null, .null, .int 0, .null, .null, .null, .int 0, .null, .int 0, .null, .int 0, .null, .int 0, .int 0, .null])) := by rw [e53, hm_up_n (hm_ne0 g55 z54)]; exact g55
  refine hm_putF X hK hM hS (fs' := [.long 0, .int 0, .int 0, .int 0, .int 0, .ref q1, .ref q9, .ref q19, .int 0, .int (-1), .ref q34, .ref q51, .null, .null, .null, .null, .null, .null, .int 0, .null, .null, .null, .int 0, .null, .int 0, .null, .int 0, .null, .int 0, .int 0, .null]) g64 fF_GrantServerModel_26 hin rfl rfl (Nat.le_of_ble_eq_true rfl) rfl d_GrantServerModel_init_43 (fun f65 H locs e66 hM hS => ?_)
  have hpr := hm_pr_up hpr e66
  refine lv_aload_n hx hb d_GrantServerModel_init_46 rfl (lv_at hl 0 rfl) ?_
  refine lv_bipush (v := 64) hx hb d_GrantServerModel_init_47 (by decide) ?_
  have g71 : f65 h = some (.inr (8, [.long 0, .int 0, .int 0, .int 0, .int 0, .ref q1, .ref q9, .ref q19, .int 0, .int (-1), .ref q34, .ref q51, .null, .null, .null, .null, .null, .null, .int 0, .null, .null, .null, .int 0, .null, .int 0, .null, .int 0, .null, .int 0, .int 0, .null])) := by rw [e66, hm_up_s]
  have g72 : f52 q1 = some (.inl (k 0, 4, .inl (fun _ => 0))) := by rw [e53, hm_up_n (hm_ne0 g57 z54)]; exact g57
  have g73 : f65 q1 = some (.inl (k 0, 4, .inl (fun _ => 0))) := by rw [e66, hm_up_n ((hm_ne0 hh z4).symm)]; exact g72
  have g74 : f52 q9 = some (.inl (k 0, 4, .inl (fun _ => 0))) := by rw [e53, hm_up_n (hm_ne0 g59 z54)]; exact g59
  have g75 : f65 q9 = some (.inl (k 0, 4, .inl (fun _ => 0))) := by rw [e66, hm_up_n ((hm_ne0 g13 z12).symm)]; exact g74
  have g76 : f52 q19 = some (.inl (k 0, 4, .inl (fun _ => 0))) := by rw [e53, hm_up_n (hm_ne0 g61 z54)]; exact g61
  have g77 : f65 q19 = some (.inl (k 0, 4, .inl (fun _ => 0))) := by rw [e66, hm_up_n ((hm_ne0 g23 z22).symm)]; exact g76
  have g78 : f52 q34 = some (.inl (k 0, 64, .inl (fun _ => 0))) := by rw [e53, hm_up_n (hm_ne0 g62 z54)]; exact g62
  have g79 : f65 q34 = some (.inl (k 0, 64, .inl (fun _ => 0))) := by rw [e66, hm_up_n ((hm_ne0 g38 z37).symm)]; exact g78
  have g80 : f65 q51 = some (.inl (k 0, 64, .inl (fun _ => 0))) := by rw [e66, hm_up_n ((hm_ne0 g55 z54).symm)]; exact g63
  refine hm_newa (atype := .int) (ty := .int) X hK hM hS hA rfl wa_0 0 rfl (N' := 64) (a0 := (64, .inl (fun _ => 0))) (fun _ => rfl) (by decide) (by decide) (by decide) (by decide) (by decide) d_GrantServerModel_init_49 (fun q67 f68 H e69 z70 hM hS => ?_)
  have hnd := hm_nd_new hnd hpr z70; have hpr := hm_pr_new hpr e69
  have g81 : f68 q67 = some (.inl (k 0, 64, .inl (fun _ => 0))) := hm_new1 e69
  have g82 : f68 h = some (.inr (8, [.long 0, .int 0, .int 0, .int 0, .int 0, .ref q1, .ref q9, .ref q19, .int 0, .int (-1), .ref q34, .ref q51, .null, .null, .null, .null, .null, .null, .int 0, .null, .null, .null, .int 0, .null, .int 0, .null, .int 0, .null, .int 0, .int 0, .null])) := by rw [e69, hm_up_n (hm_ne0 g71 z70)]; exact g71
  refine hm_putF X hK hM hS (fs' := [.long 0, .int 0, .int 0, .int 0, .int 0, .ref q1, .ref q9, .ref q19, .int 0, .int (-1), .ref q34, .ref q51, .ref q67, .null, .null, .null, .null, .null, .int 0, .null, .null, .null, .int 0, .null, .int 0, .null, .int 0, .null, .int 0, .int 0, .null]) g82 fF_GrantServerModel_29 hin rfl rfl (Nat.le_of_ble_eq_true rfl) rfl d_GrantServerModel_init_51 (fun f83 H locs e84 hM hS => ?_)
  have hpr := hm_pr_up hpr e84
  refine lv_aload_n hx hb d_GrantServerModel_init_54 rfl (lv_at hl 0 rfl) ?_
  refine lv_bipush (v := 64) hx hb d_GrantServerModel_init_55 (by decide) ?_
  have g89 : f83 h = some (.inr (8, [.long 0, .int 0, .int 0, .int 0, .int 0, .ref q1, .ref q9, .ref q19, .int 0, .int (-1), .ref q34, .ref q51, .ref q67, .null, .null, .null, .null, .null, .int 0, .null, .null, .null, .int 0, .null, .int 0, .null, .int 0, .null, .int 0, .int 0, .null])) := by rw [e84, hm_up_s]
  have g90 : f68 q1 = some (.inl (k 0, 4, .inl (fun _ => 0))) := by rw [e69, hm_up_n (hm_ne0 g73 z70)]; exact g73
  have g91 : f83 q1 = some (.inl (k 0, 4, .inl (fun _ => 0))) := by rw [e84, hm_up_n ((hm_ne0 hh z4).symm)]; exact g90
  have g92 : f68 q9 = some (.inl (k 0, 4, .inl (fun _ => 0))) := by rw [e69, hm_up_n (hm_ne0 g75 z70)]; exact g75
  have g93 : f83 q9 = some (.inl (k 0, 4, .inl (fun _ => 0))) := by rw [e84, hm_up_n ((hm_ne0 g13 z12).symm)]; exact g92
  have g94 : f68 q19 = some (.inl (k 0, 4, .inl (fun _ => 0))) := by rw [e69, hm_up_n (hm_ne0 g77 z70)]; exact g77
  have g95 : f83 q19 = some (.inl (k 0, 4, .inl (fun _ => 0))) := by rw [e84, hm_up_n ((hm_ne0 g23 z22).symm)]; exact g94
  have g96 : f68 q34 = some (.inl (k 0, 64, .inl (fun _ => 0))) := by rw [e69, hm_up_n (hm_ne0 g79 z70)]; exact g79
  have g97 : f83 q34 = some (.inl (k 0, 64, .inl (fun _ => 0))) := by rw [e84, hm_up_n ((hm_ne0 g38 z37).symm)]; exact g96
  have g98 : f68 q51 = some (.inl (k 0, 64, .inl (fun _ => 0))) := by rw [e69, hm_up_n (hm_ne0 g80 z70)]; exact g80
  have g99 : f83 q51 = some (.inl (k 0, 64, .inl (fun _ => 0))) := by rw [e84, hm_up_n ((hm_ne0 g55 z54).symm)]; exact g98
  have g100 : f83 q67 = some (.inl (k 0, 64, .inl (fun _ => 0))) := by rw [e84, hm_up_n ((hm_ne0 g71 z70).symm)]; exact g81
  refine hm_newa (atype := .int) (ty := .int) X hK hM hS hA rfl wa_0 0 rfl (N' := 64) (a0 := (64, .inl (fun _ => 0))) (fun _ => rfl) (by decide) (by decide) (by decide) (by decide) (by decide) d_GrantServerModel_init_57 (fun q85 f86 H e87 z88 hM hS => ?_)
  have hnd := hm_nd_new hnd hpr z88; have hpr := hm_pr_new hpr e87
  have g101 : f86 q85 = some (.inl (k 0, 64, .inl (fun _ => 0))) := hm_new1 e87
  have g102 : f86 h = some (.inr (8, [.long 0, .int 0, .int 0, .int 0, .int 0, .ref q1, .ref q9, .ref q19, .int 0, .int (-1), .ref q34, .ref q51, .ref q67, .null, .null, .null, .null, .null, .int 0, .null, .null, .null, .int 0, .null, .int 0, .null, .int 0, .null, .int 0, .int 0, .null])) := by rw [e87, hm_up_n (hm_ne0 g89 z88)]; exact g89
  refine hm_putF X hK hM hS (fs' := [.long 0, .int 0, .int 0, .int 0, .int 0, .ref q1, .ref q9, .ref q19, .int 0, .int (-1), .ref q34, .ref q51, .ref q67, .ref q85, .null, .null, .null, .null, .int 0, .null, .null, .null, .int 0, .null, .int 0, .null, .int 0, .null, .int 0, .int 0, .null]) g102 fF_GrantServerModel_32 hin rfl rfl (Nat.le_of_ble_eq_true rfl) rfl d_GrantServerModel_init_59 (fun f103 H locs e104 hM hS => ?_)
  have hpr := hm_pr_up hpr e104
  refine lv_aload_n hx hb d_GrantServerModel_init_62 rfl (lv_at hl 0 rfl) ?_
  refine lv_bipush (v := 64) hx hb d_GrantServerModel_init_63 (by decide) ?_
  have g109 : f103 h = some (.inr (8, [.long 0, .int 0, .int 0, .int 0, .int 0, .ref q1, .ref q9, .ref q19, .int 0, .int (-1), .ref q34, .ref q51, .ref q67, .ref q85, .null, .null, .null, .null, .int 0, .null, .null, .null, .int 0, .null, .int 0, .null, .int 0, .null, .int 0, .int 0, .null])) := by rw [e104, hm_up_s]
  have g110 : f86 q1 = some (.inl (k 0, 4, .inl (fun _ => 0))) := by rw [e87, hm_up_n (hm_ne0 g91 z88)]; exact g91
  have g111 : f103 q1 = some (.inl (k 0, 4, .inl (fun _ => 0))) := by rw [e104, hm_up_n ((hm_ne0 hh z4).symm)]; exact g110
  have g112 : f86 q9 = some (.inl (k 0, 4, .inl (fun _ => 0))) := by rw [e87, hm_up_n (hm_ne0 g93 z88)]; exact g93
  have g113 : f103 q9 = some (.inl (k 0, 4, .inl (fun _ => 0))) := by rw [e104, hm_up_n ((hm_ne0 g13 z12).symm)]; exact g112
  have g114 : f86 q19 = some (.inl (k 0, 4, .inl (fun _ => 0))) := by rw [e87, hm_up_n (hm_ne0 g95 z88)]; exact g95
  have g115 : f103 q19 = some (.inl (k 0, 4, .inl (fun _ => 0))) := by rw [e104, hm_up_n ((hm_ne0 g23 z22).symm)]; exact g114
  have g116 : f86 q34 = some (.inl (k 0, 64, .inl (fun _ => 0))) := by rw [e87, hm_up_n (hm_ne0 g97 z88)]; exact g97
  have g117 : f103 q34 = some (.inl (k 0, 64, .inl (fun _ => 0))) := by rw [e104, hm_up_n ((hm_ne0 g38 z37).symm)]; exact g116
  have g118 : f86 q51 = some (.inl (k 0, 64, .inl (fun _ => 0))) := by rw [e87, hm_up_n (hm_ne0 g99 z88)]; exact g99
  have g119 : f103 q51 = some (.inl (k 0, 64, .inl (fun _ => 0))) := by rw [e104, hm_up_n ((hm_ne0 g55 z54).symm)]; exact g118
  have g120 : f86 q67 = some (.inl (k 0, 64, .inl (fun _ => 0))) := by rw [e87, hm_up_n (hm_ne0 g100 z88)]; exact g100
  have g121 : f103 q67 = some (.inl (k 0, 64, .inl (fun _ => 0))) := by rw [e104, hm_up_n ((hm_ne0 g71 z70).symm)]; exact g120
  have g122 : f103 q85 = some (.inl (k 0, 64, .inl (fun _ => 0))) := by rw [e104, hm_up_n ((hm_ne0 g89 z88).symm)]; exact g101
  refine hm_newa (atype := .boolean) (ty := .boolean) X hK hM hS hA rfl wa_1 1 rfl (N' := 64) (a0 := (64, .inl (fun _ => 0))) (fun _ => rfl) (by decide) (by decide) (by decide) (by decide) (by decide) d_GrantServerModel_init_65 (fun q105 f106 H e107 z108 hM hS => ?_)
  have hnd := hm_nd_new hnd hpr z108; have hpr := hm_pr_new hpr e107
  have g123 : f106 q105 = some (.inl (k 1, 64, .inl (fun _ => 0))) := hm_new1 e107
  have g124 : f106 h = some (.inr (8, [.long 0, .int 0, .int 0, .int 0, .int 0, .ref q1, .ref q9, .ref q19, .int 0, .int (-1), .ref q34, .ref q51, .ref q67, .ref q85, .null, .null, .null, .null, .int 0, .null, .null, .null, .int 0, .null, .int 0, .null, .int 0, .null, .int 0, .int 0, .null])) := by rw [e107, hm_up_n (hm_ne0 g109 z108)]; exact g109
  refine hm_putF X hK hM hS (fs' := [.long 0, .int 0, .int 0, .int 0, .int 0, .ref q1, .ref q9, .ref q19, .int 0, .int (-1), .ref q34, .ref q51, .ref q67, .ref q85, .ref q105, .null, .null, .null, .int 0, .null, .null, .null, .int 0, .null, .int 0, .null, .int 0, .null, .int 0, .int 0, .null]) g124 fF_GrantServerModel_35 hin rfl rfl (Nat.le_of_ble_eq_true rfl) rfl d_GrantServerModel_init_67 (fun f125 H locs e126 hM hS => ?_)
  have hpr := hm_pr_up hpr e126
  refine lv_aload_n hx hb d_GrantServerModel_init_70 rfl (lv_at hl 0 rfl) ?_
  refine lv_bipush (v := 64) hx hb d_GrantServerModel_init_71 (by decide) ?_
  have g131 : f125 h = some (.inr (8, [.long 0, .int 0, .int 0, .int 0, .int 0, .ref q1, .ref q9, .ref q19, .int 0, .int (-1), .ref q34, .ref q51, .ref q67, .ref q85, .ref q105, .null, .null, .null, .int 0, .null, .null, .null, .int 0, .null, .int 0, .null, .int 0, .null, .int 0, .int 0, .null])) := by rw [e126, hm_up_s]
  have g132 : f106 q1 = some (.inl (k 0, 4, .inl (fun _ => 0))) := by rw [e107, hm_up_n (hm_ne0 g111 z108)]; exact g111
  have g133 : f125 q1 = some (.inl (k 0, 4, .inl (fun _ => 0))) := by rw [e126, hm_up_n ((hm_ne0 hh z4).symm)]; exact g132
  have g134 : f106 q9 = some (.inl (k 0, 4, .inl (fun _ => 0))) := by rw [e107, hm_up_n (hm_ne0 g113 z108)]; exact g113
  have g135 : f125 q9 = some (.inl (k 0, 4, .inl (fun _ => 0))) := by rw [e126, hm_up_n ((hm_ne0 g13 z12).symm)]; exact g134
  have g136 : f106 q19 = some (.inl (k 0, 4, .inl (fun _ => 0))) := by rw [e107, hm_up_n (hm_ne0 g115 z108)]; exact g115
  have g137 : f125 q19 = some (.inl (k 0, 4, .inl (fun _ => 0))) := by rw [e126, hm_up_n ((hm_ne0 g23 z22).symm)]; exact g136
  have g138 : f106 q34 = some (.inl (k 0, 64, .inl (fun _ => 0))) := by rw [e107, hm_up_n (hm_ne0 g117 z108)]; exact g117
  have g139 : f125 q34 = some (.inl (k 0, 64, .inl (fun _ => 0))) := by rw [e126, hm_up_n ((hm_ne0 g38 z37).symm)]; exact g138
  have g140 : f106 q51 = some (.inl (k 0, 64, .inl (fun _ => 0))) := by rw [e107, hm_up_n (hm_ne0 g119 z108)]; exact g119
  have g141 : f125 q51 = some (.inl (k 0, 64, .inl (fun _ => 0))) := by rw [e126, hm_up_n ((hm_ne0 g55 z54).symm)]; exact g140
  have g142 : f106 q67 = some (.inl (k 0, 64, .inl (fun _ => 0))) := by rw [e107, hm_up_n (hm_ne0 g121 z108)]; exact g121
  have g143 : f125 q67 = some (.inl (k 0, 64, .inl (fun _ => 0))) := by rw [e126, hm_up_n ((hm_ne0 g71 z70).symm)]; exact g142
  have g144 : f106 q85 = some (.inl (k 0, 64, .inl (fun _ => 0))) := by rw [e107, hm_up_n (hm_ne0 g122 z108)]; exact g122
  have g145 : f125 q85 = some (.inl (k 0, 64, .inl (fun _ => 0))) := by rw [e126, hm_up_n ((hm_ne0 g89 z88).symm)]; exact g144
  have g146 : f125 q105 = some (.inl (k 1, 64, .inl (fun _ => 0))) := by rw [e126, hm_up_n ((hm_ne0 g109 z108).symm)]; exact g123
  refine hm_newa (atype := .int) (ty := .int) X hK hM hS hA rfl wa_0 0 rfl (N' := 64) (a0 := (64, .inl (fun _ => 0))) (fun _ => rfl) (by decide) (by decide) (by decide) (by decide) (by decide) d_GrantServerModel_init_73 (fun q127 f128 H e129 z130 hM hS => ?_)
  have hnd := hm_nd_new hnd hpr z130; have hpr := hm_pr_new hpr e129
  have g147 : f128 q127 = some (.inl (k 0, 64, .inl (fun _ => 0))) := hm_new1 e129
  have g148 : f128 h = some (.inr (8, [.long 0, .int 0, .int 0, .int 0, .int 0, .ref q1, .ref q9, .ref q19, .int 0, .int (-1), .ref q34, .ref q51, .ref q67, .ref q85, .ref q105, .null, .null, .null, .int 0, .null, .null, .null, .int 0, .null, .int 0, .null, .int 0, .null, .int 0, .int 0, .null])) := by rw [e129, hm_up_n (hm_ne0 g131 z130)]; exact g131
  refine hm_putF X hK hM hS (fs' := [.long 0, .int 0, .int 0, .int 0, .int 0, .ref q1, .ref q9, .ref q19, .int 0, .int (-1), .ref q34, .ref q51, .ref q67, .ref q85, .ref q105, .ref q127, .null, .null, .int 0, .null, .null, .null, .int 0, .null, .int 0, .null, .int 0, .null, .int 0, .int 0, .null]) g148 fF_GrantServerModel_39 hin rfl rfl (Nat.le_of_ble_eq_true rfl) rfl d_GrantServerModel_init_75 (fun f149 H locs e150 hM hS => ?_)
  have hpr := hm_pr_up hpr e150
  refine lv_aload_n hx hb d_GrantServerModel_init_78 rfl (lv_at hl 0 rfl) ?_
  refine lv_bipush (v := 16) hx hb d_GrantServerModel_init_79 (by decide) ?_
  have g155 : f149 h = some (.inr (8, [.long 0, .int 0, .int 0, .int 0, .int 0, .ref q1, .ref q9, .ref q19, .int 0, .int (-1), .ref q34, .ref q51, .ref q67, .ref q85, .ref q105, .ref q127, .null, .null, .int 0, .null, .null, .null, .int 0, .null, .int 0, .null, .int 0, .null, .int 0, .int 0, .null])) := by rw [e150, hm_up_s]
  have g156 : f128 q1 = some (.inl (k 0, 4, .inl (fun _ => 0))) := by rw [e129, hm_up_n (hm_ne0 g133 z130)]; exact g133
  have g157 : f149 q1 = some (.inl (k 0, 4, .inl (fun _ => 0))) := by rw [e150, hm_up_n ((hm_ne0 hh z4).symm)]; exact g156
  have g158 : f128 q9 = some (.inl (k 0, 4, .inl (fun _ => 0))) := by rw [e129, hm_up_n (hm_ne0 g135 z130)]; exact g135
  have g159 : f149 q9 = some (.inl (k 0, 4, .inl (fun _ => 0))) := by rw [e150, hm_up_n ((hm_ne0 g13 z12).symm)]; exact g158
  have g160 : f128 q19 = some (.inl (k 0, 4, .inl (fun _ => 0))) := by rw [e129, hm_up_n (hm_ne0 g137 z130)]; exact g137
  have g161 : f149 q19 = some (.inl (k 0, 4, .inl (fun _ => 0))) := by rw [e150, hm_up_n ((hm_ne0 g23 z22).symm)]; exact g160
  have g162 : f128 q34 = some (.inl (k 0, 64, .inl (fun _ => 0))) := by rw [e129, hm_up_n (hm_ne0 g139 z130)]; exact g139
  have g163 : f149 q34 = some (.inl (k 0, 64, .inl (fun _ => 0))) := by rw [e150, hm_up_n ((hm_ne0 g38 z37).symm)]; exact g162
  have g164 : f128 q51 = some (.inl (k 0, 64, .inl (fun _ => 0))) := by rw [e129, hm_up_n (hm_ne0 g141 z130)]; exact g141
  have g165 : f149 q51 = some (.inl (k 0, 64, .inl (fun _ => 0))) := by rw [e150, hm_up_n ((hm_ne0 g55 z54).symm)]; exact g164
  have g166 : f128 q67 = some (.inl (k 0, 64, .inl (fun _ => 0))) := by rw [e129, hm_up_n (hm_ne0 g143 z130)]; exact g143
  have g167 : f149 q67 = some (.inl (k 0, 64, .inl (fun _ => 0))) := by rw [e150, hm_up_n ((hm_ne0 g71 z70).symm)]; exact g166
  have g168 : f128 q85 = some (.inl (k 0, 64, .inl (fun _ => 0))) := by rw [e129, hm_up_n (hm_ne0 g145 z130)]; exact g145
  have g169 : f149 q85 = some (.inl (k 0, 64, .inl (fun _ => 0))) := by rw [e150, hm_up_n ((hm_ne0 g89 z88).symm)]; exact g168
  have g170 : f128 q105 = some (.inl (k 1, 64, .inl (fun _ => 0))) := by rw [e129, hm_up_n (hm_ne0 g146 z130)]; exact g146
  have g171 : f149 q105 = some (.inl (k 1, 64, .inl (fun _ => 0))) := by rw [e150, hm_up_n ((hm_ne0 g109 z108).symm)]; exact g170
  have g172 : f149 q127 = some (.inl (k 0, 64, .inl (fun _ => 0))) := by rw [e150, hm_up_n ((hm_ne0 g131 z130).symm)]; exact g147
  refine hm_newa (atype := .int) (ty := .int) X hK hM hS hA rfl wa_0 0 rfl (N' := 16) (a0 := (16, .inl (fun _ => 0))) (fun _ => rfl) (by decide) (by decide) (by decide) (by decide) (by decide) d_GrantServerModel_init_81 (fun q151 f152 H e153 z154 hM hS => ?_)
  have hnd := hm_nd_new hnd hpr z154; have hpr := hm_pr_new hpr e153
  have g173 : f152 q151 = some (.inl (k 0, 16, .inl (fun _ => 0))) := hm_new1 e153
  have g174 : f152 h = some (.inr (8, [.long 0, .int 0, .int 0, .int 0, .int 0, .ref q1, .ref q9, .ref q19, .int 0, .int (-1), .ref q34, .ref q51, .ref q67, .ref q85, .ref q105, .ref q127, .null, .null, .int 0, .null, .null, .null, .int 0, .null, .int 0, .null, .int 0, .null, .int 0, .int 0, .null])) := by rw [e153, hm_up_n (hm_ne0 g155 z154)]; exact g155
  refine hm_putF X hK hM hS (fs' := [.long 0, .int 0, .int 0, .int 0, .int 0, .ref q1, .ref q9, .ref q19, .int 0, .int (-1), .ref q34, .ref q51, .ref q67, .ref q85, .ref q105, .ref q127, .ref q151, .null, .int 0, .null, .null, .null, .int 0, .null, .int 0, .null, .int 0, .null, .int 0, .int 0, .null]) g174 fF_GrantServerModel_42 hin rfl rfl (Nat.le_of_ble_eq_true rfl) rfl d_GrantServerModel_init_83 (fun f175 H locs e176 hM hS => ?_)
  have hpr := hm_pr_up hpr e176
  refine lv_aload_n hx hb d_GrantServerModel_init_86 rfl (lv_at hl 0 rfl) ?_
  refine lv_bipush (v := 16) hx hb d_GrantServerModel_init_87 (by decide) ?_
  have g181 : f175 h = some (.inr (8, [.long 0, .int 0, .int 0, .int 0, .int 0, .ref q1, .ref q9, .ref q19, .int 0, .int (-1), .ref q34, .ref q51, .ref q67, .ref q85, .ref q105, .ref q127, .ref q151, .null, .int 0, .null, .null, .null, .int 0, .null, .int 0, .null, .int 0, .null, .int 0, .int 0, .null])) := by rw [e176, hm_up_s]
  have g182 : f152 q1 = some (.inl (k 0, 4, .inl (fun _ => 0))) := by rw [e153, hm_up_n (hm_ne0 g157 z154)]; exact g157
  have g183 : f175 q1 = some (.inl (k 0, 4, .inl (fun _ => 0))) := by rw [e176, hm_up_n ((hm_ne0 hh z4).symm)]; exact g182
  have g184 : f152 q9 = some (.inl (k 0, 4, .inl (fun _ => 0))) := by rw [e153, hm_up_n (hm_ne0 g159 z154)]; exact g159
  have g185 : f175 q9 = some (.inl (k 0, 4, .inl (fun _ => 0))) := by rw [e176, hm_up_n ((hm_ne0 g13 z12).symm)]; exact g184
  have g186 : f152 q19 = some (.inl (k 0, 4, .inl (fun _ => 0))) := by rw [e153, hm_up_n (hm_ne0 g161 z154)]; exact g161
  have g187 : f175 q19 = some (.inl (k 0, 4, .inl (fun _ => 0))) := by rw [e176, hm_up_n ((hm_ne0 g23 z22).symm)]; exact g186
  have g188 : f152 q34 = some (.inl (k 0, 64, .inl (fun _ => 0))) := by rw [e153, hm_up_n (hm_ne0 g163 z154)]; exact g163
  have g189 : f175 q34 = some (.inl (k 0, 64, .inl (fun _ => 0))) := by rw [e176, hm_up_n ((hm_ne0 g38 z37).symm)]; exact g188
  have g190 : f152 q51 = some (.inl (k 0, 64, .inl (fun _ => 0))) := by rw [e153, hm_up_n (hm_ne0 g165 z154)]; exact g165
  have g191 : f175 q51 = some (.inl (k 0, 64, .inl (fun _ => 0))) := by rw [e176, hm_up_n ((hm_ne0 g55 z54).symm)]; exact g190
  have g192 : f152 q67 = some (.inl (k 0, 64, .inl (fun _ => 0))) := by rw [e153, hm_up_n (hm_ne0 g167 z154)]; exact g167
  have g193 : f175 q67 = some (.inl (k 0, 64, .inl (fun _ => 0))) := by rw [e176, hm_up_n ((hm_ne0 g71 z70).symm)]; exact g192
  have g194 : f152 q85 = some (.inl (k 0, 64, .inl (fun _ => 0))) := by rw [e153, hm_up_n (hm_ne0 g169 z154)]; exact g169
  have g195 : f175 q85 = some (.inl (k 0, 64, .inl (fun _ => 0))) := by rw [e176, hm_up_n ((hm_ne0 g89 z88).symm)]; exact g194
  have g196 : f152 q105 = some (.inl (k 1, 64, .inl (fun _ => 0))) := by rw [e153, hm_up_n (hm_ne0 g171 z154)]; exact g171
  have g197 : f175 q105 = some (.inl (k 1, 64, .inl (fun _ => 0))) := by rw [e176, hm_up_n ((hm_ne0 g109 z108).symm)]; exact g196
  have g198 : f152 q127 = some (.inl (k 0, 64, .inl (fun _ => 0))) := by rw [e153, hm_up_n (hm_ne0 g172 z154)]; exact g172
  have g199 : f175 q127 = some (.inl (k 0, 64, .inl (fun _ => 0))) := by rw [e176, hm_up_n ((hm_ne0 g131 z130).symm)]; exact g198
  have g200 : f175 q151 = some (.inl (k 0, 16, .inl (fun _ => 0))) := by rw [e176, hm_up_n ((hm_ne0 g155 z154).symm)]; exact g173
  refine hm_newa (atype := .int) (ty := .int) X hK hM hS hA rfl wa_0 0 rfl (N' := 16) (a0 := (16, .inl (fun _ => 0))) (fun _ => rfl) (by decide) (by decide) (by decide) (by decide) (by decide) d_GrantServerModel_init_89 (fun q177 f178 H e179 z180 hM hS => ?_)
  have hnd := hm_nd_new hnd hpr z180; have hpr := hm_pr_new hpr e179
  have g201 : f178 q177 = some (.inl (k 0, 16, .inl (fun _ => 0))) := hm_new1 e179
  have g202 : f178 h = some (.inr (8, [.long 0, .int 0, .int 0, .int 0, .int 0, .ref q1, .ref q9, .ref q19, .int 0, .int (-1), .ref q34, .ref q51, .ref q67, .ref q85, .ref q105, .ref q127, .ref q151, .null, .int 0, .null, .null, .null, .int 0, .null, .int 0, .null, .int 0, .null, .int 0, .int 0, .null])) := by rw [e179, hm_up_n (hm_ne0 g181 z180)]; exact g181
  refine hm_putF X hK hM hS (fs' := [.long 0, .int 0, .int 0, .int 0, .int 0, .ref q1, .ref q9, .ref q19, .int 0, .int (-1), .ref q34, .ref q51, .ref q67, .ref q85, .ref q105, .ref q127, .ref q151, .ref q177, .int 0, .null, .null, .null, .int 0, .null, .int 0, .null, .int 0, .null, .int 0, .int 0, .null]) g202 fF_GrantServerModel_45 hin rfl rfl (Nat.le_of_ble_eq_true rfl) rfl d_GrantServerModel_init_91 (fun f203 H locs e204 hM hS => ?_)
  have hpr := hm_pr_up hpr e204
  refine lv_aload_n hx hb d_GrantServerModel_init_94 rfl (lv_at hl 0 rfl) ?_
  refine lv_sipush (v := 520) hx hb d_GrantServerModel_init_95 (by decide) ?_
  have g209 : f203 h = some (.inr (8, [.long 0, .int 0, .int 0, .int 0, .int 0, .ref q1, .ref q9, .ref q19, .int 0, .int (-1), .ref q34, .ref q51, .ref q67, .ref q85, .ref q105, .ref q127, .ref q151, .ref q177, .int 0, .null, .null, .null, .int 0, .null, .int 0, .null, .int 0, .null, .int 0, .int 0, .null])) := by rw [e204, hm_up_s]
  have g210 : f178 q1 = some (.inl (k 0, 4, .inl (fun _ => 0))) := by rw [e179, hm_up_n (hm_ne0 g183 z180)]; exact g183
  have g211 : f203 q1 = some (.inl (k 0, 4, .inl (fun _ => 0))) := by rw [e204, hm_up_n ((hm_ne0 hh z4).symm)]; exact g210
  have g212 : f178 q9 = some (.inl (k 0, 4, .inl (fun _ => 0))) := by rw [e179, hm_up_n (hm_ne0 g185 z180)]; exact g185
  have g213 : f203 q9 = some (.inl (k 0, 4, .inl (fun _ => 0))) := by rw [e204, hm_up_n ((hm_ne0 g13 z12).symm)]; exact g212
  have g214 : f178 q19 = some (.inl (k 0, 4, .inl (fun _ => 0))) := by rw [e179, hm_up_n (hm_ne0 g187 z180)]; exact g187
  have g215 : f203 q19 = some (.inl (k 0, 4, .inl (fun _ => 0))) := by rw [e204, hm_up_n ((hm_ne0 g23 z22).symm)]; exact g214
  have g216 : f178 q34 = some (.inl (k 0, 64, .inl (fun _ => 0))) := by rw [e179, hm_up_n (hm_ne0 g189 z180)]; exact g189
  have g217 : f203 q34 = some (.inl (k 0, 64, .inl (fun _ => 0))) := by rw [e204, hm_up_n ((hm_ne0 g38 z37).symm)]; exact g216
  have g218 : f178 q51 = some (.inl (k 0, 64, .inl (fun _ => 0))) := by rw [e179, hm_up_n (hm_ne0 g191 z180)]; exact g191
  have g219 : f203 q51 = some (.inl (k 0, 64, .inl (fun _ => 0))) := by rw [e204, hm_up_n ((hm_ne0 g55 z54).symm)]; exact g218
  have g220 : f178 q67 = some (.inl (k 0, 64, .inl (fun _ => 0))) := by rw [e179, hm_up_n (hm_ne0 g193 z180)]; exact g193
  have g221 : f203 q67 = some (.inl (k 0, 64, .inl (fun _ => 0))) := by rw [e204, hm_up_n ((hm_ne0 g71 z70).symm)]; exact g220
  have g222 : f178 q85 = some (.inl (k 0, 64, .inl (fun _ => 0))) := by rw [e179, hm_up_n (hm_ne0 g195 z180)]; exact g195
  have g223 : f203 q85 = some (.inl (k 0, 64, .inl (fun _ => 0))) := by rw [e204, hm_up_n ((hm_ne0 g89 z88).symm)]; exact g222
  have g224 : f178 q105 = some (.inl (k 1, 64, .inl (fun _ => 0))) := by rw [e179, hm_up_n (hm_ne0 g197 z180)]; exact g197
  have g225 : f203 q105 = some (.inl (k 1, 64, .inl (fun _ => 0))) := by rw [e204, hm_up_n ((hm_ne0 g109 z108).symm)]; exact g224
  have g226 : f178 q127 = some (.inl (k 0, 64, .inl (fun _ => 0))) := by rw [e179, hm_up_n (hm_ne0 g199 z180)]; exact g199
  have g227 : f203 q127 = some (.inl (k 0, 64, .inl (fun _ => 0))) := by rw [e204, hm_up_n ((hm_ne0 g131 z130).symm)]; exact g226
  have g228 : f178 q151 = some (.inl (k 0, 16, .inl (fun _ => 0))) := by rw [e179, hm_up_n (hm_ne0 g200 z180)]; exact g200
  have g229 : f203 q151 = some (.inl (k 0, 16, .inl (fun _ => 0))) := by rw [e204, hm_up_n ((hm_ne0 g155 z154).symm)]; exact g228
  have g230 : f203 q177 = some (.inl (k 0, 16, .inl (fun _ => 0))) := by rw [e204, hm_up_n ((hm_ne0 g181 z180).symm)]; exact g201
  refine hm_newa (atype := .int) (ty := .int) X hK hM hS hA rfl wa_0 0 rfl (N' := 520) (a0 := (520, .inl (fun _ => 0))) (fun _ => rfl) (by decide) (by decide) (by decide) (by decide) (by decide) d_GrantServerModel_init_98 (fun q205 f206 H e207 z208 hM hS => ?_)
  have hnd := hm_nd_new hnd hpr z208; have hpr := hm_pr_new hpr e207
  have g231 : f206 q205 = some (.inl (k 0, 520, .inl (fun _ => 0))) := hm_new1 e207
  have g232 : f206 h = some (.inr (8, [.long 0, .int 0, .int 0, .int 0, .int 0, .ref q1, .ref q9, .ref q19, .int 0, .int (-1), .ref q34, .ref q51, .ref q67, .ref q85, .ref q105, .ref q127, .ref q151, .ref q177, .int 0, .null, .null, .null, .int 0, .null, .int 0, .null, .int 0, .null, .int 0, .int 0, .null])) := by rw [e207, hm_up_n (hm_ne0 g209 z208)]; exact g209
  refine hm_putF X hK hM hS (fs' := [.long 0, .int 0, .int 0, .int 0, .int 0, .ref q1, .ref q9, .ref q19, .int 0, .int (-1), .ref q34, .ref q51, .ref q67, .ref q85, .ref q105, .ref q127, .ref q151, .ref q177, .int 0, .ref q205, .null, .null, .int 0, .null, .int 0, .null, .int 0, .null, .int 0, .int 0, .null]) g232 fF_GrantServerModel_48 hin rfl rfl (Nat.le_of_ble_eq_true rfl) rfl d_GrantServerModel_init_100 (fun f233 H locs e234 hM hS => ?_)
  have hpr := hm_pr_up hpr e234
  refine lv_aload_n hx hb d_GrantServerModel_init_103 rfl (lv_at hl 0 rfl) ?_
  refine lv_sipush (v := 520) hx hb d_GrantServerModel_init_104 (by decide) ?_
  have g239 : f233 h = some (.inr (8, [.long 0, .int 0, .int 0, .int 0, .int 0, .ref q1, .ref q9, .ref q19, .int 0, .int (-1), .ref q34, .ref q51, .ref q67, .ref q85, .ref q105, .ref q127, .ref q151, .ref q177, .int 0, .ref q205, .null, .null, .int 0, .null, .int 0, .null, .int 0, .null, .int 0, .int 0, .null])) := by rw [e234, hm_up_s]
  have g240 : f206 q1 = some (.inl (k 0, 4, .inl (fun _ => 0))) := by rw [e207, hm_up_n (hm_ne0 g211 z208)]; exact g211
  have g241 : f233 q1 = some (.inl (k 0, 4, .inl (fun _ => 0))) := by rw [e234, hm_up_n ((hm_ne0 hh z4).symm)]; exact g240
  have g242 : f206 q9 = some (.inl (k 0, 4, .inl (fun _ => 0))) := by rw [e207, hm_up_n (hm_ne0 g213 z208)]; exact g213
  have g243 : f233 q9 = some (.inl (k 0, 4, .inl (fun _ => 0))) := by rw [e234, hm_up_n ((hm_ne0 g13 z12).symm)]; exact g242
  have g244 : f206 q19 = some (.inl (k 0, 4, .inl (fun _ => 0))) := by rw [e207, hm_up_n (hm_ne0 g215 z208)]; exact g215
  have g245 : f233 q19 = some (.inl (k 0, 4, .inl (fun _ => 0))) := by rw [e234, hm_up_n ((hm_ne0 g23 z22).symm)]; exact g244
  have g246 : f206 q34 = some (.inl (k 0, 64, .inl (fun _ => 0))) := by rw [e207, hm_up_n (hm_ne0 g217 z208)]; exact g217
  have g247 : f233 q34 = some (.inl (k 0, 64, .inl (fun _ => 0))) := by rw [e234, hm_up_n ((hm_ne0 g38 z37).symm)]; exact g246
  have g248 : f206 q51 = some (.inl (k 0, 64, .inl (fun _ => 0))) := by rw [e207, hm_up_n (hm_ne0 g219 z208)]; exact g219
  have g249 : f233 q51 = some (.inl (k 0, 64, .inl (fun _ => 0))) := by rw [e234, hm_up_n ((hm_ne0 g55 z54).symm)]; exact g248
  have g250 : f206 q67 = some (.inl (k 0, 64, .inl (fun _ => 0))) := by rw [e207, hm_up_n (hm_ne0 g221 z208)]; exact g221
  have g251 : f233 q67 = some (.inl (k 0, 64, .inl (fun _ => 0))) := by rw [e234, hm_up_n ((hm_ne0 g71 z70).symm)]; exact g250
  have g252 : f206 q85 = some (.inl (k 0, 64, .inl (fun _ => 0))) := by rw [e207, hm_up_n (hm_ne0 g223 z208)]; exact g223
  have g253 : f233 q85 = some (.inl (k 0, 64, .inl (fun _ => 0))) := by rw [e234, hm_up_n ((hm_ne0 g89 z88).symm)]; exact g252
  have g254 : f206 q105 = some (.inl (k 1, 64, .inl (fun _ => 0))) := by rw [e207, hm_up_n (hm_ne0 g225 z208)]; exact g225
  have g255 : f233 q105 = some (.inl (k 1, 64, .inl (fun _ => 0))) := by rw [e234, hm_up_n ((hm_ne0 g109 z108).symm)]; exact g254
  have g256 : f206 q127 = some (.inl (k 0, 64, .inl (fun _ => 0))) := by rw [e207, hm_up_n (hm_ne0 g227 z208)]; exact g227
  have g257 : f233 q127 = some (.inl (k 0, 64, .inl (fun _ => 0))) := by rw [e234, hm_up_n ((hm_ne0 g131 z130).symm)]; exact g256
  have g258 : f206 q151 = some (.inl (k 0, 16, .inl (fun _ => 0))) := by rw [e207, hm_up_n (hm_ne0 g229 z208)]; exact g229
  have g259 : f233 q151 = some (.inl (k 0, 16, .inl (fun _ => 0))) := by rw [e234, hm_up_n ((hm_ne0 g155 z154).symm)]; exact g258
  have g260 : f206 q177 = some (.inl (k 0, 16, .inl (fun _ => 0))) := by rw [e207, hm_up_n (hm_ne0 g230 z208)]; exact g230
  have g261 : f233 q177 = some (.inl (k 0, 16, .inl (fun _ => 0))) := by rw [e234, hm_up_n ((hm_ne0 g181 z180).symm)]; exact g260
  have g262 : f233 q205 = some (.inl (k 0, 520, .inl (fun _ => 0))) := by rw [e234, hm_up_n ((hm_ne0 g209 z208).symm)]; exact g231
  refine hm_newa (atype := .int) (ty := .int) X hK hM hS hA rfl wa_0 0 rfl (N' := 520) (a0 := (520, .inl (fun _ => 0))) (fun _ => rfl) (by decide) (by decide) (by decide) (by decide) (by decide) d_GrantServerModel_init_107 (fun q235 f236 H e237 z238 hM hS => ?_)
  have hnd := hm_nd_new hnd hpr z238; have hpr := hm_pr_new hpr e237
  have g263 : f236 q235 = some (.inl (k 0, 520, .inl (fun _ => 0))) := hm_new1 e237
  have g264 : f236 h = some (.inr (8, [.long 0, .int 0, .int 0, .int 0, .int 0, .ref q1, .ref q9, .ref q19, .int 0, .int (-1), .ref q34, .ref q51, .ref q67, .ref q85, .ref q105, .ref q127, .ref q151, .ref q177, .int 0, .ref q205, .null, .null, .int 0, .null, .int 0, .null, .int 0, .null, .int 0, .int 0, .null])) := by rw [e237, hm_up_n (hm_ne0 g239 z238)]; exact g239
  refine hm_putF X hK hM hS (fs' := [.long 0, .int 0, .int 0, .int 0, .int 0, .ref q1, .ref q9, .ref q19, .int 0, .int (-1), .ref q34, .ref q51, .ref q67, .ref q85, .ref q105, .ref q127, .ref q151, .ref q177, .int 0, .ref q205, .ref q235, .null, .int 0, .null, .int 0, .null, .int 0, .null, .int 0, .int 0, .null]) g264 fF_GrantServerModel_51 hin rfl rfl (Nat.le_of_ble_eq_true rfl) rfl d_GrantServerModel_init_109 (fun f265 H locs e266 hM hS => ?_)
  have hpr := hm_pr_up hpr e266
  refine lv_aload_n hx hb d_GrantServerModel_init_112 rfl (lv_at hl 0 rfl) ?_
  refine lv_sipush (v := 520) hx hb d_GrantServerModel_init_113 (by decide) ?_
  have g271 : f265 h = some (.inr (8, [.long 0, .int 0, .int 0, .int 0, .int 0, .ref q1, .ref q9, .ref q19, .int 0, .int (-1), .ref q34, .ref q51, .ref q67, .ref q85, .ref q105, .ref q127, .ref q151, .ref q177, .int 0, .ref q205, .ref q235, .null, .int 0, .null, .int 0, .null, .int 0, .null, .int 0, .int 0, .null])) := by rw [e266, hm_up_s]
  have g272 : f236 q1 = some (.inl (k 0, 4, .inl (fun _ => 0))) := by rw [e237, hm_up_n (hm_ne0 g241 z238)]; exact g241
  have g273 : f265 q1 = some (.inl (k 0, 4, .inl (fun _ => 0))) := by rw [e266, hm_up_n ((hm_ne0 hh z4).symm)]; exact g272
  have g274 : f236 q9 = some (.inl (k 0, 4, .inl (fun _ => 0))) := by rw [e237, hm_up_n (hm_ne0 g243 z238)]; exact g243
  have g275 : f265 q9 = some (.inl (k 0, 4, .inl (fun _ => 0))) := by rw [e266, hm_up_n ((hm_ne0 g13 z12).symm)]; exact g274
  have g276 : f236 q19 = some (.inl (k 0, 4, .inl (fun _ => 0))) := by rw [e237, hm_up_n (hm_ne0 g245 z238)]; exact g245
  have g277 : f265 q19 = some (.inl (k 0, 4, .inl (fun _ => 0))) := by rw [e266, hm_up_n ((hm_ne0 g23 z22).symm)]; exact g276
  have g278 : f236 q34 = some (.inl (k 0, 64, .inl (fun _ => 0))) := by rw [e237, hm_up_n (hm_ne0 g247 z238)]; exact g247
  have g279 : f265 q34 = some (.inl (k 0, 64, .inl (fun _ => 0))) := by rw [e266, hm_up_n ((hm_ne0 g38 z37).symm)]; exact g278
  have g280 : f236 q51 = some (.inl (k 0, 64, .inl (fun _ => 0))) := by rw [e237, hm_up_n (hm_ne0 g249 z238)]; exact g249
  have g281 : f265 q51 = some (.inl (k 0, 64, .inl (fun _ => 0))) := by rw [e266, hm_up_n ((hm_ne0 g55 z54).symm)]; exact g280
  have g282 : f236 q67 = some (.inl (k 0, 64, .inl (fun _ => 0))) := by rw [e237, hm_up_n (hm_ne0 g251 z238)]; exact g251
  have g283 : f265 q67 = some (.inl (k 0, 64, .inl (fun _ => 0))) := by rw [e266, hm_up_n ((hm_ne0 g71 z70).symm)]; exact g282
  have g284 : f236 q85 = some (.inl (k 0, 64, .inl (fun _ => 0))) := by rw [e237, hm_up_n (hm_ne0 g253 z238)]; exact g253
  have g285 : f265 q85 = some (.inl (k 0, 64, .inl (fun _ => 0))) := by rw [e266, hm_up_n ((hm_ne0 g89 z88).symm)]; exact g284
  have g286 : f236 q105 = some (.inl (k 1, 64, .inl (fun _ => 0))) := by rw [e237, hm_up_n (hm_ne0 g255 z238)]; exact g255
  have g287 : f265 q105 = some (.inl (k 1, 64, .inl (fun _ => 0))) := by rw [e266, hm_up_n ((hm_ne0 g109 z108).symm)]; exact g286
  have g288 : f236 q127 = some (.inl (k 0, 64, .inl (fun _ => 0))) := by rw [e237, hm_up_n (hm_ne0 g257 z238)]; exact g257
  have g289 : f265 q127 = some (.inl (k 0, 64, .inl (fun _ => 0))) := by rw [e266, hm_up_n ((hm_ne0 g131 z130).symm)]; exact g288
  have g290 : f236 q151 = some (.inl (k 0, 16, .inl (fun _ => 0))) := by rw [e237, hm_up_n (hm_ne0 g259 z238)]; exact g259
  have g291 : f265 q151 = some (.inl (k 0, 16, .inl (fun _ => 0))) := by rw [e266, hm_up_n ((hm_ne0 g155 z154).symm)]; exact g290
  have g292 : f236 q177 = some (.inl (k 0, 16, .inl (fun _ => 0))) := by rw [e237, hm_up_n (hm_ne0 g261 z238)]; exact g261
  have g293 : f265 q177 = some (.inl (k 0, 16, .inl (fun _ => 0))) := by rw [e266, hm_up_n ((hm_ne0 g181 z180).symm)]; exact g292
  have g294 : f236 q205 = some (.inl (k 0, 520, .inl (fun _ => 0))) := by rw [e237, hm_up_n (hm_ne0 g262 z238)]; exact g262
  have g295 : f265 q205 = some (.inl (k 0, 520, .inl (fun _ => 0))) := by rw [e266, hm_up_n ((hm_ne0 g209 z208).symm)]; exact g294
  have g296 : f265 q235 = some (.inl (k 0, 520, .inl (fun _ => 0))) := by rw [e266, hm_up_n ((hm_ne0 g239 z238).symm)]; exact g263
  refine hm_newa (atype := .boolean) (ty := .boolean) X hK hM hS hA rfl wa_1 1 rfl (N' := 520) (a0 := (520, .inl (fun _ => 0))) (fun _ => rfl) (by decide) (by decide) (by decide) (by decide) (by decide) d_GrantServerModel_init_116 (fun q267 f268 H e269 z270 hM hS => ?_)
  have hnd := hm_nd_new hnd hpr z270; have hpr := hm_pr_new hpr e269
  have g297 : f268 q267 = some (.inl (k 1, 520, .inl (fun _ => 0))) := hm_new1 e269
  have g298 : f268 h = some (.inr (8, [.long 0, .int 0, .int 0, .int 0, .int 0, .ref q1, .ref q9, .ref q19, .int 0, .int (-1), .ref q34, .ref q51, .ref q67, .ref q85, .ref q105, .ref q127, .ref q151, .ref q177, .int 0, .ref q205, .ref q235, .null, .int 0, .null, .int 0, .null, .int 0, .null, .int 0, .int 0, .null])) := by rw [e269, hm_up_n (hm_ne0 g271 z270)]; exact g271
  refine hm_putF X hK hM hS (fs' := [.long 0, .int 0, .int 0, .int 0, .int 0, .ref q1, .ref q9, .ref q19, .int 0, .int (-1), .ref q34, .ref q51, .ref q67, .ref q85, .ref q105, .ref q127, .ref q151, .ref q177, .int 0, .ref q205, .ref q235, .ref q267, .int 0, .null, .int 0, .null, .int 0, .null, .int 0, .int 0, .null]) g298 fF_GrantServerModel_54 hin rfl rfl (Nat.le_of_ble_eq_true rfl) rfl d_GrantServerModel_init_118 (fun f299 H locs e300 hM hS => ?_)
  have hpr := hm_pr_up hpr e300
  refine lv_aload_n hx hb d_GrantServerModel_init_121 rfl (lv_at hl 0 rfl) ?_
  refine lv_bipush (v := 120) hx hb d_GrantServerModel_init_122 (by decide) ?_
  have g305 : f299 h = some (.inr (8, [.long 0, .int 0, .int 0, .int 0, .int 0, .ref q1, .ref q9, .ref q19, .int 0, .int (-1), .ref q34, .ref q51, .ref q67, .ref q85, .ref q105, .ref q127, .ref q151, .ref q177, .int 0, .ref q205, .ref q235, .ref q267, .int 0, .null, .int 0, .null, .int 0, .null, .int 0, .int 0, .null])) := by rw [e300, hm_up_s]
  have g306 : f268 q1 = some (.inl (k 0, 4, .inl (fun _ => 0))) := by rw [e269, hm_up_n (hm_ne0 g273 z270)]; exact g273
  have g307 : f299 q1 = some (.inl (k 0, 4, .inl (fun _ => 0))) := by rw [e300, hm_up_n ((hm_ne0 hh z4).symm)]; exact g306
  have g308 : f268 q9 = some (.inl (k 0, 4, .inl (fun _ => 0))) := by rw [e269, hm_up_n (hm_ne0 g275 z270)]; exact g275
  have g309 : f299 q9 = some (.inl (k 0, 4, .inl (fun _ => 0))) := by rw [e300, hm_up_n ((hm_ne0 g13 z12).symm)]; exact g308
  have g310 : f268 q19 = some (.inl (k 0, 4, .inl (fun _ => 0))) := by rw [e269, hm_up_n (hm_ne0 g277 z270)]; exact g277
  have g311 : f299 q19 = some (.inl (k 0, 4, .inl (fun _ => 0))) := by rw [e300, hm_up_n ((hm_ne0 g23 z22).symm)]; exact g310
  have g312 : f268 q34 = some (.inl (k 0, 64, .inl (fun _ => 0))) := by rw [e269, hm_up_n (hm_ne0 g279 z270)]; exact g279
  have g313 : f299 q34 = some (.inl (k 0, 64, .inl (fun _ => 0))) := by rw [e300, hm_up_n ((hm_ne0 g38 z37).symm)]; exact g312
  have g314 : f268 q51 = some (.inl (k 0, 64, .inl (fun _ => 0))) := by rw [e269, hm_up_n (hm_ne0 g281 z270)]; exact g281
  have g315 : f299 q51 = some (.inl (k 0, 64, .inl (fun _ => 0))) := by rw [e300, hm_up_n ((hm_ne0 g55 z54).symm)]; exact g314
  have g316 : f268 q67 = some (.inl (k 0, 64, .inl (fun _ => 0))) := by rw [e269, hm_up_n (hm_ne0 g283 z270)]; exact g283
  have g317 : f299 q67 = some (.inl (k 0, 64, .inl (fun _ => 0))) := by rw [e300, hm_up_n ((hm_ne0 g71 z70).symm)]; exact g316
  have g318 : f268 q85 = some (.inl (k 0, 64, .inl (fun _ => 0))) := by rw [e269, hm_up_n (hm_ne0 g285 z270)]; exact g285
  have g319 : f299 q85 = some (.inl (k 0, 64, .inl (fun _ => 0))) := by rw [e300, hm_up_n ((hm_ne0 g89 z88).symm)]; exact g318
  have g320 : f268 q105 = some (.inl (k 1, 64, .inl (fun _ => 0))) := by rw [e269, hm_up_n (hm_ne0 g287 z270)]; exact g287
  have g321 : f299 q105 = some (.inl (k 1, 64, .inl (fun _ => 0))) := by rw [e300, hm_up_n ((hm_ne0 g109 z108).symm)]; exact g320
  have g322 : f268 q127 = some (.inl (k 0, 64, .inl (fun _ => 0))) := by rw [e269, hm_up_n (hm_ne0 g289 z270)]; exact g289
  have g323 : f299 q127 = some (.inl (k 0, 64, .inl (fun _ => 0))) := by rw [e300, hm_up_n ((hm_ne0 g131 z130).symm)]; exact g322
  have g324 : f268 q151 = some (.inl (k 0, 16, .inl (fun _ => 0))) := by rw [e269, hm_up_n (hm_ne0 g291 z270)]; exact g291
  have g325 : f299 q151 = some (.inl (k 0, 16, .inl (fun _ => 0))) := by rw [e300, hm_up_n ((hm_ne0 g155 z154).symm)]; exact g324
  have g326 : f268 q177 = some (.inl (k 0, 16, .inl (fun _ => 0))) := by rw [e269, hm_up_n (hm_ne0 g293 z270)]; exact g293
  have g327 : f299 q177 = some (.inl (k 0, 16, .inl (fun _ => 0))) := by rw [e300, hm_up_n ((hm_ne0 g181 z180).symm)]; exact g326
  have g328 : f268 q205 = some (.inl (k 0, 520, .inl (fun _ => 0))) := by rw [e269, hm_up_n (hm_ne0 g295 z270)]; exact g295
  have g329 : f299 q205 = some (.inl (k 0, 520, .inl (fun _ => 0))) := by rw [e300, hm_up_n ((hm_ne0 g209 z208).symm)]; exact g328
  have g330 : f268 q235 = some (.inl (k 0, 520, .inl (fun _ => 0))) := by rw [e269, hm_up_n (hm_ne0 g296 z270)]; exact g296
  have g331 : f299 q235 = some (.inl (k 0, 520, .inl (fun _ => 0))) := by rw [e300, hm_up_n ((hm_ne0 g239 z238).symm)]; exact g330
  have g332 : f299 q267 = some (.inl (k 1, 520, .inl (fun _ => 0))) := by rw [e300, hm_up_n ((hm_ne0 g271 z270).symm)]; exact g297
  refine hm_newa (atype := .int) (ty := .int) X hK hM hS hA rfl wa_0 0 rfl (N' := 120) (a0 := (120, .inl (fun _ => 0))) (fun _ => rfl) (by decide) (by decide) (by decide) (by decide) (by decide) d_GrantServerModel_init_124 (fun q301 f302 H e303 z304 hM hS => ?_)
  have hnd := hm_nd_new hnd hpr z304; have hpr := hm_pr_new hpr e303
  have g333 : f302 q301 = some (.inl (k 0, 120, .inl (fun _ => 0))) := hm_new1 e303
  have g334 : f302 h = some (.inr (8, [.long 0, .int 0, .int 0, .int 0, .int 0, .ref q1, .ref q9, .ref q19, .int 0, .int (-1), .ref q34, .ref q51, .ref q67, .ref q85, .ref q105, .ref q127, .ref q151, .ref q177, .int 0, .ref q205, .ref q235, .ref q267, .int 0, .null, .int 0, .null, .int 0, .null, .int 0, .int 0, .null])) := by rw [e303, hm_up_n (hm_ne0 g305 z304)]; exact g305
  refine hm_putF X hK hM hS (fs' := [.long 0, .int 0, .int 0, .int 0, .int 0, .ref q1, .ref q9, .ref q19, .int 0, .int (-1), .ref q34, .ref q51, .ref q67, .ref q85, .ref q105, .ref q127, .ref q151, .ref q177, .int 0, .ref q205, .ref q235, .ref q267, .int 0, .ref q301, .int 0, .null, .int 0, .null, .int 0, .int 0, .null]) g334 fF_GrantServerModel_57 hin rfl rfl (Nat.le_of_ble_eq_true rfl) rfl d_GrantServerModel_init_126 (fun f335 H locs e336 hM hS => ?_)
  have hpr := hm_pr_up hpr e336
  refine lv_aload_n hx hb d_GrantServerModel_init_129 rfl (lv_at hl 0 rfl) ?_
  refine lv_bipush (v := 120) hx hb d_GrantServerModel_init_130 (by decide) ?_
  have g341 : f335 h = some (.inr (8, [.long 0, .int 0, .int 0, .int 0, .int 0, .ref q1, .ref q9, .ref q19, .int 0, .int (-1), .ref q34, .ref q51, .ref q67, .ref q85, .ref q105, .ref q127, .ref q151, .ref q177, .int 0, .ref q205, .ref q235, .ref q267, .int 0, .ref q301, .int 0, .null, .int 0, .null, .int 0, .int 0, .null])) := by rw [e336, hm_up_s]
  have g342 : f302 q1 = some (.inl (k 0, 4, .inl (fun _ => 0))) := by rw [e303, hm_up_n (hm_ne0 g307 z304)]; exact g307
  have g343 : f335 q1 = some (.inl (k 0, 4, .inl (fun _ => 0))) := by rw [e336, hm_up_n ((hm_ne0 hh z4).symm)]; exact g342
  have g344 : f302 q9 = some (.inl (k 0, 4, .inl (fun _ => 0))) := by rw [e303, hm_up_n (hm_ne0 g309 z304)]; exact g309
  have g345 : f335 q9 = some (.inl (k 0, 4, .inl (fun _ => 0))) := by rw [e336, hm_up_n ((hm_ne0 g13 z12).symm)]; exact g344
  have g346 : f302 q19 = some (.inl (k 0, 4, .inl (fun _ => 0))) := by rw [e303, hm_up_n (hm_ne0 g311 z304)]; exact g311
  have g347 : f335 q19 = some (.inl (k 0, 4, .inl (fun _ => 0))) := by rw [e336, hm_up_n ((hm_ne0 g23 z22).symm)]; exact g346
  have g348 : f302 q34 = some (.inl (k 0, 64, .inl (fun _ => 0))) := by rw [e303, hm_up_n (hm_ne0 g313 z304)]; exact g313
  have g349 : f335 q34 = some (.inl (k 0, 64, .inl (fun _ => 0))) := by rw [e336, hm_up_n ((hm_ne0 g38 z37).symm)]; exact g348
  have g350 : f302 q51 = some (.inl (k 0, 64, .inl (fun _ => 0))) := by rw [e303, hm_up_n (hm_ne0 g315 z304)]; exact g315
  have g351 : f335 q51 = some (.inl (k 0, 64, .inl (fun _ => 0))) := by rw [e336, hm_up_n ((hm_ne0 g55 z54).symm)]; exact g350
  have g352 : f302 q67 = some (.inl (k 0, 64, .inl (fun _ => 0))) := by rw [e303, hm_up_n (hm_ne0 g317 z304)]; exact g317
  have g353 : f335 q67 = some (.inl (k 0, 64, .inl (fun _ => 0))) := by rw [e336, hm_up_n ((hm_ne0 g71 z70).symm)]; exact g352
  have g354 : f302 q85 = some (.inl (k 0, 64, .inl (fun _ => 0))) := by rw [e303, hm_up_n (hm_ne0 g319 z304)]; exact g319
  have g355 : f335 q85 = some (.inl (k 0, 64, .inl (fun _ => 0))) := by rw [e336, hm_up_n ((hm_ne0 g89 z88).symm)]; exact g354
  have g356 : f302 q105 = some (.inl (k 1, 64, .inl (fun _ => 0))) := by rw [e303, hm_up_n (hm_ne0 g321 z304)]; exact g321
  have g357 : f335 q105 = some (.inl (k 1, 64, .inl (fun _ => 0))) := by rw [e336, hm_up_n ((hm_ne0 g109 z108).symm)]; exact g356
  have g358 : f302 q127 = some (.inl (k 0, 64, .inl (fun _ => 0))) := by rw [e303, hm_up_n (hm_ne0 g323 z304)]; exact g323
  have g359 : f335 q127 = some (.inl (k 0, 64, .inl (fun _ => 0))) := by rw [e336, hm_up_n ((hm_ne0 g131 z130).symm)]; exact g358
  have g360 : f302 q151 = some (.inl (k 0, 16, .inl (fun _ => 0))) := by rw [e303, hm_up_n (hm_ne0 g325 z304)]; exact g325
  have g361 : f335 q151 = some (.inl (k 0, 16, .inl (fun _ => 0))) := by rw [e336, hm_up_n ((hm_ne0 g155 z154).symm)]; exact g360
  have g362 : f302 q177 = some (.inl (k 0, 16, .inl (fun _ => 0))) := by rw [e303, hm_up_n (hm_ne0 g327 z304)]; exact g327
  have g363 : f335 q177 = some (.inl (k 0, 16, .inl (fun _ => 0))) := by rw [e336, hm_up_n ((hm_ne0 g181 z180).symm)]; exact g362
  have g364 : f302 q205 = some (.inl (k 0, 520, .inl (fun _ => 0))) := by rw [e303, hm_up_n (hm_ne0 g329 z304)]; exact g329
  have g365 : f335 q205 = some (.inl (k 0, 520, .inl (fun _ => 0))) := by rw [e336, hm_up_n ((hm_ne0 g209 z208).symm)]; exact g364
  have g366 : f302 q235 = some (.inl (k 0, 520, .inl (fun _ => 0))) := by rw [e303, hm_up_n (hm_ne0 g331 z304)]; exact g331
  have g367 : f335 q235 = some (.inl (k 0, 520, .inl (fun _ => 0))) := by rw [e336, hm_up_n ((hm_ne0 g239 z238).symm)]; exact g366
  have g368 : f302 q267 = some (.inl (k 1, 520, .inl (fun _ => 0))) := by rw [e303, hm_up_n (hm_ne0 g332 z304)]; exact g332
  have g369 : f335 q267 = some (.inl (k 1, 520, .inl (fun _ => 0))) := by rw [e336, hm_up_n ((hm_ne0 g271 z270).symm)]; exact g368
  have g370 : f335 q301 = some (.inl (k 0, 120, .inl (fun _ => 0))) := by rw [e336, hm_up_n ((hm_ne0 g305 z304).symm)]; exact g333
  refine hm_newa (atype := .int) (ty := .int) X hK hM hS hA rfl wa_0 0 rfl (N' := 120) (a0 := (120, .inl (fun _ => 0))) (fun _ => rfl) (by decide) (by decide) (by decide) (by decide) (by decide) d_GrantServerModel_init_132 (fun q337 f338 H e339 z340 hM hS => ?_)
  have hnd := hm_nd_new hnd hpr z340; have hpr := hm_pr_new hpr e339
  have g371 : f338 q337 = some (.inl (k 0, 120, .inl (fun _ => 0))) := hm_new1 e339
  have g372 : f338 h = some (.inr (8, [.long 0, .int 0, .int 0, .int 0, .int 0, .ref q1, .ref q9, .ref q19, .int 0, .int (-1), .ref q34, .ref q51, .ref q67, .ref q85, .ref q105, .ref q127, .ref q151, .ref q177, .int 0, .ref q205, .ref q235, .ref q267, .int 0, .ref q301, .int 0, .null, .int 0, .null, .int 0, .int 0, .null])) := by rw [e339, hm_up_n (hm_ne0 g341 z340)]; exact g341
  refine hm_putF X hK hM hS (fs' := [.long 0, .int 0, .int 0, .int 0, .int 0, .ref q1, .ref q9, .ref q19, .int 0, .int (-1), .ref q34, .ref q51, .ref q67, .ref q85, .ref q105, .ref q127, .ref q151, .ref q177, .int 0, .ref q205, .ref q235, .ref q267, .int 0, .ref q301, .int 0, .ref q337, .int 0, .null, .int 0, .int 0, .null]) g372 fF_GrantServerModel_60 hin rfl rfl (Nat.le_of_ble_eq_true rfl) rfl d_GrantServerModel_init_134 (fun f373 H locs e374 hM hS => ?_)
  have hpr := hm_pr_up hpr e374
  refine lv_aload_n hx hb d_GrantServerModel_init_137 rfl (lv_at hl 0 rfl) ?_
  refine lv_sipush (v := 130) hx hb d_GrantServerModel_init_138 (by decide) ?_
  have g379 : f373 h = some (.inr (8, [.long 0, .int 0, .int 0, .int 0, .int 0, .ref q1, .ref q9, .ref q19, .int 0, .int (-1), .ref q34, .ref q51, .ref q67, .ref q85, .ref q105, .ref q127, .ref q151, .ref q177, .int 0, .ref q205, .ref q235, .ref q267, .int 0, .ref q301, .int 0, .ref q337, .int 0, .null, .int 0, .int 0, .null])) := by rw [e374, hm_up_s]
  have g380 : f338 q1 = some (.inl (k 0, 4, .inl (fun _ => 0))) := by rw [e339, hm_up_n (hm_ne0 g343 z340)]; exact g343
  have g381 : f373 q1 = some (.inl (k 0, 4, .inl (fun _ => 0))) := by rw [e374, hm_up_n ((hm_ne0 hh z4).symm)]; exact g380
  have g382 : f338 q9 = some (.inl (k 0, 4, .inl (fun _ => 0))) := by rw [e339, hm_up_n (hm_ne0 g345 z340)]; exact g345
  have g383 : f373 q9 = some (.inl (k 0, 4, .inl (fun _ => 0))) := by rw [e374, hm_up_n ((hm_ne0 g13 z12).symm)]; exact g382
  have g384 : f338 q19 = some (.inl (k 0, 4, .inl (fun _ => 0))) := by rw [e339, hm_up_n (hm_ne0 g347 z340)]; exact g347
  have g385 : f373 q19 = some (.inl (k 0, 4, .inl (fun _ => 0))) := by rw [e374, hm_up_n ((hm_ne0 g23 z22).symm)]; exact g384
  have g386 : f338 q34 = some (.inl (k 0, 64, .inl (fun _ => 0))) := by rw [e339, hm_up_n (hm_ne0 g349 z340)]; exact g349
  have g387 : f373 q34 = some (.inl (k 0, 64, .inl (fun _ => 0))) := by rw [e374, hm_up_n ((hm_ne0 g38 z37).symm)]; exact g386
  have g388 : f338 q51 = some (.inl (k 0, 64, .inl (fun _ => 0))) := by rw [e339, hm_up_n (hm_ne0 g351 z340)]; exact g351
  have g389 : f373 q51 = some (.inl (k 0, 64, .inl (fun _ => 0))) := by rw [e374, hm_up_n ((hm_ne0 g55 z54).symm)]; exact g388
  have g390 : f338 q67 = some (.inl (k 0, 64, .inl (fun _ => 0))) := by rw [e339, hm_up_n (hm_ne0 g353 z340)]; exact g353
  have g391 : f373 q67 = some (.inl (k 0, 64, .inl (fun _ => 0))) := by rw [e374, hm_up_n ((hm_ne0 g71 z70).symm)]; exact g390
  have g392 : f338 q85 = some (.inl (k 0, 64, .inl (fun _ => 0))) := by rw [e339, hm_up_n (hm_ne0 g355 z340)]; exact g355
  have g393 : f373 q85 = some (.inl (k 0, 64, .inl (fun _ => 0))) := by rw [e374, hm_up_n ((hm_ne0 g89 z88).symm)]; exact g392
  have g394 : f338 q105 = some (.inl (k 1, 64, .inl (fun _ => 0))) := by rw [e339, hm_up_n (hm_ne0 g357 z340)]; exact g357
  have g395 : f373 q105 = some (.inl (k 1, 64, .inl (fun _ => 0))) := by rw [e374, hm_up_n ((hm_ne0 g109 z108).symm)]; exact g394
  have g396 : f338 q127 = some (.inl (k 0, 64, .inl (fun _ => 0))) := by rw [e339, hm_up_n (hm_ne0 g359 z340)]; exact g359
  have g397 : f373 q127 = some (.inl (k 0, 64, .inl (fun _ => 0))) := by rw [e374, hm_up_n ((hm_ne0 g131 z130).symm)]; exact g396
  have g398 : f338 q151 = some (.inl (k 0, 16, .inl (fun _ => 0))) := by rw [e339, hm_up_n (hm_ne0 g361 z340)]; exact g361
  have g399 : f373 q151 = some (.inl (k 0, 16, .inl (fun _ => 0))) := by rw [e374, hm_up_n ((hm_ne0 g155 z154).symm)]; exact g398
  have g400 : f338 q177 = some (.inl (k 0, 16, .inl (fun _ => 0))) := by rw [e339, hm_up_n (hm_ne0 g363 z340)]; exact g363
  have g401 : f373 q177 = some (.inl (k 0, 16, .inl (fun _ => 0))) := by rw [e374, hm_up_n ((hm_ne0 g181 z180).symm)]; exact g400
  have g402 : f338 q205 = some (.inl (k 0, 520, .inl (fun _ => 0))) := by rw [e339, hm_up_n (hm_ne0 g365 z340)]; exact g365
  have g403 : f373 q205 = some (.inl (k 0, 520, .inl (fun _ => 0))) := by rw [e374, hm_up_n ((hm_ne0 g209 z208).symm)]; exact g402
  have g404 : f338 q235 = some (.inl (k 0, 520, .inl (fun _ => 0))) := by rw [e339, hm_up_n (hm_ne0 g367 z340)]; exact g367
  have g405 : f373 q235 = some (.inl (k 0, 520, .inl (fun _ => 0))) := by rw [e374, hm_up_n ((hm_ne0 g239 z238).symm)]; exact g404
  have g406 : f338 q267 = some (.inl (k 1, 520, .inl (fun _ => 0))) := by rw [e339, hm_up_n (hm_ne0 g369 z340)]; exact g369
  have g407 : f373 q267 = some (.inl (k 1, 520, .inl (fun _ => 0))) := by rw [e374, hm_up_n ((hm_ne0 g271 z270).symm)]; exact g406
  have g408 : f338 q301 = some (.inl (k 0, 120, .inl (fun _ => 0))) := by rw [e339, hm_up_n (hm_ne0 g370 z340)]; exact g370
  have g409 : f373 q301 = some (.inl (k 0, 120, .inl (fun _ => 0))) := by rw [e374, hm_up_n ((hm_ne0 g305 z304).symm)]; exact g408
  have g410 : f373 q337 = some (.inl (k 0, 120, .inl (fun _ => 0))) := by rw [e374, hm_up_n ((hm_ne0 g341 z340).symm)]; exact g371
  refine hm_newa (atype := .int) (ty := .int) X hK hM hS hA rfl wa_0 0 rfl (N' := 130) (a0 := (130, .inl (fun _ => 0))) (fun _ => rfl) (by decide) (by decide) (by decide) (by decide) (by decide) d_GrantServerModel_init_141 (fun q375 f376 H e377 z378 hM hS => ?_)
  have hnd := hm_nd_new hnd hpr z378; have hpr := hm_pr_new hpr e377
  have g411 : f376 q375 = some (.inl (k 0, 130, .inl (fun _ => 0))) := hm_new1 e377
  have g412 : f376 h = some (.inr (8, [.long 0, .int 0, .int 0, .int 0, .int 0, .ref q1, .ref q9, .ref q19, .int 0, .int (-1), .ref q34, .ref q51, .ref q67, .ref q85, .ref q105, .ref q127, .ref q151, .ref q177, .int 0, .ref q205, .ref q235, .ref q267, .int 0, .ref q301, .int 0, .ref q337, .int 0, .null, .int 0, .int 0, .null])) := by rw [e377, hm_up_n (hm_ne0 g379 z378)]; exact g379
  refine hm_putF X hK hM hS (fs' := [.long 0, .int 0, .int 0, .int 0, .int 0, .ref q1, .ref q9, .ref q19, .int 0, .int (-1), .ref q34, .ref q51, .ref q67, .ref q85, .ref q105, .ref q127, .ref q151, .ref q177, .int 0, .ref q205, .ref q235, .ref q267, .int 0, .ref q301, .int 0, .ref q337, .int 0, .ref q375, .int 0, .int 0, .null]) g412 fF_GrantServerModel_63 hin rfl rfl (Nat.le_of_ble_eq_true rfl) rfl d_GrantServerModel_init_143 (fun f413 H locs e414 hM hS => ?_)
  have hpr := hm_pr_up hpr e414
  refine lv_aload_n hx hb d_GrantServerModel_init_146 rfl (lv_at hl 0 rfl) ?_
  refine lv_iconst (v := 5) hx hb d_GrantServerModel_init_147 (by decide) ?_
  have g419 : f413 h = some (.inr (8, [.long 0, .int 0, .int 0, .int 0, .int 0, .ref q1, .ref q9, .ref q19, .int 0, .int (-1), .ref q34, .ref q51, .ref q67, .ref q85, .ref q105, .ref q127, .ref q151, .ref q177, .int 0, .ref q205, .ref q235, .ref q267, .int 0, .ref q301, .int 0, .ref q337, .int 0, .ref q375, .int 0, .int 0, .null])) := by rw [e414, hm_up_s]
  have g420 : f376 q1 = some (.inl (k 0, 4, .inl (fun _ => 0))) := by rw [e377, hm_up_n (hm_ne0 g381 z378)]; exact g381
  have g421 : f413 q1 = some (.inl (k 0, 4, .inl (fun _ => 0))) := by rw [e414, hm_up_n ((hm_ne0 hh z4).symm)]; exact g420
  have g422 : f376 q9 = some (.inl (k 0, 4, .inl (fun _ => 0))) := by rw [e377, hm_up_n (hm_ne0 g383 z378)]; exact g383
  have g423 : f413 q9 = some (.inl (k 0, 4, .inl (fun _ => 0))) := by rw [e414, hm_up_n ((hm_ne0 g13 z12).symm)]; exact g422
  have g424 : f376 q19 = some (.inl (k 0, 4, .inl (fun _ => 0))) := by rw [e377, hm_up_n (hm_ne0 g385 z378)]; exact g385
  have g425 : f413 q19 = some (.inl (k 0, 4, .inl (fun _ => 0))) := by rw [e414, hm_up_n ((hm_ne0 g23 z22).symm)]; exact g424
  have g426 : f376 q34 = some (.inl (k 0, 64, .inl (fun _ => 0))) := by rw [e377, hm_up_n (hm_ne0 g387 z378)]; exact g387
  have g427 : f413 q34 = some (.inl (k 0, 64, .inl (fun _ => 0))) := by rw [e414, hm_up_n ((hm_ne0 g38 z37).symm)]; exact g426
  have g428 : f376 q51 = some (.inl (k 0, 64, .inl (fun _ => 0))) := by rw [e377, hm_up_n (hm_ne0 g389 z378)]; exact g389
  have g429 : f413 q51 = some (.inl (k 0, 64, .inl (fun _ => 0))) := by rw [e414, hm_up_n ((hm_ne0 g55 z54).symm)]; exact g428
  have g430 : f376 q67 = some (.inl (k 0, 64, .inl (fun _ => 0))) := by rw [e377, hm_up_n (hm_ne0 g391 z378)]; exact g391
  have g431 : f413 q67 = some (.inl (k 0, 64, .inl (fun _ => 0))) := by rw [e414, hm_up_n ((hm_ne0 g71 z70).symm)]; exact g430
  have g432 : f376 q85 = some (.inl (k 0, 64, .inl (fun _ => 0))) := by rw [e377, hm_up_n (hm_ne0 g393 z378)]; exact g393
  have g433 : f413 q85 = some (.inl (k 0, 64, .inl (fun _ => 0))) := by rw [e414, hm_up_n ((hm_ne0 g89 z88).symm)]; exact g432
  have g434 : f376 q105 = some (.inl (k 1, 64, .inl (fun _ => 0))) := by rw [e377, hm_up_n (hm_ne0 g395 z378)]; exact g395
  have g435 : f413 q105 = some (.inl (k 1, 64, .inl (fun _ => 0))) := by rw [e414, hm_up_n ((hm_ne0 g109 z108).symm)]; exact g434
  have g436 : f376 q127 = some (.inl (k 0, 64, .inl (fun _ => 0))) := by rw [e377, hm_up_n (hm_ne0 g397 z378)]; exact g397
  have g437 : f413 q127 = some (.inl (k 0, 64, .inl (fun _ => 0))) := by rw [e414, hm_up_n ((hm_ne0 g131 z130).symm)]; exact g436
  have g438 : f376 q151 = some (.inl (k 0, 16, .inl (fun _ => 0))) := by rw [e377, hm_up_n (hm_ne0 g399 z378)]; exact g399
  have g439 : f413 q151 = some (.inl (k 0, 16, .inl (fun _ => 0))) := by rw [e414, hm_up_n ((hm_ne0 g155 z154).symm)]; exact g438
  have g440 : f376 q177 = some (.inl (k 0, 16, .inl (fun _ => 0))) := by rw [e377, hm_up_n (hm_ne0 g401 z378)]; exact g401
  have g441 : f413 q177 = some (.inl (k 0, 16, .inl (fun _ => 0))) := by rw [e414, hm_up_n ((hm_ne0 g181 z180).symm)]; exact g440
  have g442 : f376 q205 = some (.inl (k 0, 520, .inl (fun _ => 0))) := by rw [e377, hm_up_n (hm_ne0 g403 z378)]; exact g403
  have g443 : f413 q205 = some (.inl (k 0, 520, .inl (fun _ => 0))) := by rw [e414, hm_up_n ((hm_ne0 g209 z208).symm)]; exact g442
  have g444 : f376 q235 = some (.inl (k 0, 520, .inl (fun _ => 0))) := by rw [e377, hm_up_n (hm_ne0 g405 z378)]; exact g405
  have g445 : f413 q235 = some (.inl (k 0, 520, .inl (fun _ => 0))) := by rw [e414, hm_up_n ((hm_ne0 g239 z238).symm)]; exact g444
  have g446 : f376 q267 = some (.inl (k 1, 520, .inl (fun _ => 0))) := by rw [e377, hm_up_n (hm_ne0 g407 z378)]; exact g407
  have g447 : f413 q267 = some (.inl (k 1, 520, .inl (fun _ => 0))) := by rw [e414, hm_up_n ((hm_ne0 g271 z270).symm)]; exact g446
  have g448 : f376 q301 = some (.inl (k 0, 120, .inl (fun _ => 0))) := by rw [e377, hm_up_n (hm_ne0 g409 z378)]; exact g409
  have g449 : f413 q301 = some (.inl (k 0, 120, .inl (fun _ => 0))) := by rw [e414, hm_up_n ((hm_ne0 g305 z304).symm)]; exact g448
  have g450 : f376 q337 = some (.inl (k 0, 120, .inl (fun _ => 0))) := by rw [e377, hm_up_n (hm_ne0 g410 z378)]; exact g410
  have g451 : f413 q337 = some (.inl (k 0, 120, .inl (fun _ => 0))) := by rw [e414, hm_up_n ((hm_ne0 g341 z340).symm)]; exact g450
  have g452 : f413 q375 = some (.inl (k 0, 130, .inl (fun _ => 0))) := by rw [e414, hm_up_n ((hm_ne0 g379 z378).symm)]; exact g411
  refine hm_newa (atype := .int) (ty := .int) X hK hM hS hA rfl wa_0 0 rfl (N' := 5) (a0 := (5, .inl (fun _ => 0))) (fun _ => rfl) (by decide) (by decide) (by decide) (by decide) (by decide) d_GrantServerModel_init_148 (fun q415 f416 H e417 z418 hM hS => ?_)
  have hnd := hm_nd_new hnd hpr z418; have hpr := hm_pr_new hpr e417
  have g453 : f416 q415 = some (.inl (k 0, 5, .inl (fun _ => 0))) := hm_new1 e417
  have g454 : f416 h = some (.inr (8, [.long 0, .int 0, .int 0, .int 0, .int 0, .ref q1, .ref q9, .ref q19, .int 0, .int (-1), .ref q34, .ref q51, .ref q67, .ref q85, .ref q105, .ref q127, .ref q151, .ref q177, .int 0, .ref q205, .ref q235, .ref q267, .int 0, .ref q301, .int 0, .ref q337, .int 0, .ref q375, .int 0, .int 0, .null])) := by rw [e417, hm_up_n (hm_ne0 g419 z418)]; exact g419
  refine hm_putF X hK hM hS (fs' := [.long 0, .int 0, .int 0, .int 0, .int 0, .ref q1, .ref q9, .ref q19, .int 0, .int (-1), .ref q34, .ref q51, .ref q67, .ref q85, .ref q105, .ref q127, .ref q151, .ref q177, .int 0, .ref q205, .ref q235, .ref q267, .int 0, .ref q301, .int 0, .ref q337, .int 0, .ref q375, .int 0, .int 0, .ref q415]) g454 fF_GrantServerModel_66 hin rfl rfl (Nat.le_of_ble_eq_true rfl) rfl d_GrantServerModel_init_150 (fun f455 H locs e456 hM hS => ?_)
  have hpr := hm_pr_up hpr e456
  refine lv_aload_n hx hb d_GrantServerModel_init_153 rfl (lv_at hl 0 rfl) ?_
  refine lv_iload_n hx hb d_GrantServerModel_init_154 rfl (lv_at hl 1 rfl) ?_
  refine lv_i2l hx hb d_GrantServerModel_init_155 rfl ?_
  have g457 : f455 h = some (.inr (8, [.long 0, .int 0, .int 0, .int 0, .int 0, .ref q1, .ref q9, .ref q19, .int 0, .int (-1), .ref q34, .ref q51, .ref q67, .ref q85, .ref q105, .ref q127, .ref q151, .ref q177, .int 0, .ref q205, .ref q235, .ref q267, .int 0, .ref q301, .int 0, .ref q337, .int 0, .ref q375, .int 0, .int 0, .ref q415])) := by rw [e456, hm_up_s]
  refine hm_putF X hK hM hS (fs' := [.long a.toInt64, .int 0, .int 0, .int 0, .int 0, .ref q1, .ref q9, .ref q19, .int 0, .int (-1), .ref q34, .ref q51, .ref q67, .ref q85, .ref q105, .ref q127, .ref q151, .ref q177, .int 0, .ref q205, .ref q235, .ref q267, .int 0, .ref q301, .int 0, .ref q337, .int 0, .ref q375, .int 0, .int 0, .ref q415]) g457 fF_GrantServerModel_69 hin rfl rfl (Nat.le_of_ble_eq_true rfl) rfl d_GrantServerModel_init_156 (fun f458 H locs e459 hM hS => ?_)
  have hpr := hm_pr_up hpr e459
  refine lv_aload_n hx hb d_GrantServerModel_init_159 rfl (lv_at hl 0 rfl) ?_
  refine lv_iload_n hx hb d_GrantServerModel_init_160 rfl (lv_at hl 2 rfl) ?_
  refine hm_calli hS hM hA (va_runS (As := [.int b]) (rest := [.ref h]) X (m_c_within l D k f458 b  H.size) (hm_cwS hts me_GrantServerModel_within wl_GrantServerModel_73 rfl rfl ⟨Nat.le_of_ble_eq_true rfl, Nat.le_of_ble_eq_true rfl⟩) (hm_preS hM hK) rfl rfl hl.1 rfl (lv_room (Nat.le_of_ble_eq_true rfl)) d_GrantServerModel_init_161 ⟨Nat.le_of_ble_eq_true rfl, Nat.le_of_ble_eq_true rfl⟩) (fun r462 f460 H locs p461 hM hS => ?_)
  obtain ⟨rfl, rfl⟩ := p461
  have g463 : f458 h = some (.inr (8, [.long a.toInt64, .int 0, .int 0, .int 0, .int 0, .ref q1, .ref q9, .ref q19, .int 0, .int (-1), .ref q34, .ref q51, .ref q67, .ref q85, .ref q105, .ref q127, .ref q151, .ref q177, .int 0, .ref q205, .ref q235, .ref q267, .int 0, .ref q301, .int 0, .ref q337, .int 0, .ref q375, .int 0, .int 0, .ref q415])) := by rw [e459, hm_up_s]
  refine hm_putF X hK hM hS (fs' := [.long a.toInt64, .int (m_kept b), .int 0, .int 0, .int 0, .ref q1, .ref q9, .ref q19, .int 0, .int (-1), .ref q34, .ref q51, .ref q67, .ref q85, .ref q105, .ref q127, .ref q151, .ref q177, .int 0, .ref q205, .ref q235, .ref q267, .int 0, .ref q301, .int 0, .ref q337, .int 0, .ref q375, .int 0, .int 0, .ref q415]) g463 fF_GrantServerModel_77 hin rfl rfl (Nat.le_of_ble_eq_true rfl) rfl d_GrantServerModel_init_164 (fun f464 H locs e465 hM hS => ?_)
  have hpr := hm_pr_up hpr e465
  refine lv_aload_n hx hb d_GrantServerModel_init_167 rfl (lv_at hl 0 rfl) ?_
  refine lv_iload_n hx hb d_GrantServerModel_init_168 rfl (lv_at hl 3 rfl) ?_
  refine hm_calli hS hM hA (va_runS (As := [.int d]) (rest := [.ref h]) X (m_c_within l D k f464 d  H.size) (hm_cwS hts me_GrantServerModel_within wl_GrantServerModel_73 rfl rfl ⟨Nat.le_of_ble_eq_true rfl, Nat.le_of_ble_eq_true rfl⟩) (hm_preS hM hK) rfl rfl hl.1 rfl (lv_room (Nat.le_of_ble_eq_true rfl)) d_GrantServerModel_init_169 ⟨Nat.le_of_ble_eq_true rfl, Nat.le_of_ble_eq_true rfl⟩) (fun r468 f466 H locs p467 hM hS => ?_)
  obtain ⟨rfl, rfl⟩ := p467
  have g469 : f464 h = some (.inr (8, [.long a.toInt64, .int (m_kept b), .int 0, .int 0, .int 0, .ref q1, .ref q9, .ref q19, .int 0, .int (-1), .ref q34, .ref q51, .ref q67, .ref q85, .ref q105, .ref q127, .ref q151, .ref q177, .int 0, .ref q205, .ref q235, .ref q267, .int 0, .ref q301, .int 0, .ref q337, .int 0, .ref q375, .int 0, .int 0, .ref q415])) := by rw [e465, hm_up_s]
  refine hm_putF X hK hM hS (fs' := [.long a.toInt64, .int (m_kept b), .int (m_kept d), .int 0, .int 0, .ref q1, .ref q9, .ref q19, .int 0, .int (-1), .ref q34, .ref q51, .ref q67, .ref q85, .ref q105, .ref q127, .ref q151, .ref q177, .int 0, .ref q205, .ref q235, .ref q267, .int 0, .ref q301, .int 0, .ref q337, .int 0, .ref q375, .int 0, .int 0, .ref q415]) g469 fF_GrantServerModel_80 hin rfl rfl (Nat.le_of_ble_eq_true rfl) rfl d_GrantServerModel_init_172 (fun f470 H locs e471 hM hS => ?_)
  have hpr := hm_pr_up hpr e471
  refine lv_aload_n hx hb d_GrantServerModel_init_175 rfl (lv_at hl 0 rfl) ?_
  refine lv_iload hx hb d_GrantServerModel_init_176 (lv_at hl 4 rfl) ?_
  refine hm_calli hS hM hA (va_runS (As := [.int g]) (rest := [.ref h]) X (m_c_within l D k f470 g  H.size) (hm_cwS hts me_GrantServerModel_within wl_GrantServerModel_73 rfl rfl ⟨Nat.le_of_ble_eq_true rfl, Nat.le_of_ble_eq_true rfl⟩) (hm_preS hM hK) rfl rfl hl.1 rfl (lv_room (Nat.le_of_ble_eq_true rfl)) d_GrantServerModel_init_178 ⟨Nat.le_of_ble_eq_true rfl, Nat.le_of_ble_eq_true rfl⟩) (fun r474 f472 H locs p473 hM hS => ?_)
  obtain ⟨rfl, rfl⟩ := p473
  have g475 : f470 h = some (.inr (8, [.long a.toInt64, .int (m_kept b), .int (m_kept d), .int 0, .int 0, .ref q1, .ref q9, .ref q19, .int 0, .int (-1), .ref q34, .ref q51, .ref q67, .ref q85, .ref q105, .ref q127, .ref q151, .ref q177, .int 0, .ref q205, .ref q235, .ref q267, .int 0, .ref q301, .int 0, .ref q337, .int 0, .ref q375, .int 0, .int 0, .ref q415])) := by rw [e471, hm_up_s]
  refine hm_putF X hK hM hS (fs' := [.long a.toInt64, .int (m_kept b), .int (m_kept d), .int (m_kept g), .int 0, .ref q1, .ref q9, .ref q19, .int 0, .int (-1), .ref q34, .ref q51, .ref q67, .ref q85, .ref q105, .ref q127, .ref q151, .ref q177, .int 0, .ref q205, .ref q235, .ref q267, .int 0, .ref q301, .int 0, .ref q337, .int 0, .ref q375, .int 0, .int 0, .ref q415]) g475 fF_GrantServerModel_83 hin rfl rfl (Nat.le_of_ble_eq_true rfl) rfl d_GrantServerModel_init_181 (fun f476 H locs e477 hM hS => ?_)
  have hpr := hm_pr_up hpr e477
  have g478 : f476 h = some (.inr (8, [.long a.toInt64, .int (m_kept b), .int (m_kept d), .int (m_kept g), .int 0, .ref q1, .ref q9, .ref q19, .int 0, .int (-1), .ref q34, .ref q51, .ref q67, .ref q85, .ref q105, .ref q127, .ref q151, .ref q177, .int 0, .ref q205, .ref q235, .ref q267, .int 0, .ref q301, .int 0, .ref q337, .int 0, .ref q375, .int 0, .int 0, .ref q415])) := by rw [e477, hm_up_s]
  have g479 : f416 q1 = some (.inl (k 0, 4, .inl (fun _ => 0))) := by rw [e417, hm_up_n (hm_ne0 g421 z418)]; exact g421
  have g480 : f455 q1 = some (.inl (k 0, 4, .inl (fun _ => 0))) := by rw [e456, hm_up_n ((hm_ne0 hh z4).symm)]; exact g479
  have g481 : f458 q1 = some (.inl (k 0, 4, .inl (fun _ => 0))) := by rw [e459, hm_up_n ((hm_ne0 hh z4).symm)]; exact g480
  have g482 : f464 q1 = some (.inl (k 0, 4, .inl (fun _ => 0))) := by rw [e465, hm_up_n ((hm_ne0 hh z4).symm)]; exact g481
  have g483 : f470 q1 = some (.inl (k 0, 4, .inl (fun _ => 0))) := by rw [e471, hm_up_n ((hm_ne0 hh z4).symm)]; exact g482
  have g484 : f476 q1 = some (.inl (k 0, 4, .inl (fun _ => 0))) := by rw [e477, hm_up_n ((hm_ne0 hh z4).symm)]; exact g483
  have g485 : f416 q9 = some (.inl (k 0, 4, .inl (fun _ => 0))) := by rw [e417, hm_up_n (hm_ne0 g423 z418)]; exact g423
  have g486 : f455 q9 = some (.inl (k 0, 4, .inl (fun _ => 0))) := by rw [e456, hm_up_n ((hm_ne0 g13 z12).symm)]; exact g485
  have g487 : f458 q9 = some (.inl (k 0, 4, .inl (fun _ => 0))) := by rw [e459, hm_up_n ((hm_ne0 g13 z12).symm)]; exact g486
  have g488 : f464 q9 = some (.inl (k 0, 4, .inl (fun _ => 0))) := by rw [e465, hm_up_n ((hm_ne0 g13 z12).symm)]; exact g487
  have g489 : f470 q9 = some (.inl (k 0, 4, .inl (fun _ => 0))) := by rw [e471, hm_up_n ((hm_ne0 g13 z12).symm)]; exact g488
  have g490 : f476 q9 = some (.inl (k 0, 4, .inl (fun _ => 0))) := by rw [e477, hm_up_n ((hm_ne0 g13 z12).symm)]; exact g489
  have g491 : f416 q19 = some (.inl (k 0, 4, .inl (fun _ => 0))) := by rw [e417, hm_up_n (hm_ne0 g425 z418)]; exact g425
  have g492 : f455 q19 = some (.inl (k 0, 4, .inl (fun _ => 0))) := by rw [e456, hm_up_n ((hm_ne0 g23 z22).symm)]; exact g491
  have g493 : f458 q19 = some (.inl (k 0, 4, .inl (fun _ => 0))) := by rw [e459, hm_up_n ((hm_ne0 g23 z22).symm)]; exact g492
  have g494 : f464 q19 = some (.inl (k 0, 4, .inl (fun _ => 0))) := by rw [e465, hm_up_n ((hm_ne0 g23 z22).symm)]; exact g493
  have g495 : f470 q19 = some (.inl (k 0, 4, .inl (fun _ => 0))) := by rw [e471, hm_up_n ((hm_ne0 g23 z22).symm)]; exact g494
  have g496 : f476 q19 = some (.inl (k 0, 4, .inl (fun _ => 0))) := by rw [e477, hm_up_n ((hm_ne0 g23 z22).symm)]; exact g495
  have g497 : f416 q34 = some (.inl (k 0, 64, .inl (fun _ => 0))) := by rw [e417, hm_up_n (hm_ne0 g427 z418)]; exact g427
  have g498 : f455 q34 = some (.inl (k 0, 64, .inl (fun _ => 0))) := by rw [e456, hm_up_n ((hm_ne0 g38 z37).symm)]; exact g497
  have g499 : f458 q34 = some (.inl (k 0, 64, .inl (fun _ => 0))) := by rw [e459, hm_up_n ((hm_ne0 g38 z37).symm)]; exact g498
  have g500 : f464 q34 = some (.inl (k 0, 64, .inl (fun _ => 0))) := by rw [e465, hm_up_n ((hm_ne0 g38 z37).symm)]; exact g499
  have g501 : f470 q34 = some (.inl (k 0, 64, .inl (fun _ => 0))) := by rw [e471, hm_up_n ((hm_ne0 g38 z37).symm)]; exact g500
  have g502 : f476 q34 = some (.inl (k 0, 64, .inl (fun _ => 0))) := by rw [e477, hm_up_n ((hm_ne0 g38 z37).symm)]; exact g501
  have g503 : f416 q51 = some (.inl (k 0, 64, .inl (fun _ => 0))) := by rw [e417, hm_up_n (hm_ne0 g429 z418)]; exact g429
  have g504 : f455 q51 = some (.inl (k 0, 64, .inl (fun _ => 0))) := by rw [e456, hm_up_n ((hm_ne0 g55 z54).symm)]; exact g503
  have g505 : f458 q51 = some (.inl (k 0, 64, .inl (fun _ => 0))) := by rw [e459, hm_up_n ((hm_ne0 g55 z54).symm)]; exact g504
  have g506 : f464 q51 = some (.inl (k 0, 64, .inl (fun _ => 0))) := by rw [e465, hm_up_n ((hm_ne0 g55 z54).symm)]; exact g505
  have g507 : f470 q51 = some (.inl (k 0, 64, .inl (fun _ => 0))) := by rw [e471, hm_up_n ((hm_ne0 g55 z54).symm)]; exact g506
  have g508 : f476 q51 = some (.inl (k 0, 64, .inl (fun _ => 0))) := by rw [e477, hm_up_n ((hm_ne0 g55 z54).symm)]; exact g507
  have g509 : f416 q67 = some (.inl (k 0, 64, .inl (fun _ => 0))) := by rw [e417, hm_up_n (hm_ne0 g431 z418)]; exact g431
  have g510 : f455 q67 = some (.inl (k 0, 64, .inl (fun _ => 0))) := by rw [e456, hm_up_n ((hm_ne0 g71 z70).symm)]; exact g509
  have g511 : f458 q67 = some (.inl (k 0, 64, .inl (fun _ => 0))) := by rw [e459, hm_up_n ((hm_ne0 g71 z70).symm)]; exact g510
  have g512 : f464 q67 = some (.inl (k 0, 64, .inl (fun _ => 0))) := by rw [e465, hm_up_n ((hm_ne0 g71 z70).symm)]; exact g511
  have g513 : f470 q67 = some (.inl (k 0, 64, .inl (fun _ => 0))) := by rw [e471, hm_up_n ((hm_ne0 g71 z70).symm)]; exact g512
  have g514 : f476 q67 = some (.inl (k 0, 64, .inl (fun _ => 0))) := by rw [e477, hm_up_n ((hm_ne0 g71 z70).symm)]; exact g513
  have g515 : f416 q85 = some (.inl (k 0, 64, .inl (fun _ => 0))) := by rw [e417, hm_up_n (hm_ne0 g433 z418)]; exact g433
  have g516 : f455 q85 = some (.inl (k 0, 64, .inl (fun _ => 0))) := by rw [e456, hm_up_n ((hm_ne0 g89 z88).symm)]; exact g515
  have g517 : f458 q85 = some (.inl (k 0, 64, .inl (fun _ => 0))) := by rw [e459, hm_up_n ((hm_ne0 g89 z88).symm)]; exact g516
  have g518 : f464 q85 = some (.inl (k 0, 64, .inl (fun _ => 0))) := by rw [e465, hm_up_n ((hm_ne0 g89 z88).symm)]; exact g517
  have g519 : f470 q85 = some (.inl (k 0, 64, .inl (fun _ => 0))) := by rw [e471, hm_up_n ((hm_ne0 g89 z88).symm)]; exact g518
  have g520 : f476 q85 = some (.inl (k 0, 64, .inl (fun _ => 0))) := by rw [e477, hm_up_n ((hm_ne0 g89 z88).symm)]; exact g519
  have g521 : f416 q105 = some (.inl (k 1, 64, .inl (fun _ => 0))) := by rw [e417, hm_up_n (hm_ne0 g435 z418)]; exact g435
  have g522 : f455 q105 = some (.inl (k 1, 64, .inl (fun _ => 0))) := by rw [e456, hm_up_n ((hm_ne0 g109 z108).symm)]; exact g521
  have g523 : f458 q105 = some (.inl (k 1, 64, .inl (fun _ => 0))) := by rw [e459, hm_up_n ((hm_ne0 g109 z108).symm)]; exact g522
  have g524 : f464 q105 = some (.inl (k 1, 64, .inl (fun _ => 0))) := by rw [e465, hm_up_n ((hm_ne0 g109 z108).symm)]; exact g523
  have g525 : f470 q105 = some (.inl (k 1, 64, .inl (fun _ => 0))) := by rw [e471, hm_up_n ((hm_ne0 g109 z108).symm)]; exact g524
  have g526 : f476 q105 = some (.inl (k 1, 64, .inl (fun _ => 0))) := by rw [e477, hm_up_n ((hm_ne0 g109 z108).symm)]; exact g525
  have g527 : f416 q127 = some (.inl (k 0, 64, .inl (fun _ => 0))) := by rw [e417, hm_up_n (hm_ne0 g437 z418)]; exact g437
  have g528 : f455 q127 = some (.inl (k 0, 64, .inl (fun _ => 0))) := by rw [e456, hm_up_n ((hm_ne0 g131 z130).symm)]; exact g527
  have g529 : f458 q127 = some (.inl (k 0, 64, .inl (fun _ => 0))) := by rw [e459, hm_up_n ((hm_ne0 g131 z130).symm)]; exact g528
  have g530 : f464 q127 = some (.inl (k 0, 64, .inl (fun _ => 0))) := by rw [e465, hm_up_n ((hm_ne0 g131 z130).symm)]; exact g529
  have g531 : f470 q127 = some (.inl (k 0, 64, .inl (fun _ => 0))) := by rw [e471, hm_up_n ((hm_ne0 g131 z130).symm)]; exact g530
  have g532 : f476 q127 = some (.inl (k 0, 64, .inl (fun _ => 0))) := by rw [e477, hm_up_n ((hm_ne0 g131 z130).symm)]; exact g531
  have g533 : f416 q151 = some (.inl (k 0, 16, .inl (fun _ => 0))) := by rw [e417, hm_up_n (hm_ne0 g439 z418)]; exact g439
  have g534 : f455 q151 = some (.inl (k 0, 16, .inl (fun _ => 0))) := by rw [e456, hm_up_n ((hm_ne0 g155 z154).symm)]; exact g533
  have g535 : f458 q151 = some (.inl (k 0, 16, .inl (fun _ => 0))) := by rw [e459, hm_up_n ((hm_ne0 g155 z154).symm)]; exact g534
  have g536 : f464 q151 = some (.inl (k 0, 16, .inl (fun _ => 0))) := by rw [e465, hm_up_n ((hm_ne0 g155 z154).symm)]; exact g535
  have g537 : f470 q151 = some (.inl (k 0, 16, .inl (fun _ => 0))) := by rw [e471, hm_up_n ((hm_ne0 g155 z154).symm)]; exact g536
  have g538 : f476 q151 = some (.inl (k 0, 16, .inl (fun _ => 0))) := by rw [e477, hm_up_n ((hm_ne0 g155 z154).symm)]; exact g537
  have g539 : f416 q177 = some (.inl (k 0, 16, .inl (fun _ => 0))) := by rw [e417, hm_up_n (hm_ne0 g441 z418)]; exact g441
  have g540 : f455 q177 = some (.inl (k 0, 16, .inl (fun _ => 0))) := by rw [e456, hm_up_n ((hm_ne0 g181 z180).symm)]; exact g539
  have g541 : f458 q177 = some (.inl (k 0, 16, .inl (fun _ => 0))) := by rw [e459, hm_up_n ((hm_ne0 g181 z180).symm)]; exact g540
  have g542 : f464 q177 = some (.inl (k 0, 16, .inl (fun _ => 0))) := by rw [e465, hm_up_n ((hm_ne0 g181 z180).symm)]; exact g541
  have g543 : f470 q177 = some (.inl (k 0, 16, .inl (fun _ => 0))) := by rw [e471, hm_up_n ((hm_ne0 g181 z180).symm)]; exact g542
  have g544 : f476 q177 = some (.inl (k 0, 16, .inl (fun _ => 0))) := by rw [e477, hm_up_n ((hm_ne0 g181 z180).symm)]; exact g543
  have g545 : f416 q205 = some (.inl (k 0, 520, .inl (fun _ => 0))) := by rw [e417, hm_up_n (hm_ne0 g443 z418)]; exact g443
  have g546 : f455 q205 = some (.inl (k 0, 520, .inl (fun _ => 0))) := by rw [e456, hm_up_n ((hm_ne0 g209 z208).symm)]; exact g545
  have g547 : f458 q205 = some (.inl (k 0, 520, .inl (fun _ => 0))) := by rw [e459, hm_up_n ((hm_ne0 g209 z208).symm)]; exact g546
  have g548 : f464 q205 = some (.inl (k 0, 520, .inl (fun _ => 0))) := by rw [e465, hm_up_n ((hm_ne0 g209 z208).symm)]; exact g547
  have g549 : f470 q205 = some (.inl (k 0, 520, .inl (fun _ => 0))) := by rw [e471, hm_up_n ((hm_ne0 g209 z208).symm)]; exact g548
  have g550 : f476 q205 = some (.inl (k 0, 520, .inl (fun _ => 0))) := by rw [e477, hm_up_n ((hm_ne0 g209 z208).symm)]; exact g549
  have g551 : f416 q235 = some (.inl (k 0, 520, .inl (fun _ => 0))) := by rw [e417, hm_up_n (hm_ne0 g445 z418)]; exact g445
  have g552 : f455 q235 = some (.inl (k 0, 520, .inl (fun _ => 0))) := by rw [e456, hm_up_n ((hm_ne0 g239 z238).symm)]; exact g551
  have g553 : f458 q235 = some (.inl (k 0, 520, .inl (fun _ => 0))) := by rw [e459, hm_up_n ((hm_ne0 g239 z238).symm)]; exact g552
  have g554 : f464 q235 = some (.inl (k 0, 520, .inl (fun _ => 0))) := by rw [e465, hm_up_n ((hm_ne0 g239 z238).symm)]; exact g553
  have g555 : f470 q235 = some (.inl (k 0, 520, .inl (fun _ => 0))) := by rw [e471, hm_up_n ((hm_ne0 g239 z238).symm)]; exact g554
  have g556 : f476 q235 = some (.inl (k 0, 520, .inl (fun _ => 0))) := by rw [e477, hm_up_n ((hm_ne0 g239 z238).symm)]; exact g555
  have g557 : f416 q267 = some (.inl (k 1, 520, .inl (fun _ => 0))) := by rw [e417, hm_up_n (hm_ne0 g447 z418)]; exact g447
  have g558 : f455 q267 = some (.inl (k 1, 520, .inl (fun _ => 0))) := by rw [e456, hm_up_n ((hm_ne0 g271 z270).symm)]; exact g557
  have g559 : f458 q267 = some (.inl (k 1, 520, .inl (fun _ => 0))) := by rw [e459, hm_up_n ((hm_ne0 g271 z270).symm)]; exact g558
  have g560 : f464 q267 = some (.inl (k 1, 520, .inl (fun _ => 0))) := by rw [e465, hm_up_n ((hm_ne0 g271 z270).symm)]; exact g559
  have g561 : f470 q267 = some (.inl (k 1, 520, .inl (fun _ => 0))) := by rw [e471, hm_up_n ((hm_ne0 g271 z270).symm)]; exact g560
  have g562 : f476 q267 = some (.inl (k 1, 520, .inl (fun _ => 0))) := by rw [e477, hm_up_n ((hm_ne0 g271 z270).symm)]; exact g561
  have g563 : f416 q301 = some (.inl (k 0, 120, .inl (fun _ => 0))) := by rw [e417, hm_up_n (hm_ne0 g449 z418)]; exact g449
  have g564 : f455 q301 = some (.inl (k 0, 120, .inl (fun _ => 0))) := by rw [e456, hm_up_n ((hm_ne0 g305 z304).symm)]; exact g563
  have g565 : f458 q301 = some (.inl (k 0, 120, .inl (fun _ => 0))) := by rw [e459, hm_up_n ((hm_ne0 g305 z304).symm)]; exact g564
  have g566 : f464 q301 = some (.inl (k 0, 120, .inl (fun _ => 0))) := by rw [e465, hm_up_n ((hm_ne0 g305 z304).symm)]; exact g565
  have g567 : f470 q301 = some (.inl (k 0, 120, .inl (fun _ => 0))) := by rw [e471, hm_up_n ((hm_ne0 g305 z304).symm)]; exact g566
  have g568 : f476 q301 = some (.inl (k 0, 120, .inl (fun _ => 0))) := by rw [e477, hm_up_n ((hm_ne0 g305 z304).symm)]; exact g567
  have g569 : f416 q337 = some (.inl (k 0, 120, .inl (fun _ => 0))) := by rw [e417, hm_up_n (hm_ne0 g451 z418)]; exact g451
  have g570 : f455 q337 = some (.inl (k 0, 120, .inl (fun _ => 0))) := by rw [e456, hm_up_n ((hm_ne0 g341 z340).symm)]; exact g569
  have g571 : f458 q337 = some (.inl (k 0, 120, .inl (fun _ => 0))) := by rw [e459, hm_up_n ((hm_ne0 g341 z340).symm)]; exact g570
  have g572 : f464 q337 = some (.inl (k 0, 120, .inl (fun _ => 0))) := by rw [e465, hm_up_n ((hm_ne0 g341 z340).symm)]; exact g571
  have g573 : f470 q337 = some (.inl (k 0, 120, .inl (fun _ => 0))) := by rw [e471, hm_up_n ((hm_ne0 g341 z340).symm)]; exact g572
  have g574 : f476 q337 = some (.inl (k 0, 120, .inl (fun _ => 0))) := by rw [e477, hm_up_n ((hm_ne0 g341 z340).symm)]; exact g573
  have g575 : f416 q375 = some (.inl (k 0, 130, .inl (fun _ => 0))) := by rw [e417, hm_up_n (hm_ne0 g452 z418)]; exact g452
  have g576 : f455 q375 = some (.inl (k 0, 130, .inl (fun _ => 0))) := by rw [e456, hm_up_n ((hm_ne0 g379 z378).symm)]; exact g575
  have g577 : f458 q375 = some (.inl (k 0, 130, .inl (fun _ => 0))) := by rw [e459, hm_up_n ((hm_ne0 g379 z378).symm)]; exact g576
  have g578 : f464 q375 = some (.inl (k 0, 130, .inl (fun _ => 0))) := by rw [e465, hm_up_n ((hm_ne0 g379 z378).symm)]; exact g577
  have g579 : f470 q375 = some (.inl (k 0, 130, .inl (fun _ => 0))) := by rw [e471, hm_up_n ((hm_ne0 g379 z378).symm)]; exact g578
  have g580 : f476 q375 = some (.inl (k 0, 130, .inl (fun _ => 0))) := by rw [e477, hm_up_n ((hm_ne0 g379 z378).symm)]; exact g579
  have g581 : f455 q415 = some (.inl (k 0, 5, .inl (fun _ => 0))) := by rw [e456, hm_up_n ((hm_ne0 g419 z418).symm)]; exact g453
  have g582 : f458 q415 = some (.inl (k 0, 5, .inl (fun _ => 0))) := by rw [e459, hm_up_n ((hm_ne0 g419 z418).symm)]; exact g581
  have g583 : f464 q415 = some (.inl (k 0, 5, .inl (fun _ => 0))) := by rw [e465, hm_up_n ((hm_ne0 g419 z418).symm)]; exact g582
  have g584 : f470 q415 = some (.inl (k 0, 5, .inl (fun _ => 0))) := by rw [e471, hm_up_n ((hm_ne0 g419 z418).symm)]; exact g583
  have g585 : f476 q415 = some (.inl (k 0, 5, .inl (fun _ => 0))) := by rw [e477, hm_up_n ((hm_ne0 g419 z418).symm)]; exact g584
  have har : ∀ i, i < 31 → 0 < mo_n i → f476 (([q415, q375, q337, q301, q267, q235, q205, q177, q151, q127, q105, q85, q67, q51, q34, q19, q9, q1] : List Nat).getD (mo_p i) 0) = some (.inl (k (mo_t i), mo_n i, .inl (fun _ => 0))) := fun i hi hn => match i, hi, hn with | 0, _, h9 => absurd h9 (by decide) | 1, _, h9 => absurd h9 (by decide) | 2, _, h9 => absurd h9 (by decide) | 3, _, h9 => absurd h9 (by decide) | 4, _, h9 => absurd h9 (by decide) | 5, _, h9 => g484 | 6, _, h9 => g490 | 7, _, h9 => g496 | 8, _, h9 => absurd h9 (by decide) | 9, _, h9 => absurd h9 (by decide) | 10, _, h9 => g502 | 11, _, h9 => g508 | 12, _, h9 => g514 | 13, _, h9 => g520 | 14, _, h9 => g526 | 15, _, h9 => g532 | 16, _, h9 => g538 | 17, _, h9 => g544 | 18, _, h9 => absurd h9 (by decide) | 19, _, h9 => g550 | 20, _, h9 => g556 | 21, _, h9 => g562 | 22, _, h9 => absurd h9 (by decide) | 23, _, h9 => g568 | 24, _, h9 => absurd h9 (by decide) | 25, _, h9 => g574 | 26, _, h9 => absurd h9 (by decide) | 27, _, h9 => g580 | 28, _, h9 => absurd h9 (by decide) | 29, _, h9 => absurd h9 (by decide) | 30, _, h9 => g585 | n + 31, h9, _ => absurd h9 (by omega)
  have hno : ∀ i, i < 31 → 0 < mo_n i → f (([q415, q375, q337, q301, q267, q235, q205, q177, q151, q127, q105, q85, q67, q51, q34, q19, q9, q1] : List Nat).getD (mo_p i) 0) = none := fun i hi hn => match i, hi, hn with | 0, _, h9 => absurd h9 (by decide) | 1, _, h9 => absurd h9 (by decide) | 2, _, h9 => absurd h9 (by decide) | 3, _, h9 => absurd h9 (by decide) | 4, _, h9 => absurd h9 (by decide) | 5, _, h9 => z4 | 6, _, h9 => (hm_none e3 (hm_none e8 z12)) | 7, _, h9 => (hm_none e3 (hm_none e8 (hm_none e11 (hm_none e18 z22)))) | 8, _, h9 => absurd h9 (by decide) | 9, _, h9 => absurd h9 (by decide) | 10, _, h9 => (hm_none e3 (hm_none e8 (hm_none e11 (hm_none e18 (hm_none e21 (hm_none e30 (hm_none e33 z37))))))) | 11, _, h9 => (hm_none e3 (hm_none e8 (hm_none e11 (hm_none e18 (hm_none e21 (hm_none e30 (hm_none e33 (hm_none e36 (hm_none e50 z54))))))))) | 12, _, h9 => (hm_none e3 (hm_none e8 (hm_none e11 (hm_none e18 (hm_none e21 (hm_none e30 (hm_none e33 (hm_none e36 (hm_none e50 (hm_none e53 (hm_none e66 z70))))))))))) | 13, _, h9 => (hm_none e3 (hm_none e8 (hm_none e11 (hm_none e18 (hm_none e21 (hm_none e30 (hm_none e33 (hm_none e36 (hm_none e50 (hm_none e53 (hm_none e66 (hm_none e69 (hm_none e84 z88))))))))))))) | 14, _, h9 => (hm_none e3 (hm_none e8 (hm_none e11 (hm_none e18 (hm_none e21 (hm_none e30 (hm_none e33 (hm_none e36 (hm_none e50 (hm_none e53 (hm_none e66 (hm_none e69 (hm_none e84 (hm_none e87 (hm_none e104 z108))))))))))))))) | 15, _, h9 => (hm_none e3 (hm_none e8 (hm_none e11 (hm_none e18 (hm_none e21 (hm_none e30 (hm_none e33 (hm_none e36 (hm_none e50 (hm_none e53 (hm_none e66 (hm_none e69 (hm_none e84 (hm_none e87 (hm_none e104 (hm_none e107 (hm_none e126 z130))))))))))))))))) | 16, _, h9 => (hm_none e3 (hm_none e8 (hm_none e11 (hm_none e18 (hm_none e21 (hm_none e30 (hm_none e33 (hm_none e36 (hm_none e50 (hm_none e53 (hm_none e66 (hm_none e69 (hm_none e84 (hm_none e87 (hm_none e104 (hm_none e107 (hm_none e126 (hm_none e129 (hm_none e150 z154))))))))))))))))))) | 17, _, h9 => (hm_none e3 (hm_none e8 (hm_none e11 (hm_none e18 (hm_none e21 (hm_none e30 (hm_none e33 (hm_none e36 (hm_none e50 (hm_none e53 (hm_none e66 (hm_none e69 (hm_none e84 (hm_none e87 (hm_none e104 (hm_none e107 (hm_none e126 (hm_none e129 (hm_none e150 (hm_none e153 (hm_none e176 z180))))))))))))))))))))) | 18, _, h9 => absurd h9 (by decide) | 19, _, h9 => (hm_none e3 (hm_none e8 (hm_none e11 (hm_none e18 (hm_none e21 (hm_none e30 (hm_none e33 (hm_none e36 (hm_none e50 (hm_none e53 (hm_none e66 (hm_none e69 (hm_none e84 (hm_none e87 (hm_none e104 (hm_none e107 (hm_none e126 (hm_none e129 (hm_none e150 (hm_none e153 (hm_none e176 (hm_none e179 (hm_none e204 z208))))))))))))))))))))))) | 20, _, h9 => (hm_none e3 (hm_none e8 (hm_none e11 (hm_none e18 (hm_none e21 (hm_none e30 (hm_none e33 (hm_none e36 (hm_none e50 (hm_none e53 (hm_none e66 (hm_none e69 (hm_none e84 (hm_none e87 (hm_none e104 (hm_none e107 (hm_none e126 (hm_none e129 (hm_none e150 (hm_none e153 (hm_none e176 (hm_none e179 (hm_none e204 (hm_none e207 (hm_none e234 z238))))))))))))))))))))))))) | 21, _, h9 => (hm_none e3 (hm_none e8 (hm_none e11 (hm_none e18 (hm_none e21 (hm_none e30 (hm_none e33 (hm_none e36 (hm_none e50 (hm_none e53 (hm_none e66 (hm_none e69 (hm_none e84 (hm_none e87 (hm_none e104 (hm_none e107 (hm_none e126 (hm_none e129 (hm_none e150 (hm_none e153 (hm_none e176 (hm_none e179 (hm_none e204 (hm_none e207 (hm_none e234 (hm_none e237 (hm_none e266 z270))))))))))))))))))))))))))) | 22, _, h9 => absurd h9 (by decide) | 23, _, h9 => (hm_none e3 (hm_none e8 (hm_none e11 (hm_none e18 (hm_none e21 (hm_none e30 (hm_none e33 (hm_none e36 (hm_none e50 (hm_none e53 (hm_none e66 (hm_none e69 (hm_none e84 (hm_none e87 (hm_none e104 (hm_none e107 (hm_none e126 (hm_none e129 (hm_none e150 (hm_none e153 (hm_none e176 (hm_none e179 (hm_none e204 (hm_none e207 (hm_none e234 (hm_none e237 (hm_none e266 (hm_none e269 (hm_none e300 z304))))))))))))))))))))))))))))) | 24, _, h9 => absurd h9 (by decide) | 25, _, h9 => (hm_none e3 (hm_none e8 (hm_none e11 (hm_none e18 (hm_none e21 (hm_none e30 (hm_none e33 (hm_none e36 (hm_none e50 (hm_none e53 (hm_none e66 (hm_none e69 (hm_none e84 (hm_none e87 (hm_none e104 (hm_none e107 (hm_none e126 (hm_none e129 (hm_none e150 (hm_none e153 (hm_none e176 (hm_none e179 (hm_none e204 (hm_none e207 (hm_none e234 (hm_none e237 (hm_none e266 (hm_none e269 (hm_none e300 (hm_none e303 (hm_none e336 z340))))))))))))))))))))))))))))))) | 26, _, h9 => absurd h9 (by decide) | 27, _, h9 => (hm_none e3 (hm_none e8 (hm_none e11 (hm_none e18 (hm_none e21 (hm_none e30 (hm_none e33 (hm_none e36 (hm_none e50 (hm_none e53 (hm_none e66 (hm_none e69 (hm_none e84 (hm_none e87 (hm_none e104 (hm_none e107 (hm_none e126 (hm_none e129 (hm_none e150 (hm_none e153 (hm_none e176 (hm_none e179 (hm_none e204 (hm_none e207 (hm_none e234 (hm_none e237 (hm_none e266 (hm_none e269 (hm_none e300 (hm_none e303 (hm_none e336 (hm_none e339 (hm_none e374 z378))))))))))))))))))))))))))))))))) | 28, _, h9 => absurd h9 (by decide) | 29, _, h9 => absurd h9 (by decide) | 30, _, h9 => (hm_none e3 (hm_none e8 (hm_none e11 (hm_none e18 (hm_none e21 (hm_none e30 (hm_none e33 (hm_none e36 (hm_none e50 (hm_none e53 (hm_none e66 (hm_none e69 (hm_none e84 (hm_none e87 (hm_none e104 (hm_none e107 (hm_none e126 (hm_none e129 (hm_none e150 (hm_none e153 (hm_none e176 (hm_none e179 (hm_none e204 (hm_none e207 (hm_none e234 (hm_none e237 (hm_none e266 (hm_none e269 (hm_none e300 (hm_none e303 (hm_none e336 (hm_none e339 (hm_none e374 (hm_none e377 (hm_none e414 z418))))))))))))))))))))))))))))))))))) | n + 31, h9, _ => absurd h9 (by omega)
  exact hm_vret X hQ hr hlk hK hM hS d_GrantServerModel_init_184 ⟨fun i => ([q415, q375, q337, q301, q267, q235, q205, q177, q151, q127, q105, q85, q67, q51, q34, q19, q9, q1] : List Nat).getD (mo_p i) 0, ⟨g478, har, mo_inj hnd rfl⟩, hno, (fun q x n0 hq => by have t0 := hq; have u1 := hm_ne0 t0 z4; have t1 := hm_keep e3 u1 t0; have t2 := hm_keep e8 n0 t1; have u2 := hm_ne0 t2 z12; have t3 := hm_keep e11 u2 t2; have t4 := hm_keep e18 n0 t3; have u3 := hm_ne0 t4 z22; have t5 := hm_keep e21 u3 t4; have t6 := hm_keep e30 n0 t5; have t7 := hm_keep e33 n0 t6; have u4 := hm_ne0 t7 z37; have t8 := hm_keep e36 u4 t7; have t9 := hm_keep e50 n0 t8; have u5 := hm_ne0 t9 z54; have t10 := hm_keep e53 u5 t9; have t11 := hm_keep e66 n0 t10; have u6 := hm_ne0 t11 z70; have t12 := hm_keep e69 u6 t11; have t13 := hm_keep e84 n0 t12; have u7 := hm_ne0 t13 z88; have t14 := hm_keep e87 u7 t13; have t15 := hm_keep e104 n0 t14; have u8 := hm_ne0 t15 z108; have t16 := hm_keep e107 u8 t15; have t17 := hm_keep e126 n0 t16; have u9 := hm_ne0 t17 z130; have t18 := hm_keep e129 u9 t17; have t19 := hm_keep e150 n0 t18; have u10 := hm_ne0 t19 z154; have t20 := hm_keep e153 u10 t19; have t21 := hm_keep e176 n0 t20; have u11 := hm_ne0 t21 z180; have t22 := hm_keep e179 u11 t21; have t23 := hm_keep e204 n0 t22; have u12 := hm_ne0 t23 z208; have t24 := hm_keep e207 u12 t23; have t25 := hm_keep e234 n0 t24; have u13 := hm_ne0 t25 z238; have t26 := hm_keep e237 u13 t25; have t27 := hm_keep e266 n0 t26; have u14 := hm_ne0 t27 z270; have t28 := hm_keep e269 u14 t27; have t29 := hm_keep e300 n0 t28; have u15 := hm_ne0 t29 z304; have t30 := hm_keep e303 u15 t29; have t31 := hm_keep e336 n0 t30; have u16 := hm_ne0 t31 z340; have t32 := hm_keep e339 u16 t31; have t33 := hm_keep e374 n0 t32; have u17 := hm_ne0 t33 z378; have t34 := hm_keep e377 u17 t33; have t35 := hm_keep e414 n0 t34; have u18 := hm_ne0 t35 z418; have t36 := hm_keep e417 u18 t35; have t37 := hm_keep e456 n0 t36; have t38 := hm_keep e459 n0 t37; have t39 := hm_keep e465 n0 t38; have t40 := hm_keep e471 n0 t39; have t41 := hm_keep e477 n0 t40; exact t41)⟩
end
section
theorem d_GrantServer_init_0 : decode b_GrantServer_init 0 = .ok (.aload_n 0, 1) := by decide +kernel
theorem d_GrantServer_init_1 : decode b_GrantServer_init 1 = .ok (.invokespecial 1, 3) := by decide +kernel
theorem d_GrantServer_init_4 : decode b_GrantServer_init 4 = .ok (.aload_n 0, 1) := by decide +kernel
theorem d_GrantServer_init_5 : decode b_GrantServer_init 5 = .ok (.iconst 4, 1) := by decide +kernel
theorem d_GrantServer_init_6 : decode b_GrantServer_init 6 = .ok (.anewarray 9, 3) := by decide +kernel
theorem d_GrantServer_init_9 : decode b_GrantServer_init 9 = .ok (.putfield 11, 3) := by decide +kernel
theorem d_GrantServer_init_12 : decode b_GrantServer_init 12 = .ok (.aload_n 0, 1) := by decide +kernel
theorem d_GrantServer_init_13 : decode b_GrantServer_init 13 = .ok (.new 15, 3) := by decide +kernel
theorem d_GrantServer_init_16 : decode b_GrantServer_init 16 = .ok (.dup, 1) := by decide +kernel
theorem d_GrantServer_init_17 : decode b_GrantServer_init 17 = .ok (.bipush 16, 2) := by decide +kernel
theorem d_GrantServer_init_19 : decode b_GrantServer_init 19 = .ok (.invokespecial 17, 3) := by decide +kernel
theorem d_GrantServer_init_22 : decode b_GrantServer_init 22 = .ok (.putfield 20, 3) := by decide +kernel
theorem d_GrantServer_init_25 : decode b_GrantServer_init 25 = .ok (.aload_n 0, 1) := by decide +kernel
theorem d_GrantServer_init_26 : decode b_GrantServer_init 26 = .ok (.new 15, 3) := by decide +kernel
theorem d_GrantServer_init_29 : decode b_GrantServer_init 29 = .ok (.dup, 1) := by decide +kernel
theorem d_GrantServer_init_30 : decode b_GrantServer_init 30 = .ok (.bipush 24, 2) := by decide +kernel
theorem d_GrantServer_init_32 : decode b_GrantServer_init 32 = .ok (.invokespecial 17, 3) := by decide +kernel
theorem d_GrantServer_init_35 : decode b_GrantServer_init 35 = .ok (.putfield 24, 3) := by decide +kernel
theorem d_GrantServer_init_38 : decode b_GrantServer_init 38 = .ok (.aload_n 0, 1) := by decide +kernel
theorem d_GrantServer_init_39 : decode b_GrantServer_init 39 = .ok (.new 15, 3) := by decide +kernel
theorem d_GrantServer_init_42 : decode b_GrantServer_init 42 = .ok (.dup, 1) := by decide +kernel
theorem d_GrantServer_init_43 : decode b_GrantServer_init 43 = .ok (.bipush 24, 2) := by decide +kernel
theorem d_GrantServer_init_45 : decode b_GrantServer_init 45 = .ok (.invokespecial 17, 3) := by decide +kernel
theorem d_GrantServer_init_48 : decode b_GrantServer_init 48 = .ok (.putfield 27, 3) := by decide +kernel
theorem d_GrantServer_init_51 : decode b_GrantServer_init 51 = .ok (.aload_n 0, 1) := by decide +kernel
theorem d_GrantServer_init_52 : decode b_GrantServer_init 52 = .ok (.new 30, 3) := by decide +kernel
theorem d_GrantServer_init_55 : decode b_GrantServer_init 55 = .ok (.dup, 1) := by decide +kernel
theorem d_GrantServer_init_56 : decode b_GrantServer_init 56 = .ok (.invokespecial 32, 3) := by decide +kernel
theorem d_GrantServer_init_59 : decode b_GrantServer_init 59 = .ok (.putfield 33, 3) := by decide +kernel
theorem d_GrantServer_init_62 : decode b_GrantServer_init 62 = .ok (.aload_n 0, 1) := by decide +kernel
theorem d_GrantServer_init_63 : decode b_GrantServer_init 63 = .ok (.new 30, 3) := by decide +kernel
theorem d_GrantServer_init_66 : decode b_GrantServer_init 66 = .ok (.dup, 1) := by decide +kernel
theorem d_GrantServer_init_67 : decode b_GrantServer_init 67 = .ok (.invokespecial 32, 3) := by decide +kernel
theorem d_GrantServer_init_70 : decode b_GrantServer_init 70 = .ok (.putfield 37, 3) := by decide +kernel
theorem d_GrantServer_init_73 : decode b_GrantServer_init 73 = .ok (.aload_n 0, 1) := by decide +kernel
theorem d_GrantServer_init_74 : decode b_GrantServer_init 74 = .ok (.new 30, 3) := by decide +kernel
theorem d_GrantServer_init_77 : decode b_GrantServer_init 77 = .ok (.dup, 1) := by decide +kernel
theorem d_GrantServer_init_78 : decode b_GrantServer_init 78 = .ok (.invokespecial 32, 3) := by decide +kernel
theorem d_GrantServer_init_81 : decode b_GrantServer_init 81 = .ok (.putfield 40, 3) := by decide +kernel
theorem d_GrantServer_init_84 : decode b_GrantServer_init 84 = .ok (.aload_n 0, 1) := by decide +kernel
theorem d_GrantServer_init_85 : decode b_GrantServer_init 85 = .ok (.new 43, 3) := by decide +kernel
theorem d_GrantServer_init_88 : decode b_GrantServer_init 88 = .ok (.dup, 1) := by decide +kernel
theorem d_GrantServer_init_89 : decode b_GrantServer_init 89 = .ok (.invokespecial 45, 3) := by decide +kernel
theorem d_GrantServer_init_92 : decode b_GrantServer_init 92 = .ok (.putfield 46, 3) := by decide +kernel
theorem d_GrantServer_init_95 : decode b_GrantServer_init 95 = .ok (.aload_n 0, 1) := by decide +kernel
theorem d_GrantServer_init_96 : decode b_GrantServer_init 96 = .ok (.iconst 0, 1) := by decide +kernel
theorem d_GrantServer_init_97 : decode b_GrantServer_init 97 = .ok (.putfield 50, 3) := by decide +kernel
theorem d_GrantServer_init_100 : decode b_GrantServer_init 100 = .ok (.aload_n 0, 1) := by decide +kernel
theorem d_GrantServer_init_101 : decode b_GrantServer_init 101 = .ok (.iconst (-1), 1) := by decide +kernel
theorem d_GrantServer_init_102 : decode b_GrantServer_init 102 = .ok (.putfield 54, 3) := by decide +kernel
theorem d_GrantServer_init_105 : decode b_GrantServer_init 105 = .ok (.aload_n 0, 1) := by decide +kernel
theorem d_GrantServer_init_106 : decode b_GrantServer_init 106 = .ok (.iconst 0, 1) := by decide +kernel
theorem d_GrantServer_init_107 : decode b_GrantServer_init 107 = .ok (.putfield 57, 3) := by decide +kernel
theorem d_GrantServer_init_110 : decode b_GrantServer_init 110 = .ok (.aload_n 0, 1) := by decide +kernel
theorem d_GrantServer_init_111 : decode b_GrantServer_init 111 = .ok (.iconst 0, 1) := by decide +kernel
theorem d_GrantServer_init_112 : decode b_GrantServer_init 112 = .ok (.putfield 60, 3) := by decide +kernel
theorem d_GrantServer_init_115 : decode b_GrantServer_init 115 = .ok (.aload_n 0, 1) := by decide +kernel
theorem d_GrantServer_init_116 : decode b_GrantServer_init 116 = .ok (.new 63, 3) := by decide +kernel
theorem d_GrantServer_init_119 : decode b_GrantServer_init 119 = .ok (.dup, 1) := by decide +kernel
theorem d_GrantServer_init_120 : decode b_GrantServer_init 120 = .ok (.iload_n 1, 1) := by decide +kernel
theorem d_GrantServer_init_121 : decode b_GrantServer_init 121 = .ok (.invokespecial 65, 3) := by decide +kernel
theorem d_GrantServer_init_124 : decode b_GrantServer_init 124 = .ok (.putfield 66, 3) := by decide +kernel
theorem d_GrantServer_init_127 : decode b_GrantServer_init 127 = .ok (.aload_n 0, 1) := by decide +kernel
theorem d_GrantServer_init_128 : decode b_GrantServer_init 128 = .ok (.iload_n 2, 1) := by decide +kernel
theorem d_GrantServer_init_129 : decode b_GrantServer_init 129 = .ok (.invokestatic 70, 3) := by decide +kernel
theorem d_GrantServer_init_132 : decode b_GrantServer_init 132 = .ok (.putfield 74, 3) := by decide +kernel
theorem d_GrantServer_init_135 : decode b_GrantServer_init 135 = .ok (.aload_n 0, 1) := by decide +kernel
theorem d_GrantServer_init_136 : decode b_GrantServer_init 136 = .ok (.iload_n 3, 1) := by decide +kernel
theorem d_GrantServer_init_137 : decode b_GrantServer_init 137 = .ok (.invokestatic 70, 3) := by decide +kernel
theorem d_GrantServer_init_140 : decode b_GrantServer_init 140 = .ok (.putfield 77, 3) := by decide +kernel
theorem d_GrantServer_init_143 : decode b_GrantServer_init 143 = .ok (.aload_n 0, 1) := by decide +kernel
theorem d_GrantServer_init_144 : decode b_GrantServer_init 144 = .ok (.iload 4, 2) := by decide +kernel
theorem d_GrantServer_init_146 : decode b_GrantServer_init 146 = .ok (.invokestatic 70, 3) := by decide +kernel
theorem d_GrantServer_init_149 : decode b_GrantServer_init 149 = .ok (.putfield 80, 3) := by decide +kernel
theorem d_GrantServer_init_152 : decode b_GrantServer_init 152 = .ok (.return_, 1) := by decide +kernel
set_option maxRecDepth 20000 in
theorem fF_GrantServer_11 : hm_flF vwCl TB R_GrantServer 11 0 3 (.array (.object "GrantServer$Client")) := ⟨_, _, _, _, cl_GrantServer, by decide, (TBm 178 (by decide +kernel) rfl), rfl, rfl, rfl⟩
set_option maxRecDepth 20000 in
theorem fF_GrantServer_20 : hm_flF vwCl TB R_GrantServer 20 0 4 (.object "GrantServer$Shelf") := ⟨_, _, _, _, cl_GrantServer, by decide, (TBm 179 (by decide +kernel) rfl), rfl, rfl, rfl⟩
set_option maxRecDepth 20000 in
theorem fF_GrantServer_24 : hm_flF vwCl TB R_GrantServer 24 0 5 (.object "GrantServer$Shelf") := ⟨_, _, _, _, cl_GrantServer, by decide, (TBm 180 (by decide +kernel) rfl), rfl, rfl, rfl⟩
set_option maxRecDepth 20000 in
theorem fF_GrantServer_27 : hm_flF vwCl TB R_GrantServer 27 0 6 (.object "GrantServer$Shelf") := ⟨_, _, _, _, cl_GrantServer, by decide, (TBm 181 (by decide +kernel) rfl), rfl, rfl, rfl⟩
set_option maxRecDepth 20000 in
theorem fF_GrantServer_33 : hm_flF vwCl TB R_GrantServer 33 0 7 (.object "GrantServer$Text") := ⟨_, _, _, _, cl_GrantServer, by decide, (TBm 182 (by decide +kernel) rfl), rfl, rfl, rfl⟩
set_option maxRecDepth 20000 in
theorem fF_GrantServer_37 : hm_flF vwCl TB R_GrantServer 37 0 8 (.object "GrantServer$Text") := ⟨_, _, _, _, cl_GrantServer, by decide, (TBm 183 (by decide +kernel) rfl), rfl, rfl, rfl⟩
set_option maxRecDepth 20000 in
theorem fF_GrantServer_40 : hm_flF vwCl TB R_GrantServer 40 0 9 (.object "GrantServer$Text") := ⟨_, _, _, _, cl_GrantServer, by decide, (TBm 184 (by decide +kernel) rfl), rfl, rfl, rfl⟩
set_option maxRecDepth 20000 in
theorem fF_GrantServer_46 : hm_flF vwCl TB R_GrantServer 46 0 10 (.object "GrantServer$ClaimsReader") := ⟨_, _, _, _, cl_GrantServer, by decide, (TBm 185 (by decide +kernel) rfl), rfl, rfl, rfl⟩
set_option maxRecDepth 20000 in
theorem fF_GrantServer_66 : hm_flF vwCl TB R_GrantServer 66 0 11 (.object "GrantServer$Wrapping") := ⟨_, _, _, _, cl_GrantServer, by decide, (TBm 186 (by decide +kernel) rfl), rfl, rfl, rfl⟩
set_option maxRecDepth 20000 in
theorem fF_GrantServer_74 : hm_flF vwCl TB R_GrantServer 74 0 0 .int := ⟨_, _, _, _, cl_GrantServer, by decide, (TBm 175 (by decide +kernel) rfl), rfl, rfl, rfl⟩
set_option maxRecDepth 20000 in
theorem fF_GrantServer_77 : hm_flF vwCl TB R_GrantServer 77 0 1 .int := ⟨_, _, _, _, cl_GrantServer, by decide, (TBm 176 (by decide +kernel) rfl), rfl, rfl, rfl⟩
set_option maxRecDepth 20000 in
theorem fF_GrantServer_80 : hm_flF vwCl TB R_GrantServer 80 0 2 .int := ⟨_, _, _, _, cl_GrantServer, by decide, (TBm 177 (by decide +kernel) rfl), rfl, rfl, rfl⟩
set_option maxRecDepth 20000 in
theorem fl_GrantServer_50 : hm_fl vwCl TB R_GrantServer 50 0 12 false .int := ⟨_, _, _, _, cl_GrantServer, by decide, (TBm 187 (by decide +kernel) rfl), rfl, rfl⟩
set_option maxRecDepth 20000 in
theorem fl_GrantServer_54 : hm_fl vwCl TB R_GrantServer 54 0 13 false .int := ⟨_, _, _, _, cl_GrantServer, by decide, (TBm 188 (by decide +kernel) rfl), rfl, rfl⟩
set_option maxRecDepth 20000 in
theorem fl_GrantServer_57 : hm_fl vwCl TB R_GrantServer 57 0 14 false .int := ⟨_, _, _, _, cl_GrantServer, by decide, (TBm 189 (by decide +kernel) rfl), rfl, rfl⟩
set_option maxRecDepth 20000 in
theorem fl_GrantServer_60 : hm_fl vwCl TB R_GrantServer 60 0 15 false .int := ⟨_, _, _, _, cl_GrantServer, by decide, (TBm 190 (by decide +kernel) rfl), rfl, rfl⟩
set_option maxRecDepth 20000 in
theorem me_ClaimsReader_init : hm_meI y_ClaimsReader_init b_ClaimsReader_init 1 0 := ⟨⟨(TBm 142 rfl rfl), (TBm 44 (by decide +kernel) rfl), by decide +kernel⟩, (TBm 141 (by decide +kernel) rfl), rfl⟩
set_option maxRecDepth 20000 in
theorem me_GrantServer_keptLife : hm_meS y_GrantServer_keptLife b_GrantServer_keptLife 1 (some .int) 1 := ⟨⟨(TBm 168 rfl rfl), (TBm 40 (by decide +kernel) rfl), by decide +kernel⟩, (TBm 167 (by decide +kernel) rfl)⟩
set_option maxRecDepth 20000 in
theorem me_Shelf_init : hm_meI y_Shelf_init b_Shelf_init 3 1 := ⟨⟨(TBm 70 rfl rfl), (TBm 41 (by decide +kernel) rfl), by decide +kernel⟩, (TBm 69 (by decide +kernel) rfl), rfl⟩
set_option maxRecDepth 20000 in
theorem me_Text_init : hm_meI y_Text_init b_Text_init 1 0 := ⟨⟨(TBm 128 rfl rfl), (TBm 43 (by decide +kernel) rfl), by decide +kernel⟩, (TBm 127 (by decide +kernel) rfl), rfl⟩
set_option maxRecDepth 20000 in
theorem me_Wrapping_init : hm_meI y_Wrapping_init b_Wrapping_init 2 1 := ⟨⟨(TBm 160 rfl rfl), (TBm 45 (by decide +kernel) rfl), by decide +kernel⟩, (TBm 159 (by decide +kernel) rfl), rfl⟩
set_option maxRecDepth 20000 in
theorem nw_GrantServer_15 : hm_nw vwCl TB R_GrantServer 15 4 2 [.null, .int 0] := ⟨_, _, _, cl_Shelf, (TBm 66 (by decide +kernel) rfl), (TBm 67 (by decide +kernel) rfl), (TBm 41 (by decide +kernel) rfl), by decide +kernel⟩
set_option maxRecDepth 20000 in
theorem nw_GrantServer_30 : hm_nw vwCl TB R_GrantServer 30 5 2 [.null, .int 0] := ⟨_, _, _, cl_Text, (TBm 124 (by decide +kernel) rfl), (TBm 125 (by decide +kernel) rfl), (TBm 43 (by decide +kernel) rfl), by decide +kernel⟩
set_option maxRecDepth 20000 in
theorem nw_GrantServer_43 : hm_nw vwCl TB R_GrantServer 43 7 3 [.null, .null, .int 0] := ⟨_, _, _, cl_ClaimsReader, (TBm 138 (by decide +kernel) rfl), (TBm 139 (by decide +kernel) rfl), (TBm 44 (by decide +kernel) rfl), by decide +kernel⟩
set_option maxRecDepth 20000 in
theorem nw_GrantServer_63 : hm_nw vwCl TB R_GrantServer 63 6 1 [.int 0] := ⟨_, _, _, cl_Wrapping, (TBm 156 (by decide +kernel) rfl), (TBm 157 (by decide +kernel) rfl), (TBm 45 (by decide +kernel) rfl), by decide +kernel⟩
set_option maxRecDepth 20000 in
theorem wk_GrantServer_9 : Cond.classLink R_GrantServer 9 "GrantServer$Client" ∈ TB := TBm 64 (by decide +kernel) rfl
set_option maxRecDepth 20000 in
theorem wl_GrantServer_1 : Cond.methodLink R_GrantServer 1 objectInit ∈ TB := TBm 61 (by decide +kernel) rfl
set_option maxRecDepth 20000 in
theorem wl_GrantServer_17 : Cond.methodLink R_GrantServer 17 y_Shelf_init ∈ TB := TBm 68 (by decide +kernel) rfl
set_option maxRecDepth 20000 in
theorem wl_GrantServer_32 : Cond.methodLink R_GrantServer 32 y_Text_init ∈ TB := TBm 126 (by decide +kernel) rfl
set_option maxRecDepth 20000 in
theorem wl_GrantServer_45 : Cond.methodLink R_GrantServer 45 y_ClaimsReader_init ∈ TB := TBm 140 (by decide +kernel) rfl
set_option maxRecDepth 20000 in
theorem wl_GrantServer_65 : Cond.methodLink R_GrantServer 65 y_Wrapping_init ∈ TB := TBm 158 (by decide +kernel) rfl
set_option maxRecDepth 20000 in
theorem wl_GrantServer_70 : Cond.methodLink R_GrantServer 70 y_GrantServer_keptLife ∈ TB := TBm 166 (by decide +kernel) rfl
set_option maxHeartbeats 4000000 in
set_option maxRecDepth 100000 in
theorem c_GS_init (l : Launch) (D : va_G) (k : Nat → ClassId) (f : hm) (h : Nat) (ky : Int32) (b : Int32) (d : Int32) (g : Int32) (hh : f h = some (.inr (0, [.int 0, .int 0, .int 0, .null, .null, .null, .null, .null, .null, .null, .null, .null, .int 0, .int 0, .int 0, .int 0]))) : hm_Mv l D vwCl (tyL k) y_GrantServer_init (Cond.code y_GrantServer_init b_GrantServer_init 5 none :: TB) ({ frames := 3, cells := 81, slots := 1030, locals := 62 }) [.ref h, .int ky, .int b, .int d, .int g] f (fun (f1 : hm) => ∃ (ad : Nat → Nat) (g9 : Nat → Nat → Option Nat), gs k f1 h ad (gs_u0 b d g) (fun _ => none) (fun _ => 0) g9 (fun _ => 0) (fun _ _ => 0) (fun _ => 0) (fun _ => 0) 0 ky ∧ gs_ap ad ∧ (∀ i, i < 22 → gs_ix i = true → f (ad i) = none) ∧ gs_r0 f f1 g9 ∧ ∀ (q : Nat) (x : va_E), q ≠ h → f q = some x → f1 q = some x) 81 1030 := by
  refine hm_enter (Qc := fun sz => va_Qv _ (hm_R D vwCl (tyL k) f sz) (hm_A f sz)) (by decide) rfl (Nat.le_of_ble_eq_true rfl) ?_
  intro p e s m below meth cd ls X0 hr hlk hin hK hM hS hA hl Q hQ
  have X : CallFix p m cd b_GrantServer_init 5 s ([.ref h, .int ky, .int b, .int d, .int g] : List Value).toArray TB R_GrantServer := ⟨X0.1, X0.2.1, X0.2.2.1, X0.2.2.2.1, fun w h => X0.2.2.2.2 w (List.mem_cons_of_mem _ h)⟩
  have hx := X.1; have hb := X.2.1; have hml := X.2.2.1; have hown := X.2.2.2.1; have hts := X.2.2.2.2
  have hnd : ([] : List Nat).Nodup := List.nodup_nil
  have hpr : ∀ q ∈ ([] : List Nat), f q ≠ none := fun q h => by cases h
  have hl : lv_has ls 5 [(0, .ref h), (1, .int ky), (2, .int b), (3, .int d), (4, .int g)] := hl
  refine lv_aload_n hx hb d_GrantServer_init_0 rfl (lv_at hl 0 rfl) ?_
  refine W.objInit hx hb hown (hts _ wl_GrantServer_1) (hts _ wi_JObject_init) (hts _ wd_JObject_init) rfl (by rw [hml]; exact hl.1) rfl d_GrantServer_init_1 (Nat.le_of_ble_eq_true rfl) (Nat.le_of_ble_eq_true rfl) ?_
  refine W.eq (g2 := F0 m 4 ls []) rfl ?_
  refine lv_aload_n hx hb d_GrantServer_init_4 rfl (lv_at hl 0 rfl) ?_
  refine lv_iconst (v := 4) hx hb d_GrantServer_init_5 (by decide) ?_
  refine hm_newq X hK hM hS hA wk_GrantServer_9 (by decide) 4 rfl (N' := 4) (by decide) (by decide) (by decide) (by decide) (by decide) d_GrantServer_init_6 (fun q1 f2 H e3 z4 hM hS => ?_)
  have hnd := hm_nd_new hnd hpr z4; have hpr := hm_pr_new hpr e3
  have g5 : f2 q1 = some (.inl (k 4, 4, .inr (.inr (.inr (.inr (fun _ => none)))))) := hm_new1 e3
  have g6 : f2 h = some (.inr (0, [.int 0, .int 0, .int 0, .null, .null, .null, .null, .null, .null, .null, .null, .null, .int 0, .int 0, .int 0, .int 0])) := by rw [e3, hm_up_n (hm_ne0 hh z4)]; exact hh
  refine hm_putF X hK hM hS (fs' := [.int 0, .int 0, .int 0, .ref q1, .null, .null, .null, .null, .null, .null, .null, .null, .int 0, .int 0, .int 0, .int 0]) g6 fF_GrantServer_11 hin rfl rfl (Nat.le_of_ble_eq_true rfl) rfl d_GrantServer_init_9 (fun f7 H locs e8 hM hS => ?_)
  have hpr := hm_pr_up hpr e8
  refine lv_aload_n hx hb d_GrantServer_init_12 rfl (lv_at hl 0 rfl) ?_
  have g13 : f7 h = some (.inr (0, [.int 0, .int 0, .int 0, .ref q1, .null, .null, .null, .null, .null, .null, .null, .null, .int 0, .int 0, .int 0, .int 0])) := by rw [e8, hm_up_s]
  have g14 : f7 q1 = some (.inl (k 4, 4, .inr (.inr (.inr (.inr (fun _ => none)))))) := by rw [e8, hm_up_n ((hm_ne0 hh z4).symm)]; exact g5
  refine hm_new X hK hM hS hA nw_GrantServer_15 (by decide) (by decide) d_GrantServer_init_13 (fun q9 f10 H e11 z12 hM hS => ?_)
  have hnd := hm_nd_new hnd hpr z12; have hpr := hm_pr_new hpr e11
  have g15 : f10 q9 = some (.inr (4, [.null, .int 0])) := hm_new1 e11
  refine lv_dup hx hb d_GrantServer_init_16 rfl ?_
  refine lv_bipush (v := 16) hx hb d_GrantServer_init_17 (by decide) ?_
  have g16 : f10 h = some (.inr (0, [.int 0, .int 0, .int 0, .ref q1, .null, .null, .null, .null, .null, .null, .null, .null, .int 0, .int 0, .int 0, .int 0])) := by rw [e11, hm_up_n (hm_ne0 g13 z12)]; exact g13
  have g17 : f10 q1 = some (.inl (k 4, 4, .inr (.inr (.inr (.inr (fun _ => none)))))) := by rw [e11, hm_up_n (hm_ne0 g14 z12)]; exact g14
  refine hm_callv hS hM hA (va_runI (As := [.int 16]) (rest := [.ref q9, .ref h]) X (c_Shelf_init l D k f10 q9 16 g15 (by omega) H.size) (hm_cwI hts me_Shelf_init wl_GrantServer_17 rfl rfl ⟨Nat.le_of_ble_eq_true rfl, Nat.le_of_ble_eq_true rfl⟩) (hm_preS hM hK) rfl rfl hl.1 rfl (lv_room (Nat.le_of_ble_eq_true rfl)) d_GrantServer_init_19 ⟨Nat.le_of_ble_eq_true rfl, Nat.le_of_ble_eq_true rfl⟩) (fun f18 H locs p19 hM hS => ?_)
  obtain ⟨q20, x21, z22, h23, g24, g25, hfr26⟩ := p19
  have hnd := hm_nd_new hnd hpr z22
  have hpr := hm_pr_fr hpr hfr26 g24
  have hpr := hm_pr_cons hpr g25
  have g27 : f18 h = some (.inr (0, [.int 0, .int 0, .int 0, .ref q1, .null, .null, .null, .null, .null, .null, .null, .null, .int 0, .int 0, .int 0, .int 0])) := hfr26 _ _ (hm_ne0 g13 z12) g16
  refine hm_putF X hK hM hS (fs' := [.int 0, .int 0, .int 0, .ref q1, .ref q9, .null, .null, .null, .null, .null, .null, .null, .int 0, .int 0, .int 0, .int 0]) g27 fF_GrantServer_20 hin rfl rfl (Nat.le_of_ble_eq_true rfl) rfl d_GrantServer_init_22 (fun f28 H locs e29 hM hS => ?_)
  have hpr := hm_pr_up hpr e29
  refine lv_aload_n hx hb d_GrantServer_init_25 rfl (lv_at hl 0 rfl) ?_
  have g34 : f28 h = some (.inr (0, [.int 0, .int 0, .int 0, .ref q1, .ref q9, .null, .null, .null, .null, .null, .null, .null, .int 0, .int 0, .int 0, .int 0])) := by rw [e29, hm_up_s]
  have g35 : f18 q1 = some (.inl (k 4, 4, .inr (.inr (.inr (.inr (fun _ => none)))))) := hfr26 _ _ (hm_ne0 g14 z12) g17
  have g36 : f28 q1 = some (.inl (k 4, 4, .inr (.inr (.inr (.inr (fun _ => none)))))) := by rw [e29, hm_up_n ((hm_ne0 hh z4).symm)]; exact g35
  have g37 : f28 q9 = some (.inr (4, [.ref q20, .int 0])) := by rw [e29, hm_up_n ((hm_ne0 g13 z12).symm)]; exact g24
  have g38 : f28 q20 = some (.inl (k 3, 16, .inr (.inr (.inr (.inr x21))))) := by rw [e29, hm_up_n ((hm_ne0 g16 z22).symm)]; exact g25
  refine hm_new X hK hM hS hA nw_GrantServer_15 (by decide) (by decide) d_GrantServer_init_26 (fun q30 f31 H e32 z33 hM hS => ?_)
  have hnd := hm_nd_new hnd hpr z33; have hpr := hm_pr_new hpr e32
  have g39 : f31 q30 = some (.inr (4, [.null, .int 0])) := hm_new1 e32
  refine lv_dup hx hb d_GrantServer_init_29 rfl ?_
  refine lv_bipush (v := 24) hx hb d_GrantServer_init_30 (by decide) ?_
  have g40 : f31 h = some (.inr (0, [.int 0, .int 0, .int 0, .ref q1, .ref q9, .null, .null, .null, .null, .null, .null, .null, .int 0, .int 0, .int 0, .int 0])) := by rw [e32, hm_up_n (hm_ne0 g34 z33)]; exact g34
  have g41 : f31 q1 = some (.inl (k 4, 4, .inr (.inr (.inr (.inr (fun _ => none)))))) := by rw [e32, hm_up_n (hm_ne0 g36 z33)]; exact g36
  have g42 : f31 q9 = some (.inr (4, [.ref q20, .int 0])) := by rw [e32, hm_up_n (hm_ne0 g37 z33)]; exact g37
  have g43 : f31 q20 = some (.inl (k 3, 16, .inr (.inr (.inr (.inr x21))))) := by rw [e32, hm_up_n (hm_ne0 g38 z33)]; exact g38
  refine hm_callv hS hM hA (va_runI (As := [.int 24]) (rest := [.ref q30, .ref h]) X (c_Shelf_init l D k f31 q30 24 g39 (by omega) H.size) (hm_cwI hts me_Shelf_init wl_GrantServer_17 rfl rfl ⟨Nat.le_of_ble_eq_true rfl, Nat.le_of_ble_eq_true rfl⟩) (hm_preS hM hK) rfl rfl hl.1 rfl (lv_room (Nat.le_of_ble_eq_true rfl)) d_GrantServer_init_32 ⟨Nat.le_of_ble_eq_true rfl, Nat.le_of_ble_eq_true rfl⟩) (fun f44 H locs p45 hM hS => ?_)
  obtain ⟨q46, x47, z48, h49, g50, g51, hfr52⟩ := p45
  have hnd := hm_nd_new hnd hpr z48
  have hpr := hm_pr_fr hpr hfr52 g50
  have hpr := hm_pr_cons hpr g51
  have g53 : f44 h = some (.inr (0, [.int 0, .int 0, .int 0, .ref q1, .ref q9, .null, .null, .null, .null, .null, .null, .null, .int 0, .int 0, .int 0, .int 0])) := hfr52 _ _ (hm_ne0 g34 z33) g40
  refine hm_putF X hK hM hS (fs' := [.int 0, .int 0, .int 0, .ref q1, .ref q9, .ref q30, .null, .null, .null, .null, .null, .null, .int 0, .int 0, .int 0, .int 0]) g53 fF_GrantServer_24 hin rfl rfl (Nat.le_of_ble_eq_true rfl) rfl d_GrantServer_init_35 (fun f54 H locs e55 hM hS => ?_)
  have hpr := hm_pr_up hpr e55
  refine lv_aload_n hx hb d_GrantServer_init_38 rfl (lv_at hl 0 rfl) ?_
  have g60 : f54 h = some (.inr (0, [.int 0, .int 0, .int 0, .ref q1, .ref q9, .ref q30, .null, .null, .null, .null, .null, .null, .int 0, .int 0, .int 0, .int 0])) := by rw [e55, hm_up_s]
  have g61 : f44 q1 = some (.inl (k 4, 4, .inr (.inr (.inr (.inr (fun _ => none)))))) := hfr52 _ _ (hm_ne0 g36 z33) g41
  have g62 : f54 q1 = some (.inl (k 4, 4, .inr (.inr (.inr (.inr (fun _ => none)))))) := by rw [e55, hm_up_n ((hm_ne0 hh z4).symm)]; exact g61
  have g63 : f44 q9 = some (.inr (4, [.ref q20, .int 0])) := hfr52 _ _ (hm_ne0 g37 z33) g42
  have g64 : f54 q9 = some (.inr (4, [.ref q20, .int 0])) := by rw [e55, hm_up_n ((hm_ne0 g13 z12).symm)]; exact g63
  have g65 : f44 q20 = some (.inl (k 3, 16, .inr (.inr (.inr (.inr x21))))) := hfr52 _ _ (hm_ne0 g38 z33) g43
  have g66 : f54 q20 = some (.inl (k 3, 16, .inr (.inr (.inr (.inr x21))))) := by rw [e55, hm_up_n ((hm_ne0 g16 z22).symm)]; exact g65
  have g67 : f54 q30 = some (.inr (4, [.ref q46, .int 0])) := by rw [e55, hm_up_n ((hm_ne0 g34 z33).symm)]; exact g50
  have g68 : f54 q46 = some (.inl (k 3, 24, .inr (.inr (.inr (.inr x47))))) := by rw [e55, hm_up_n ((hm_ne0 g40 z48).symm)]; exact g51
  refine hm_new X hK hM hS hA nw_GrantServer_15 (by decide) (by decide) d_GrantServer_init_39 (fun q56 f57 H e58 z59 hM hS => ?_)
  have hnd := hm_nd_new hnd hpr z59; have hpr := hm_pr_new hpr e58
  have g69 : f57 q56 = some (.inr (4, [.null, .int 0])) := hm_new1 e58
  refine lv_dup hx hb d_GrantServer_init_42 rfl ?_
  refine lv_bipush (v := 24) hx hb d_GrantServer_init_43 (by decide) ?_
  have g70 : f57 h = some (.inr (0, [.int 0, .int 0, .int 0, .ref q1, .ref q9, .ref q30, .null, .null, .null, .null, .null, .null, .int 0, .int 0, .int 0, .int 0])) := by rw [e58, hm_up_n (hm_ne0 g60 z59)]; exact g60
  have g71 : f57 q1 = some (.inl (k 4, 4, .inr (.inr (.inr (.inr (fun _ => none)))))) := by rw [e58, hm_up_n (hm_ne0 g62 z59)]; exact g62
  have g72 : f57 q9 = some (.inr (4, [.ref q20, .int 0])) := by rw [e58, hm_up_n (hm_ne0 g64 z59)]; exact g64
  have g73 : f57 q20 = some (.inl (k 3, 16, .inr (.inr (.inr (.inr x21))))) := by rw [e58, hm_up_n (hm_ne0 g66 z59)]; exact g66
  have g74 : f57 q30 = some (.inr (4, [.ref q46, .int 0])) := by rw [e58, hm_up_n (hm_ne0 g67 z59)]; exact g67
  have g75 : f57 q46 = some (.inl (k 3, 24, .inr (.inr (.inr (.inr x47))))) := by rw [e58, hm_up_n (hm_ne0 g68 z59)]; exact g68
  refine hm_callv hS hM hA (va_runI (As := [.int 24]) (rest := [.ref q56, .ref h]) X (c_Shelf_init l D k f57 q56 24 g69 (by omega) H.size) (hm_cwI hts me_Shelf_init wl_GrantServer_17 rfl rfl ⟨Nat.le_of_ble_eq_true rfl, Nat.le_of_ble_eq_true rfl⟩) (hm_preS hM hK) rfl rfl hl.1 rfl (lv_room (Nat.le_of_ble_eq_true rfl)) d_GrantServer_init_45 ⟨Nat.le_of_ble_eq_true rfl, Nat.le_of_ble_eq_true rfl⟩) (fun f76 H locs p77 hM hS => ?_)
  obtain ⟨q78, x79, z80, h81, g82, g83, hfr84⟩ := p77
  have hnd := hm_nd_new hnd hpr z80
  have hpr := hm_pr_fr hpr hfr84 g82
  have hpr := hm_pr_cons hpr g83
  have g85 : f76 h = some (.inr (0, [.int 0, .int 0, .int 0, .ref q1, .ref q9, .ref q30, .null, .null, .null, .null, .null, .null, .int 0, .int 0, .int 0, .int 0])) := hfr84 _ _ (hm_ne0 g60 z59) g70
  refine hm_putF X hK hM hS (fs' := [.int 0, .int 0, .int 0, .ref q1, .ref q9, .ref q30, .ref q56, .null, .null, .null, .null, .null, .int 0, .int 0, .int 0, .int 0]) g85 fF_GrantServer_27 hin rfl rfl (Nat.le_of_ble_eq_true rfl) rfl d_GrantServer_init_48 (fun f86 H locs e87 hM hS => ?_)
  have hpr := hm_pr_up hpr e87
  refine lv_aload_n hx hb d_GrantServer_init_51 rfl (lv_at hl 0 rfl) ?_
  have g92 : f86 h = some (.inr (0, [.int 0, .int 0, .int 0, .ref q1, .ref q9, .ref q30, .ref q56, .null, .null, .null, .null, .null, .int 0, .int 0, .int 0, .int 0])) := by rw [e87, hm_up_s]
  have g93 : f76 q1 = some (.inl (k 4, 4, .inr (.inr (.inr (.inr (fun _ => none)))))) := hfr84 _ _ (hm_ne0 g62 z59) g71
  have g94 : f86 q1 = some (.inl (k 4, 4, .inr (.inr (.inr (.inr (fun _ => none)))))) := by rw [e87, hm_up_n ((hm_ne0 hh z4).symm)]; exact g93
  have g95 : f76 q9 = some (.inr (4, [.ref q20, .int 0])) := hfr84 _ _ (hm_ne0 g64 z59) g72
  have g96 : f86 q9 = some (.inr (4, [.ref q20, .int 0])) := by rw [e87, hm_up_n ((hm_ne0 g13 z12).symm)]; exact g95
  have g97 : f76 q20 = some (.inl (k 3, 16, .inr (.inr (.inr (.inr x21))))) := hfr84 _ _ (hm_ne0 g66 z59) g73
  have g98 : f86 q20 = some (.inl (k 3, 16, .inr (.inr (.inr (.inr x21))))) := by rw [e87, hm_up_n ((hm_ne0 g16 z22).symm)]; exact g97
  have g99 : f76 q30 = some (.inr (4, [.ref q46, .int 0])) := hfr84 _ _ (hm_ne0 g67 z59) g74
  have g100 : f86 q30 = some (.inr (4, [.ref q46, .int 0])) := by rw [e87, hm_up_n ((hm_ne0 g34 z33).symm)]; exact g99
  have g101 : f76 q46 = some (.inl (k 3, 24, .inr (.inr (.inr (.inr x47))))) := hfr84 _ _ (hm_ne0 g68 z59) g75
  have g102 : f86 q46 = some (.inl (k 3, 24, .inr (.inr (.inr (.inr x47))))) := by rw [e87, hm_up_n ((hm_ne0 g40 z48).symm)]; exact g101
  have g103 : f86 q56 = some (.inr (4, [.ref q78, .int 0])) := by rw [e87, hm_up_n ((hm_ne0 g60 z59).symm)]; exact g82
  have g104 : f86 q78 = some (.inl (k 3, 24, .inr (.inr (.inr (.inr x79))))) := by rw [e87, hm_up_n ((hm_ne0 g70 z80).symm)]; exact g83
  refine hm_new X hK hM hS hA nw_GrantServer_30 (by decide) (by decide) d_GrantServer_init_52 (fun q88 f89 H e90 z91 hM hS => ?_)
  have hnd := hm_nd_new hnd hpr z91; have hpr := hm_pr_new hpr e90
  have g105 : f89 q88 = some (.inr (5, [.null, .int 0])) := hm_new1 e90
  refine lv_dup hx hb d_GrantServer_init_55 rfl ?_
  have g106 : f89 h = some (.inr (0, [.int 0, .int 0, .int 0, .ref q1, .ref q9, .ref q30, .ref q56, .null, .null, .null, .null, .null, .int 0, .int 0, .int 0, .int 0])) := by rw [e90, hm_up_n (hm_ne0 g92 z91)]; exact g92
  have g107 : f89 q1 = some (.inl (k 4, 4, .inr (.inr (.inr (.inr (fun _ => none)))))) := by rw [e90, hm_up_n (hm_ne0 g94 z91)]; exact g94
  have g108 : f89 q9 = some (.inr (4, [.ref q20, .int 0])) := by rw [e90, hm_up_n (hm_ne0 g96 z91)]; exact g96
  have g109 : f89 q20 = some (.inl (k 3, 16, .inr (.inr (.inr (.inr x21))))) := by rw [e90, hm_up_n (hm_ne0 g98 z91)]; exact g98
  have g110 : f89 q30 = some (.inr (4, [.ref q46, .int 0])) := by rw [e90, hm_up_n (hm_ne0 g100 z91)]; exact g100
  have g111 : f89 q46 = some (.inl (k 3, 24, .inr (.inr (.inr (.inr x47))))) := by rw [e90, hm_up_n (hm_ne0 g102 z91)]; exact g102
  have g112 : f89 q56 = some (.inr (4, [.ref q78, .int 0])) := by rw [e90, hm_up_n (hm_ne0 g103 z91)]; exact g103
  have g113 : f89 q78 = some (.inl (k 3, 24, .inr (.inr (.inr (.inr x79))))) := by rw [e90, hm_up_n (hm_ne0 g104 z91)]; exact g104
  refine hm_callv hS hM hA (va_runI (As := []) (rest := [.ref q88, .ref h]) X (c_Text_init l D k f89 q88 g105  H.size) (hm_cwI hts me_Text_init wl_GrantServer_32 rfl rfl ⟨Nat.le_of_ble_eq_true rfl, Nat.le_of_ble_eq_true rfl⟩) (hm_preS hM hK) rfl rfl hl.1 rfl (lv_room (Nat.le_of_ble_eq_true rfl)) d_GrantServer_init_56 ⟨Nat.le_of_ble_eq_true rfl, Nat.le_of_ble_eq_true rfl⟩) (fun f114 H locs p115 hM hS => ?_)
  obtain ⟨q116, z117, g118, g119, hfr120⟩ := p115
  have hnd := hm_nd_new hnd hpr z117
  have hpr := hm_pr_fr hpr hfr120 g118
  have hpr := hm_pr_cons hpr g119
  have g121 : f114 h = some (.inr (0, [.int 0, .int 0, .int 0, .ref q1, .ref q9, .ref q30, .ref q56, .null, .null, .null, .null, .null, .int 0, .int 0, .int 0, .int 0])) := hfr120 _ _ (hm_ne0 g92 z91) g106
  refine hm_putF X hK hM hS (fs' := [.int 0, .int 0, .int 0, .ref q1, .ref q9, .ref q30, .ref q56, .ref q88, .null, .null, .null, .null, .int 0, .int 0, .int 0, .int 0]) g121 fF_GrantServer_33 hin rfl rfl (Nat.le_of_ble_eq_true rfl) rfl d_GrantServer_init_59 (fun f122 H locs e123 hM hS => ?_)
  have hpr := hm_pr_up hpr e123
  refine lv_aload_n hx hb d_GrantServer_init_62 rfl (lv_at hl 0 rfl) ?_
  have g128 : f122 h = some (.inr (0, [.int 0, .int 0, .int 0, .ref q1, .ref q9, .ref q30, .ref q56, .ref q88, .null, .null, .null, .null, .int 0, .int 0, .int 0, .int 0])) := by rw [e123, hm_up_s]
  have g129 : f114 q1 = some (.inl (k 4, 4, .inr (.inr (.inr (.inr (fun _ => none)))))) := hfr120 _ _ (hm_ne0 g94 z91) g107
  have g130 : f122 q1 = some (.inl (k 4, 4, .inr (.inr (.inr (.inr (fun _ => none)))))) := by rw [e123, hm_up_n ((hm_ne0 hh z4).symm)]; exact g129
  have g131 : f114 q9 = some (.inr (4, [.ref q20, .int 0])) := hfr120 _ _ (hm_ne0 g96 z91) g108
  have g132 : f122 q9 = some (.inr (4, [.ref q20, .int 0])) := by rw [e123, hm_up_n ((hm_ne0 g13 z12).symm)]; exact g131
  have g133 : f114 q20 = some (.inl (k 3, 16, .inr (.inr (.inr (.inr x21))))) := hfr120 _ _ (hm_ne0 g98 z91) g109
  have g134 : f122 q20 = some (.inl (k 3, 16, .inr (.inr (.inr (.inr x21))))) := by rw [e123, hm_up_n ((hm_ne0 g16 z22).symm)]; exact g133
  have g135 : f114 q30 = some (.inr (4, [.ref q46, .int 0])) := hfr120 _ _ (hm_ne0 g100 z91) g110
  have g136 : f122 q30 = some (.inr (4, [.ref q46, .int 0])) := by rw [e123, hm_up_n ((hm_ne0 g34 z33).symm)]; exact g135
  have g137 : f114 q46 = some (.inl (k 3, 24, .inr (.inr (.inr (.inr x47))))) := hfr120 _ _ (hm_ne0 g102 z91) g111
  have g138 : f122 q46 = some (.inl (k 3, 24, .inr (.inr (.inr (.inr x47))))) := by rw [e123, hm_up_n ((hm_ne0 g40 z48).symm)]; exact g137
  have g139 : f114 q56 = some (.inr (4, [.ref q78, .int 0])) := hfr120 _ _ (hm_ne0 g103 z91) g112
  have g140 : f122 q56 = some (.inr (4, [.ref q78, .int 0])) := by rw [e123, hm_up_n ((hm_ne0 g60 z59).symm)]; exact g139
  have g141 : f114 q78 = some (.inl (k 3, 24, .inr (.inr (.inr (.inr x79))))) := hfr120 _ _ (hm_ne0 g104 z91) g113
  have g142 : f122 q78 = some (.inl (k 3, 24, .inr (.inr (.inr (.inr x79))))) := by rw [e123, hm_up_n ((hm_ne0 g70 z80).symm)]; exact g141
  have g143 : f122 q88 = some (.inr (5, [.ref q116, .int 0])) := by rw [e123, hm_up_n ((hm_ne0 g92 z91).symm)]; exact g118
  have g144 : f122 q116 = some (.inl (k 2, 120, .inl (fun _ => 0))) := by rw [e123, hm_up_n ((hm_ne0 g106 z117).symm)]; exact g119
  refine hm_new X hK hM hS hA nw_GrantServer_30 (by decide) (by decide) d_GrantServer_init_63 (fun q124 f125 H e126 z127 hM hS => ?_)
  have hnd := hm_nd_new hnd hpr z127; have hpr := hm_pr_new hpr e126
  have g145 : f125 q124 = some (.inr (5, [.null, .int 0])) := hm_new1 e126
  refine lv_dup hx hb d_GrantServer_init_66 rfl ?_
  have g146 : f125 h = some (.inr (0, [.int 0, .int 0, .int 0, .ref q1, .ref q9, .ref q30, .ref q56, .ref q88, .null, .null, .null, .null, .int 0, .int 0, .int 0, .int 0])) := by rw [e126, hm_up_n (hm_ne0 g128 z127)]; exact g128
  have g147 : f125 q1 = some (.inl (k 4, 4, .inr (.inr (.inr (.inr (fun _ => none)))))) := by rw [e126, hm_up_n (hm_ne0 g130 z127)]; exact g130
  have g148 : f125 q9 = some (.inr (4, [.ref q20, .int 0])) := by rw [e126, hm_up_n (hm_ne0 g132 z127)]; exact g132
  have g149 : f125 q20 = some (.inl (k 3, 16, .inr (.inr (.inr (.inr x21))))) := by rw [e126, hm_up_n (hm_ne0 g134 z127)]; exact g134
  have g150 : f125 q30 = some (.inr (4, [.ref q46, .int 0])) := by rw [e126, hm_up_n (hm_ne0 g136 z127)]; exact g136
  have g151 : f125 q46 = some (.inl (k 3, 24, .inr (.inr (.inr (.inr x47))))) := by rw [e126, hm_up_n (hm_ne0 g138 z127)]; exact g138
  have g152 : f125 q56 = some (.inr (4, [.ref q78, .int 0])) := by rw [e126, hm_up_n (hm_ne0 g140 z127)]; exact g140
  have g153 : f125 q78 = some (.inl (k 3, 24, .inr (.inr (.inr (.inr x79))))) := by rw [e126, hm_up_n (hm_ne0 g142 z127)]; exact g142
  have g154 : f125 q88 = some (.inr (5, [.ref q116, .int 0])) := by rw [e126, hm_up_n (hm_ne0 g143 z127)]; exact g143
  have g155 : f125 q116 = some (.inl (k 2, 120, .inl (fun _ => 0))) := by rw [e126, hm_up_n (hm_ne0 g144 z127)]; exact g144
  refine hm_callv hS hM hA (va_runI (As := []) (rest := [.ref q124, .ref h]) X (c_Text_init l D k f125 q124 g145  H.size) (hm_cwI hts me_Text_init wl_GrantServer_32 rfl rfl ⟨Nat.le_of_ble_eq_true rfl, Nat.le_of_ble_eq_true rfl⟩) (hm_preS hM hK) rfl rfl hl.1 rfl (lv_room (Nat.le_of_ble_eq_true rfl)) d_GrantServer_init_67 ⟨Nat.le_of_ble_eq_true rfl, Nat.le_of_ble_eq_true rfl⟩) (fun f156 H locs p157 hM hS => ?_)
  obtain ⟨q158, z159, g160, g161, hfr162⟩ := p157
  have hnd := hm_nd_new hnd hpr z159
  have hpr := hm_pr_fr hpr hfr162 g160
  have hpr := hm_pr_cons hpr g161
  have g163 : f156 h = some (.inr (0, [.int 0, .int 0, .int 0, .ref q1, .ref q9, .ref q30, .ref q56, .ref q88, .null, .null, .null, .null, .int 0, .int 0, .int 0, .int 0])) := hfr162 _ _ (hm_ne0 g128 z127) g146
  refine hm_putF X hK hM hS (fs' := [.int 0, .int 0, .int 0, .ref q1, .ref q9, .ref q30, .ref q56, .ref q88, .ref q124, .null, .null, .null, .int 0, .int 0, .int 0, .int 0]) g163 fF_GrantServer_37 hin rfl rfl (Nat.le_of_ble_eq_true rfl) rfl d_GrantServer_init_70 (fun f164 H locs e165 hM hS => ?_)
  have hpr := hm_pr_up hpr e165
  refine lv_aload_n hx hb d_GrantServer_init_73 rfl (lv_at hl 0 rfl) ?_
  have g170 : f164 h = some (.inr (0, [.int 0, .int 0, .int 0, .ref q1, .ref q9, .ref q30, .ref q56, .ref q88, .ref q124, .null, .null, .null, .int 0, .int 0, .int 0, .int 0])) := by rw [e165, hm_up_s]
  have g171 : f156 q1 = some (.inl (k 4, 4, .inr (.inr (.inr (.inr (fun _ => none)))))) := hfr162 _ _ (hm_ne0 g130 z127) g147
  have g172 : f164 q1 = some (.inl (k 4, 4, .inr (.inr (.inr (.inr (fun _ => none)))))) := by rw [e165, hm_up_n ((hm_ne0 hh z4).symm)]; exact g171
  have g173 : f156 q9 = some (.inr (4, [.ref q20, .int 0])) := hfr162 _ _ (hm_ne0 g132 z127) g148
  have g174 : f164 q9 = some (.inr (4, [.ref q20, .int 0])) := by rw [e165, hm_up_n ((hm_ne0 g13 z12).symm)]; exact g173
  have g175 : f156 q20 = some (.inl (k 3, 16, .inr (.inr (.inr (.inr x21))))) := hfr162 _ _ (hm_ne0 g134 z127) g149
  have g176 : f164 q20 = some (.inl (k 3, 16, .inr (.inr (.inr (.inr x21))))) := by rw [e165, hm_up_n ((hm_ne0 g16 z22).symm)]; exact g175
  have g177 : f156 q30 = some (.inr (4, [.ref q46, .int 0])) := hfr162 _ _ (hm_ne0 g136 z127) g150
  have g178 : f164 q30 = some (.inr (4, [.ref q46, .int 0])) := by rw [e165, hm_up_n ((hm_ne0 g34 z33).symm)]; exact g177
  have g179 : f156 q46 = some (.inl (k 3, 24, .inr (.inr (.inr (.inr x47))))) := hfr162 _ _ (hm_ne0 g138 z127) g151
  have g180 : f164 q46 = some (.inl (k 3, 24, .inr (.inr (.inr (.inr x47))))) := by rw [e165, hm_up_n ((hm_ne0 g40 z48).symm)]; exact g179
  have g181 : f156 q56 = some (.inr (4, [.ref q78, .int 0])) := hfr162 _ _ (hm_ne0 g140 z127) g152
  have g182 : f164 q56 = some (.inr (4, [.ref q78, .int 0])) := by rw [e165, hm_up_n ((hm_ne0 g60 z59).symm)]; exact g181
  have g183 : f156 q78 = some (.inl (k 3, 24, .inr (.inr (.inr (.inr x79))))) := hfr162 _ _ (hm_ne0 g142 z127) g153
  have g184 : f164 q78 = some (.inl (k 3, 24, .inr (.inr (.inr (.inr x79))))) := by rw [e165, hm_up_n ((hm_ne0 g70 z80).symm)]; exact g183
  have g185 : f156 q88 = some (.inr (5, [.ref q116, .int 0])) := hfr162 _ _ (hm_ne0 g143 z127) g154
  have g186 : f164 q88 = some (.inr (5, [.ref q116, .int 0])) := by rw [e165, hm_up_n ((hm_ne0 g92 z91).symm)]; exact g185
  have g187 : f156 q116 = some (.inl (k 2, 120, .inl (fun _ => 0))) := hfr162 _ _ (hm_ne0 g144 z127) g155
  have g188 : f164 q116 = some (.inl (k 2, 120, .inl (fun _ => 0))) := by rw [e165, hm_up_n ((hm_ne0 g106 z117).symm)]; exact g187
  have g189 : f164 q124 = some (.inr (5, [.ref q158, .int 0])) := by rw [e165, hm_up_n ((hm_ne0 g128 z127).symm)]; exact g160
  have g190 : f164 q158 = some (.inl (k 2, 120, .inl (fun _ => 0))) := by rw [e165, hm_up_n ((hm_ne0 g146 z159).symm)]; exact g161
  refine hm_new X hK hM hS hA nw_GrantServer_30 (by decide) (by decide) d_GrantServer_init_74 (fun q166 f167 H e168 z169 hM hS => ?_)
  have hnd := hm_nd_new hnd hpr z169; have hpr := hm_pr_new hpr e168
  have g191 : f167 q166 = some (.inr (5, [.null, .int 0])) := hm_new1 e168
  refine lv_dup hx hb d_GrantServer_init_77 rfl ?_
  have g192 : f167 h = some (.inr (0, [.int 0, .int 0, .int 0, .ref q1, .ref q9, .ref q30, .ref q56, .ref q88, .ref q124, .null, .null, .null, .int 0, .int 0, .int 0, .int 0])) := by rw [e168, hm_up_n (hm_ne0 g170 z169)]; exact g170
  have g193 : f167 q1 = some (.inl (k 4, 4, .inr (.inr (.inr (.inr (fun _ => none)))))) := by rw [e168, hm_up_n (hm_ne0 g172 z169)]; exact g172
  have g194 : f167 q9 = some (.inr (4, [.ref q20, .int 0])) := by rw [e168, hm_up_n (hm_ne0 g174 z169)]; exact g174
  have g195 : f167 q20 = some (.inl (k 3, 16, .inr (.inr (.inr (.inr x21))))) := by rw [e168, hm_up_n (hm_ne0 g176 z169)]; exact g176
  have g196 : f167 q30 = some (.inr (4, [.ref q46, .int 0])) := by rw [e168, hm_up_n (hm_ne0 g178 z169)]; exact g178
  have g197 : f167 q46 = some (.inl (k 3, 24, .inr (.inr (.inr (.inr x47))))) := by rw [e168, hm_up_n (hm_ne0 g180 z169)]; exact g180
  have g198 : f167 q56 = some (.inr (4, [.ref q78, .int 0])) := by rw [e168, hm_up_n (hm_ne0 g182 z169)]; exact g182
  have g199 : f167 q78 = some (.inl (k 3, 24, .inr (.inr (.inr (.inr x79))))) := by rw [e168, hm_up_n (hm_ne0 g184 z169)]; exact g184
  have g200 : f167 q88 = some (.inr (5, [.ref q116, .int 0])) := by rw [e168, hm_up_n (hm_ne0 g186 z169)]; exact g186
  have g201 : f167 q116 = some (.inl (k 2, 120, .inl (fun _ => 0))) := by rw [e168, hm_up_n (hm_ne0 g188 z169)]; exact g188
  have g202 : f167 q124 = some (.inr (5, [.ref q158, .int 0])) := by rw [e168, hm_up_n (hm_ne0 g189 z169)]; exact g189
  have g203 : f167 q158 = some (.inl (k 2, 120, .inl (fun _ => 0))) := by rw [e168, hm_up_n (hm_ne0 g190 z169)]; exact g190
  refine hm_callv hS hM hA (va_runI (As := []) (rest := [.ref q166, .ref h]) X (c_Text_init l D k f167 q166 g191  H.size) (hm_cwI hts me_Text_init wl_GrantServer_32 rfl rfl ⟨Nat.le_of_ble_eq_true rfl, Nat.le_of_ble_eq_true rfl⟩) (hm_preS hM hK) rfl rfl hl.1 rfl (lv_room (Nat.le_of_ble_eq_true rfl)) d_GrantServer_init_78 ⟨Nat.le_of_ble_eq_true rfl, Nat.le_of_ble_eq_true rfl⟩) (fun f204 H locs p205 hM hS => ?_)
  obtain ⟨q206, z207, g208, g209, hfr210⟩ := p205
  have hnd := hm_nd_new hnd hpr z207
  have hpr := hm_pr_fr hpr hfr210 g208
  have hpr := hm_pr_cons hpr g209
  have g211 : f204 h = some (.inr (0, [.int 0, .int 0, .int 0, .ref q1, .ref q9, .ref q30, .ref q56, .ref q88, .ref q124, .null, .null, .null, .int 0, .int 0, .int 0, .int 0])) := hfr210 _ _ (hm_ne0 g170 z169) g192
  refine hm_putF X hK hM hS (fs' := [.int 0, .int 0, .int 0, .ref q1, .ref q9, .ref q30, .ref q56, .ref q88, .ref q124, .ref q166, .null, .null, .int 0, .int 0, .int 0, .int 0]) g211 fF_GrantServer_40 hin rfl rfl (Nat.le_of_ble_eq_true rfl) rfl d_GrantServer_init_81 (fun f212 H locs e213 hM hS => ?_)
  have hpr := hm_pr_up hpr e213
  refine lv_aload_n hx hb d_GrantServer_init_84 rfl (lv_at hl 0 rfl) ?_
  have g218 : f212 h = some (.inr (0, [.int 0, .int 0, .int 0, .ref q1, .ref q9, .ref q30, .ref q56, .ref q88, .ref q124, .ref q166, .null, .null, .int 0, .int 0, .int 0, .int 0])) := by rw [e213, hm_up_s]
  have g219 : f204 q1 = some (.inl (k 4, 4, .inr (.inr (.inr (.inr (fun _ => none)))))) := hfr210 _ _ (hm_ne0 g172 z169) g193
  have g220 : f212 q1 = some (.inl (k 4, 4, .inr (.inr (.inr (.inr (fun _ => none)))))) := by rw [e213, hm_up_n ((hm_ne0 hh z4).symm)]; exact g219
  have g221 : f204 q9 = some (.inr (4, [.ref q20, .int 0])) := hfr210 _ _ (hm_ne0 g174 z169) g194
  have g222 : f212 q9 = some (.inr (4, [.ref q20, .int 0])) := by rw [e213, hm_up_n ((hm_ne0 g13 z12).symm)]; exact g221
  have g223 : f204 q20 = some (.inl (k 3, 16, .inr (.inr (.inr (.inr x21))))) := hfr210 _ _ (hm_ne0 g176 z169) g195
  have g224 : f212 q20 = some (.inl (k 3, 16, .inr (.inr (.inr (.inr x21))))) := by rw [e213, hm_up_n ((hm_ne0 g16 z22).symm)]; exact g223
  have g225 : f204 q30 = some (.inr (4, [.ref q46, .int 0])) := hfr210 _ _ (hm_ne0 g178 z169) g196
  have g226 : f212 q30 = some (.inr (4, [.ref q46, .int 0])) := by rw [e213, hm_up_n ((hm_ne0 g34 z33).symm)]; exact g225
  have g227 : f204 q46 = some (.inl (k 3, 24, .inr (.inr (.inr (.inr x47))))) := hfr210 _ _ (hm_ne0 g180 z169) g197
  have g228 : f212 q46 = some (.inl (k 3, 24, .inr (.inr (.inr (.inr x47))))) := by rw [e213, hm_up_n ((hm_ne0 g40 z48).symm)]; exact g227
  have g229 : f204 q56 = some (.inr (4, [.ref q78, .int 0])) := hfr210 _ _ (hm_ne0 g182 z169) g198
  have g230 : f212 q56 = some (.inr (4, [.ref q78, .int 0])) := by rw [e213, hm_up_n ((hm_ne0 g60 z59).symm)]; exact g229
  have g231 : f204 q78 = some (.inl (k 3, 24, .inr (.inr (.inr (.inr x79))))) := hfr210 _ _ (hm_ne0 g184 z169) g199
  have g232 : f212 q78 = some (.inl (k 3, 24, .inr (.inr (.inr (.inr x79))))) := by rw [e213, hm_up_n ((hm_ne0 g70 z80).symm)]; exact g231
  have g233 : f204 q88 = some (.inr (5, [.ref q116, .int 0])) := hfr210 _ _ (hm_ne0 g186 z169) g200
  have g234 : f212 q88 = some (.inr (5, [.ref q116, .int 0])) := by rw [e213, hm_up_n ((hm_ne0 g92 z91).symm)]; exact g233
  have g235 : f204 q116 = some (.inl (k 2, 120, .inl (fun _ => 0))) := hfr210 _ _ (hm_ne0 g188 z169) g201
  have g236 : f212 q116 = some (.inl (k 2, 120, .inl (fun _ => 0))) := by rw [e213, hm_up_n ((hm_ne0 g106 z117).symm)]; exact g235
  have g237 : f204 q124 = some (.inr (5, [.ref q158, .int 0])) := hfr210 _ _ (hm_ne0 g189 z169) g202
  have g238 : f212 q124 = some (.inr (5, [.ref q158, .int 0])) := by rw [e213, hm_up_n ((hm_ne0 g128 z127).symm)]; exact g237
  have g239 : f204 q158 = some (.inl (k 2, 120, .inl (fun _ => 0))) := hfr210 _ _ (hm_ne0 g190 z169) g203
  have g240 : f212 q158 = some (.inl (k 2, 120, .inl (fun _ => 0))) := by rw [e213, hm_up_n ((hm_ne0 g146 z159).symm)]; exact g239
  have g241 : f212 q166 = some (.inr (5, [.ref q206, .int 0])) := by rw [e213, hm_up_n ((hm_ne0 g170 z169).symm)]; exact g208
  have g242 : f212 q206 = some (.inl (k 2, 120, .inl (fun _ => 0))) := by rw [e213, hm_up_n ((hm_ne0 g192 z207).symm)]; exact g209
  refine hm_new X hK hM hS hA nw_GrantServer_43 (by decide) (by decide) d_GrantServer_init_85 (fun q214 f215 H e216 z217 hM hS => ?_)
  have hnd := hm_nd_new hnd hpr z217; have hpr := hm_pr_new hpr e216
  have g243 : f215 q214 = some (.inr (7, [.null, .null, .int 0])) := hm_new1 e216
  refine lv_dup hx hb d_GrantServer_init_88 rfl ?_
  have g244 : f215 h = some (.inr (0, [.int 0, .int 0, .int 0, .ref q1, .ref q9, .ref q30, .ref q56, .ref q88, .ref q124, .ref q166, .null, .null, .int 0, .int 0, .int 0, .int 0])) := by rw [e216, hm_up_n (hm_ne0 g218 z217)]; exact g218
  have g245 : f215 q1 = some (.inl (k 4, 4, .inr (.inr (.inr (.inr (fun _ => none)))))) := by rw [e216, hm_up_n (hm_ne0 g220 z217)]; exact g220
  have g246 : f215 q9 = some (.inr (4, [.ref q20, .int 0])) := by rw [e216, hm_up_n (hm_ne0 g222 z217)]; exact g222
  have g247 : f215 q20 = some (.inl (k 3, 16, .inr (.inr (.inr (.inr x21))))) := by rw [e216, hm_up_n (hm_ne0 g224 z217)]; exact g224
  have g248 : f215 q30 = some (.inr (4, [.ref q46, .int 0])) := by rw [e216, hm_up_n (hm_ne0 g226 z217)]; exact g226
  have g249 : f215 q46 = some (.inl (k 3, 24, .inr (.inr (.inr (.inr x47))))) := by rw [e216, hm_up_n (hm_ne0 g228 z217)]; exact g228
  have g250 : f215 q56 = some (.inr (4, [.ref q78, .int 0])) := by rw [e216, hm_up_n (hm_ne0 g230 z217)]; exact g230
  have g251 : f215 q78 = some (.inl (k 3, 24, .inr (.inr (.inr (.inr x79))))) := by rw [e216, hm_up_n (hm_ne0 g232 z217)]; exact g232
  have g252 : f215 q88 = some (.inr (5, [.ref q116, .int 0])) := by rw [e216, hm_up_n (hm_ne0 g234 z217)]; exact g234
  have g253 : f215 q116 = some (.inl (k 2, 120, .inl (fun _ => 0))) := by rw [e216, hm_up_n (hm_ne0 g236 z217)]; exact g236
  have g254 : f215 q124 = some (.inr (5, [.ref q158, .int 0])) := by rw [e216, hm_up_n (hm_ne0 g238 z217)]; exact g238
  have g255 : f215 q158 = some (.inl (k 2, 120, .inl (fun _ => 0))) := by rw [e216, hm_up_n (hm_ne0 g240 z217)]; exact g240
  have g256 : f215 q166 = some (.inr (5, [.ref q206, .int 0])) := by rw [e216, hm_up_n (hm_ne0 g241 z217)]; exact g241
  have g257 : f215 q206 = some (.inl (k 2, 120, .inl (fun _ => 0))) := by rw [e216, hm_up_n (hm_ne0 g242 z217)]; exact g242
  refine hm_callv hS hM hA (va_runI (As := []) (rest := [.ref q214, .ref h]) X (c_Reader_init l D k f215 q214 g243  H.size) (hm_cwI hts me_ClaimsReader_init wl_GrantServer_45 rfl rfl ⟨Nat.le_of_ble_eq_true rfl, Nat.le_of_ble_eq_true rfl⟩) (hm_preS hM hK) rfl rfl hl.1 rfl (lv_room (Nat.le_of_ble_eq_true rfl)) d_GrantServer_init_89 ⟨Nat.le_of_ble_eq_true rfl, Nat.le_of_ble_eq_true rfl⟩) (fun f258 H locs p259 hM hS => ?_)
  obtain ⟨q260, q261, z262, z263, h264, g265, g266, g267, hfr268⟩ := p259
  have hnd := hm_nd_new2 hnd hpr z262 z263 h264
  have hpr := hm_pr_fr hpr hfr268 g265
  have hpr := hm_pr_cons hpr g266
  have hpr := hm_pr_cons hpr g267
  have g269 : f258 h = some (.inr (0, [.int 0, .int 0, .int 0, .ref q1, .ref q9, .ref q30, .ref q56, .ref q88, .ref q124, .ref q166, .null, .null, .int 0, .int 0, .int 0, .int 0])) := hfr268 _ _ (hm_ne0 g218 z217) g244
  refine hm_putF X hK hM hS (fs' := [.int 0, .int 0, .int 0, .ref q1, .ref q9, .ref q30, .ref q56, .ref q88, .ref q124, .ref q166, .ref q214, .null, .int 0, .int 0, .int 0, .int 0]) g269 fF_GrantServer_46 hin rfl rfl (Nat.le_of_ble_eq_true rfl) rfl d_GrantServer_init_92 (fun f270 H locs e271 hM hS => ?_)
  have hpr := hm_pr_up hpr e271
  refine lv_aload_n hx hb d_GrantServer_init_95 rfl (lv_at hl 0 rfl) ?_
  refine lv_iconst (v := 0) hx hb d_GrantServer_init_96 (by decide) ?_
  have g272 : f270 h = some (.inr (0, [.int 0, .int 0, .int 0, .ref q1, .ref q9, .ref q30, .ref q56, .ref q88, .ref q124, .ref q166, .ref q214, .null, .int 0, .int 0, .int 0, .int 0])) := by rw [e271, hm_up_s]
  refine hm_put X hK hM hS (fs' := [.int 0, .int 0, .int 0, .ref q1, .ref q9, .ref q30, .ref q56, .ref q88, .ref q124, .ref q166, .ref q214, .null, .int 0, .int 0, .int 0, .int 0]) g272 fl_GrantServer_50 rfl rfl (Nat.le_of_ble_eq_true rfl) rfl d_GrantServer_init_97 (fun f273 H locs e274 hM hS => ?_)
  have hpr := hm_pr_up hpr e274
  refine lv_aload_n hx hb d_GrantServer_init_100 rfl (lv_at hl 0 rfl) ?_
  refine lv_iconst (v := (-1)) hx hb d_GrantServer_init_101 (by decide) ?_
  have g275 : f273 h = some (.inr (0, [.int 0, .int 0, .int 0, .ref q1, .ref q9, .ref q30, .ref q56, .ref q88, .ref q124, .ref q166, .ref q214, .null, .int 0, .int 0, .int 0, .int 0])) := by rw [e274, hm_up_s]
  refine hm_put X hK hM hS (fs' := [.int 0, .int 0, .int 0, .ref q1, .ref q9, .ref q30, .ref q56, .ref q88, .ref q124, .ref q166, .ref q214, .null, .int 0, .int (-1), .int 0, .int 0]) g275 fl_GrantServer_54 rfl rfl (Nat.le_of_ble_eq_true rfl) rfl d_GrantServer_init_102 (fun f276 H locs e277 hM hS => ?_)
  have hpr := hm_pr_up hpr e277
  refine lv_aload_n hx hb d_GrantServer_init_105 rfl (lv_at hl 0 rfl) ?_
  refine lv_iconst (v := 0) hx hb d_GrantServer_init_106 (by decide) ?_
  have g278 : f276 h = some (.inr (0, [.int 0, .int 0, .int 0, .ref q1, .ref q9, .ref q30, .ref q56, .ref q88, .ref q124, .ref q166, .ref q214, .null, .int 0, .int (-1), .int 0, .int 0])) := by rw [e277, hm_up_s]
  refine hm_put X hK hM hS (fs' := [.int 0, .int 0, .int 0, .ref q1, .ref q9, .ref q30, .ref q56, .ref q88, .ref q124, .ref q166, .ref q214, .null, .int 0, .int (-1), .int 0, .int 0]) g278 fl_GrantServer_57 rfl rfl (Nat.le_of_ble_eq_true rfl) rfl d_GrantServer_init_107 (fun f279 H locs e280 hM hS => ?_)
  have hpr := hm_pr_up hpr e280
  refine lv_aload_n hx hb d_GrantServer_init_110 rfl (lv_at hl 0 rfl) ?_
  refine lv_iconst (v := 0) hx hb d_GrantServer_init_111 (by decide) ?_
  have g281 : f279 h = some (.inr (0, [.int 0, .int 0, .int 0, .ref q1, .ref q9, .ref q30, .ref q56, .ref q88, .ref q124, .ref q166, .ref q214, .null, .int 0, .int (-1), .int 0, .int 0])) := by rw [e280, hm_up_s]
  refine hm_put X hK hM hS (fs' := [.int 0, .int 0, .int 0, .ref q1, .ref q9, .ref q30, .ref q56, .ref q88, .ref q124, .ref q166, .ref q214, .null, .int 0, .int (-1), .int 0, .int 0]) g281 fl_GrantServer_60 rfl rfl (Nat.le_of_ble_eq_true rfl) rfl d_GrantServer_init_112 (fun f282 H locs e283 hM hS => ?_)
  have hpr := hm_pr_up hpr e283
  refine lv_aload_n hx hb d_GrantServer_init_115 rfl (lv_at hl 0 rfl) ?_
  have g288 : f282 h = some (.inr (0, [.int 0, .int 0, .int 0, .ref q1, .ref q9, .ref q30, .ref q56, .ref q88, .ref q124, .ref q166, .ref q214, .null, .int 0, .int (-1), .int 0, .int 0])) := by rw [e283, hm_up_s]
  have g289 : f258 q1 = some (.inl (k 4, 4, .inr (.inr (.inr (.inr (fun _ => none)))))) := hfr268 _ _ (hm_ne0 g220 z217) g245
  have g290 : f270 q1 = some (.inl (k 4, 4, .inr (.inr (.inr (.inr (fun _ => none)))))) := by rw [e271, hm_up_n ((hm_ne0 hh z4).symm)]; exact g289
  have g291 : f273 q1 = some (.inl (k 4, 4, .inr (.inr (.inr (.inr (fun _ => none)))))) := by rw [e274, hm_up_n ((hm_ne0 hh z4).symm)]; exact g290
  have g292 : f276 q1 = some (.inl (k 4, 4, .inr (.inr (.inr (.inr (fun _ => none)))))) := by rw [e277, hm_up_n ((hm_ne0 hh z4).symm)]; exact g291
  have g293 : f279 q1 = some (.inl (k 4, 4, .inr (.inr (.inr (.inr (fun _ => none)))))) := by rw [e280, hm_up_n ((hm_ne0 hh z4).symm)]; exact g292
  have g294 : f282 q1 = some (.inl (k 4, 4, .inr (.inr (.inr (.inr (fun _ => none)))))) := by rw [e283, hm_up_n ((hm_ne0 hh z4).symm)]; exact g293
  have g295 : f258 q9 = some (.inr (4, [.ref q20, .int 0])) := hfr268 _ _ (hm_ne0 g222 z217) g246
  have g296 : f270 q9 = some (.inr (4, [.ref q20, .int 0])) := by rw [e271, hm_up_n ((hm_ne0 g13 z12).symm)]; exact g295
  have g297 : f273 q9 = some (.inr (4, [.ref q20, .int 0])) := by rw [e274, hm_up_n ((hm_ne0 g13 z12).symm)]; exact g296
  have g298 : f276 q9 = some (.inr (4, [.ref q20, .int 0])) := by rw [e277, hm_up_n ((hm_ne0 g13 z12).symm)]; exact g297
  have g299 : f279 q9 = some (.inr (4, [.ref q20, .int 0])) := by rw [e280, hm_up_n ((hm_ne0 g13 z12).symm)]; exact g298
  have g300 : f282 q9 = some (.inr (4, [.ref q20, .int 0])) := by rw [e283, hm_up_n ((hm_ne0 g13 z12).symm)]; exact g299
  have g301 : f258 q20 = some (.inl (k 3, 16, .inr (.inr (.inr (.inr x21))))) := hfr268 _ _ (hm_ne0 g224 z217) g247
  have g302 : f270 q20 = some (.inl (k 3, 16, .inr (.inr (.inr (.inr x21))))) := by rw [e271, hm_up_n ((hm_ne0 g16 z22).symm)]; exact g301
  have g303 : f273 q20 = some (.inl (k 3, 16, .inr (.inr (.inr (.inr x21))))) := by rw [e274, hm_up_n ((hm_ne0 g16 z22).symm)]; exact g302
  have g304 : f276 q20 = some (.inl (k 3, 16, .inr (.inr (.inr (.inr x21))))) := by rw [e277, hm_up_n ((hm_ne0 g16 z22).symm)]; exact g303
  have g305 : f279 q20 = some (.inl (k 3, 16, .inr (.inr (.inr (.inr x21))))) := by rw [e280, hm_up_n ((hm_ne0 g16 z22).symm)]; exact g304
  have g306 : f282 q20 = some (.inl (k 3, 16, .inr (.inr (.inr (.inr x21))))) := by rw [e283, hm_up_n ((hm_ne0 g16 z22).symm)]; exact g305
  have g307 : f258 q30 = some (.inr (4, [.ref q46, .int 0])) := hfr268 _ _ (hm_ne0 g226 z217) g248
  have g308 : f270 q30 = some (.inr (4, [.ref q46, .int 0])) := by rw [e271, hm_up_n ((hm_ne0 g34 z33).symm)]; exact g307
  have g309 : f273 q30 = some (.inr (4, [.ref q46, .int 0])) := by rw [e274, hm_up_n ((hm_ne0 g34 z33).symm)]; exact g308
  have g310 : f276 q30 = some (.inr (4, [.ref q46, .int 0])) := by rw [e277, hm_up_n ((hm_ne0 g34 z33).symm)]; exact g309
  have g311 : f279 q30 = some (.inr (4, [.ref q46, .int 0])) := by rw [e280, hm_up_n ((hm_ne0 g34 z33).symm)]; exact g310
  have g312 : f282 q30 = some (.inr (4, [.ref q46, .int 0])) := by rw [e283, hm_up_n ((hm_ne0 g34 z33).symm)]; exact g311
  have g313 : f258 q46 = some (.inl (k 3, 24, .inr (.inr (.inr (.inr x47))))) := hfr268 _ _ (hm_ne0 g228 z217) g249
  have g314 : f270 q46 = some (.inl (k 3, 24, .inr (.inr (.inr (.inr x47))))) := by rw [e271, hm_up_n ((hm_ne0 g40 z48).symm)]; exact g313
  have g315 : f273 q46 = some (.inl (k 3, 24, .inr (.inr (.inr (.inr x47))))) := by rw [e274, hm_up_n ((hm_ne0 g40 z48).symm)]; exact g314
  have g316 : f276 q46 = some (.inl (k 3, 24, .inr (.inr (.inr (.inr x47))))) := by rw [e277, hm_up_n ((hm_ne0 g40 z48).symm)]; exact g315
  have g317 : f279 q46 = some (.inl (k 3, 24, .inr (.inr (.inr (.inr x47))))) := by rw [e280, hm_up_n ((hm_ne0 g40 z48).symm)]; exact g316
  have g318 : f282 q46 = some (.inl (k 3, 24, .inr (.inr (.inr (.inr x47))))) := by rw [e283, hm_up_n ((hm_ne0 g40 z48).symm)]; exact g317
  have g319 : f258 q56 = some (.inr (4, [.ref q78, .int 0])) := hfr268 _ _ (hm_ne0 g230 z217) g250
  have g320 : f270 q56 = some (.inr (4, [.ref q78, .int 0])) := by rw [e271, hm_up_n ((hm_ne0 g60 z59).symm)]; exact g319
  have g321 : f273 q56 = some (.inr (4, [.ref q78, .int 0])) := by rw [e274, hm_up_n ((hm_ne0 g60 z59).symm)]; exact g320
  have g322 : f276 q56 = some (.inr (4, [.ref q78, .int 0])) := by rw [e277, hm_up_n ((hm_ne0 g60 z59).symm)]; exact g321
  have g323 : f279 q56 = some (.inr (4, [.ref q78, .int 0])) := by rw [e280, hm_up_n ((hm_ne0 g60 z59).symm)]; exact g322
  have g324 : f282 q56 = some (.inr (4, [.ref q78, .int 0])) := by rw [e283, hm_up_n ((hm_ne0 g60 z59).symm)]; exact g323
  have g325 : f258 q78 = some (.inl (k 3, 24, .inr (.inr (.inr (.inr x79))))) := hfr268 _ _ (hm_ne0 g232 z217) g251
  have g326 : f270 q78 = some (.inl (k 3, 24, .inr (.inr (.inr (.inr x79))))) := by rw [e271, hm_up_n ((hm_ne0 g70 z80).symm)]; exact g325
  have g327 : f273 q78 = some (.inl (k 3, 24, .inr (.inr (.inr (.inr x79))))) := by rw [e274, hm_up_n ((hm_ne0 g70 z80).symm)]; exact g326
  have g328 : f276 q78 = some (.inl (k 3, 24, .inr (.inr (.inr (.inr x79))))) := by rw [e277, hm_up_n ((hm_ne0 g70 z80).symm)]; exact g327
  have g329 : f279 q78 = some (.inl (k 3, 24, .inr (.inr (.inr (.inr x79))))) := by rw [e280, hm_up_n ((hm_ne0 g70 z80).symm)]; exact g328
  have g330 : f282 q78 = some (.inl (k 3, 24, .inr (.inr (.inr (.inr x79))))) := by rw [e283, hm_up_n ((hm_ne0 g70 z80).symm)]; exact g329
  have g331 : f258 q88 = some (.inr (5, [.ref q116, .int 0])) := hfr268 _ _ (hm_ne0 g234 z217) g252
  have g332 : f270 q88 = some (.inr (5, [.ref q116, .int 0])) := by rw [e271, hm_up_n ((hm_ne0 g92 z91).symm)]; exact g331
  have g333 : f273 q88 = some (.inr (5, [.ref q116, .int 0])) := by rw [e274, hm_up_n ((hm_ne0 g92 z91).symm)]; exact g332
  have g334 : f276 q88 = some (.inr (5, [.ref q116, .int 0])) := by rw [e277, hm_up_n ((hm_ne0 g92 z91).symm)]; exact g333
  have g335 : f279 q88 = some (.inr (5, [.ref q116, .int 0])) := by rw [e280, hm_up_n ((hm_ne0 g92 z91).symm)]; exact g334
  have g336 : f282 q88 = some (.inr (5, [.ref q116, .int 0])) := by rw [e283, hm_up_n ((hm_ne0 g92 z91).symm)]; exact g335
  have g337 : f258 q116 = some (.inl (k 2, 120, .inl (fun _ => 0))) := hfr268 _ _ (hm_ne0 g236 z217) g253
  have g338 : f270 q116 = some (.inl (k 2, 120, .inl (fun _ => 0))) := by rw [e271, hm_up_n ((hm_ne0 g106 z117).symm)]; exact g337
  have g339 : f273 q116 = some (.inl (k 2, 120, .inl (fun _ => 0))) := by rw [e274, hm_up_n ((hm_ne0 g106 z117).symm)]; exact g338
  have g340 : f276 q116 = some (.inl (k 2, 120, .inl (fun _ => 0))) := by rw [e277, hm_up_n ((hm_ne0 g106 z117).symm)]; exact g339
  have g341 : f279 q116 = some (.inl (k 2, 120, .inl (fun _ => 0))) := by rw [e280, hm_up_n ((hm_ne0 g106 z117).symm)]; exact g340
  have g342 : f282 q116 = some (.inl (k 2, 120, .inl (fun _ => 0))) := by rw [e283, hm_up_n ((hm_ne0 g106 z117).symm)]; exact g341
  have g343 : f258 q124 = some (.inr (5, [.ref q158, .int 0])) := hfr268 _ _ (hm_ne0 g238 z217) g254
  have g344 : f270 q124 = some (.inr (5, [.ref q158, .int 0])) := by rw [e271, hm_up_n ((hm_ne0 g128 z127).symm)]; exact g343
  have g345 : f273 q124 = some (.inr (5, [.ref q158, .int 0])) := by rw [e274, hm_up_n ((hm_ne0 g128 z127).symm)]; exact g344
  have g346 : f276 q124 = some (.inr (5, [.ref q158, .int 0])) := by rw [e277, hm_up_n ((hm_ne0 g128 z127).symm)]; exact g345
  have g347 : f279 q124 = some (.inr (5, [.ref q158, .int 0])) := by rw [e280, hm_up_n ((hm_ne0 g128 z127).symm)]; exact g346
  have g348 : f282 q124 = some (.inr (5, [.ref q158, .int 0])) := by rw [e283, hm_up_n ((hm_ne0 g128 z127).symm)]; exact g347
  have g349 : f258 q158 = some (.inl (k 2, 120, .inl (fun _ => 0))) := hfr268 _ _ (hm_ne0 g240 z217) g255
  have g350 : f270 q158 = some (.inl (k 2, 120, .inl (fun _ => 0))) := by rw [e271, hm_up_n ((hm_ne0 g146 z159).symm)]; exact g349
  have g351 : f273 q158 = some (.inl (k 2, 120, .inl (fun _ => 0))) := by rw [e274, hm_up_n ((hm_ne0 g146 z159).symm)]; exact g350
  have g352 : f276 q158 = some (.inl (k 2, 120, .inl (fun _ => 0))) := by rw [e277, hm_up_n ((hm_ne0 g146 z159).symm)]; exact g351
  have g353 : f279 q158 = some (.inl (k 2, 120, .inl (fun _ => 0))) := by rw [e280, hm_up_n ((hm_ne0 g146 z159).symm)]; exact g352
  have g354 : f282 q158 = some (.inl (k 2, 120, .inl (fun _ => 0))) := by rw [e283, hm_up_n ((hm_ne0 g146 z159).symm)]; exact g353
  have g355 : f258 q166 = some (.inr (5, [.ref q206, .int 0])) := hfr268 _ _ (hm_ne0 g241 z217) g256
  have g356 : f270 q166 = some (.inr (5, [.ref q206, .int 0])) := by rw [e271, hm_up_n ((hm_ne0 g170 z169).symm)]; exact g355
  have g357 : f273 q166 = some (.inr (5, [.ref q206, .int 0])) := by rw [e274, hm_up_n ((hm_ne0 g170 z169).symm)]; exact g356
  have g358 : f276 q166 = some (.inr (5, [.ref q206, .int 0])) := by rw [e277, hm_up_n ((hm_ne0 g170 z169).symm)]; exact g357
  have g359 : f279 q166 = some (.inr (5, [.ref q206, .int 0])) := by rw [e280, hm_up_n ((hm_ne0 g170 z169).symm)]; exact g358
  have g360 : f282 q166 = some (.inr (5, [.ref q206, .int 0])) := by rw [e283, hm_up_n ((hm_ne0 g170 z169).symm)]; exact g359
  have g361 : f258 q206 = some (.inl (k 2, 120, .inl (fun _ => 0))) := hfr268 _ _ (hm_ne0 g242 z217) g257
  have g362 : f270 q206 = some (.inl (k 2, 120, .inl (fun _ => 0))) := by rw [e271, hm_up_n ((hm_ne0 g192 z207).symm)]; exact g361
  have g363 : f273 q206 = some (.inl (k 2, 120, .inl (fun _ => 0))) := by rw [e274, hm_up_n ((hm_ne0 g192 z207).symm)]; exact g362
  have g364 : f276 q206 = some (.inl (k 2, 120, .inl (fun _ => 0))) := by rw [e277, hm_up_n ((hm_ne0 g192 z207).symm)]; exact g363
  have g365 : f279 q206 = some (.inl (k 2, 120, .inl (fun _ => 0))) := by rw [e280, hm_up_n ((hm_ne0 g192 z207).symm)]; exact g364
  have g366 : f282 q206 = some (.inl (k 2, 120, .inl (fun _ => 0))) := by rw [e283, hm_up_n ((hm_ne0 g192 z207).symm)]; exact g365
  have g367 : f270 q214 = some (.inr (7, [.ref q260, .ref q261, .int 0])) := by rw [e271, hm_up_n ((hm_ne0 g218 z217).symm)]; exact g265
  have g368 : f273 q214 = some (.inr (7, [.ref q260, .ref q261, .int 0])) := by rw [e274, hm_up_n ((hm_ne0 g218 z217).symm)]; exact g367
  have g369 : f276 q214 = some (.inr (7, [.ref q260, .ref q261, .int 0])) := by rw [e277, hm_up_n ((hm_ne0 g218 z217).symm)]; exact g368
  have g370 : f279 q214 = some (.inr (7, [.ref q260, .ref q261, .int 0])) := by rw [e280, hm_up_n ((hm_ne0 g218 z217).symm)]; exact g369
  have g371 : f282 q214 = some (.inr (7, [.ref q260, .ref q261, .int 0])) := by rw [e283, hm_up_n ((hm_ne0 g218 z217).symm)]; exact g370
  have g372 : f270 q260 = some (.inl (k 0, 5, .inl (fun _ => 0))) := by rw [e271, hm_up_n ((hm_ne0 g244 z262).symm)]; exact g266
  have g373 : f273 q260 = some (.inl (k 0, 5, .inl (fun _ => 0))) := by rw [e274, hm_up_n ((hm_ne0 g244 z262).symm)]; exact g372
  have g374 : f276 q260 = some (.inl (k 0, 5, .inl (fun _ => 0))) := by rw [e277, hm_up_n ((hm_ne0 g244 z262).symm)]; exact g373
  have g375 : f279 q260 = some (.inl (k 0, 5, .inl (fun _ => 0))) := by rw [e280, hm_up_n ((hm_ne0 g244 z262).symm)]; exact g374
  have g376 : f282 q260 = some (.inl (k 0, 5, .inl (fun _ => 0))) := by rw [e283, hm_up_n ((hm_ne0 g244 z262).symm)]; exact g375
  have g377 : f270 q261 = some (.inl (k 1, 5, .inl (fun _ => 0))) := by rw [e271, hm_up_n ((hm_ne0 g244 z263).symm)]; exact g267
  have g378 : f273 q261 = some (.inl (k 1, 5, .inl (fun _ => 0))) := by rw [e274, hm_up_n ((hm_ne0 g244 z263).symm)]; exact g377
  have g379 : f276 q261 = some (.inl (k 1, 5, .inl (fun _ => 0))) := by rw [e277, hm_up_n ((hm_ne0 g244 z263).symm)]; exact g378
  have g380 : f279 q261 = some (.inl (k 1, 5, .inl (fun _ => 0))) := by rw [e280, hm_up_n ((hm_ne0 g244 z263).symm)]; exact g379
  have g381 : f282 q261 = some (.inl (k 1, 5, .inl (fun _ => 0))) := by rw [e283, hm_up_n ((hm_ne0 g244 z263).symm)]; exact g380
  refine hm_new X hK hM hS hA nw_GrantServer_63 (by decide) (by decide) d_GrantServer_init_116 (fun q284 f285 H e286 z287 hM hS => ?_)
  have hnd := hm_nd_new hnd hpr z287; have hpr := hm_pr_new hpr e286
  have g382 : f285 q284 = some (.inr (6, [.int 0])) := hm_new1 e286
  refine lv_dup hx hb d_GrantServer_init_119 rfl ?_
  refine lv_iload_n hx hb d_GrantServer_init_120 rfl (lv_at hl 1 rfl) ?_
  have g383 : f285 h = some (.inr (0, [.int 0, .int 0, .int 0, .ref q1, .ref q9, .ref q30, .ref q56, .ref q88, .ref q124, .ref q166, .ref q214, .null, .int 0, .int (-1), .int 0, .int 0])) := by rw [e286, hm_up_n (hm_ne0 g288 z287)]; exact g288
  have g384 : f285 q1 = some (.inl (k 4, 4, .inr (.inr (.inr (.inr (fun _ => none)))))) := by rw [e286, hm_up_n (hm_ne0 g294 z287)]; exact g294
  have g385 : f285 q9 = some (.inr (4, [.ref q20, .int 0])) := by rw [e286, hm_up_n (hm_ne0 g300 z287)]; exact g300
  have g386 : f285 q20 = some (.inl (k 3, 16, .inr (.inr (.inr (.inr x21))))) := by rw [e286, hm_up_n (hm_ne0 g306 z287)]; exact g306
  have g387 : f285 q30 = some (.inr (4, [.ref q46, .int 0])) := by rw [e286, hm_up_n (hm_ne0 g312 z287)]; exact g312
  have g388 : f285 q46 = some (.inl (k 3, 24, .inr (.inr (.inr (.inr x47))))) := by rw [e286, hm_up_n (hm_ne0 g318 z287)]; exact g318
  have g389 : f285 q56 = some (.inr (4, [.ref q78, .int 0])) := by rw [e286, hm_up_n (hm_ne0 g324 z287)]; exact g324
  have g390 : f285 q78 = some (.inl (k 3, 24, .inr (.inr (.inr (.inr x79))))) := by rw [e286, hm_up_n (hm_ne0 g330 z287)]; exact g330
  have g391 : f285 q88 = some (.inr (5, [.ref q116, .int 0])) := by rw [e286, hm_up_n (hm_ne0 g336 z287)]; exact g336
  have g392 : f285 q116 = some (.inl (k 2, 120, .inl (fun _ => 0))) := by rw [e286, hm_up_n (hm_ne0 g342 z287)]; exact g342
  have g393 : f285 q124 = some (.inr (5, [.ref q158, .int 0])) := by rw [e286, hm_up_n (hm_ne0 g348 z287)]; exact g348
  have g394 : f285 q158 = some (.inl (k 2, 120, .inl (fun _ => 0))) := by rw [e286, hm_up_n (hm_ne0 g354 z287)]; exact g354
  have g395 : f285 q166 = some (.inr (5, [.ref q206, .int 0])) := by rw [e286, hm_up_n (hm_ne0 g360 z287)]; exact g360
  have g396 : f285 q206 = some (.inl (k 2, 120, .inl (fun _ => 0))) := by rw [e286, hm_up_n (hm_ne0 g366 z287)]; exact g366
  have g397 : f285 q214 = some (.inr (7, [.ref q260, .ref q261, .int 0])) := by rw [e286, hm_up_n (hm_ne0 g371 z287)]; exact g371
  have g398 : f285 q260 = some (.inl (k 0, 5, .inl (fun _ => 0))) := by rw [e286, hm_up_n (hm_ne0 g376 z287)]; exact g376
  have g399 : f285 q261 = some (.inl (k 1, 5, .inl (fun _ => 0))) := by rw [e286, hm_up_n (hm_ne0 g381 z287)]; exact g381
  refine hm_callv hS hM hA (va_runI (As := [.int ky]) (rest := [.ref q284, .ref h]) X (c_Wrapping_init l D k f285 q284 ky g382  H.size) (hm_cwI hts me_Wrapping_init wl_GrantServer_65 rfl rfl ⟨Nat.le_of_ble_eq_true rfl, Nat.le_of_ble_eq_true rfl⟩) (hm_preS hM hK) rfl rfl hl.1 rfl (lv_room (Nat.le_of_ble_eq_true rfl)) d_GrantServer_init_121 ⟨Nat.le_of_ble_eq_true rfl, Nat.le_of_ble_eq_true rfl⟩) (fun f400 H locs p401 hM hS => ?_)
  obtain ⟨g402, hfr403⟩ := p401
  have hpr := hm_pr_fr hpr hfr403 g402
  have g404 : f400 h = some (.inr (0, [.int 0, .int 0, .int 0, .ref q1, .ref q9, .ref q30, .ref q56, .ref q88, .ref q124, .ref q166, .ref q214, .null, .int 0, .int (-1), .int 0, .int 0])) := hfr403 _ _ (hm_ne0 g288 z287) g383
  refine hm_putF X hK hM hS (fs' := [.int 0, .int 0, .int 0, .ref q1, .ref q9, .ref q30, .ref q56, .ref q88, .ref q124, .ref q166, .ref q214, .ref q284, .int 0, .int (-1), .int 0, .int 0]) g404 fF_GrantServer_66 hin rfl rfl (Nat.le_of_ble_eq_true rfl) rfl d_GrantServer_init_124 (fun f405 H locs e406 hM hS => ?_)
  have hpr := hm_pr_up hpr e406
  refine lv_aload_n hx hb d_GrantServer_init_127 rfl (lv_at hl 0 rfl) ?_
  refine lv_iload_n hx hb d_GrantServer_init_128 rfl (lv_at hl 2 rfl) ?_
  have g407 : f405 h = some (.inr (0, [.int 0, .int 0, .int 0, .ref q1, .ref q9, .ref q30, .ref q56, .ref q88, .ref q124, .ref q166, .ref q214, .ref q284, .int 0, .int (-1), .int 0, .int 0])) := by rw [e406, hm_up_s]
  have g408 : f400 q1 = some (.inl (k 4, 4, .inr (.inr (.inr (.inr (fun _ => none)))))) := hfr403 _ _ (hm_ne0 g294 z287) g384
  have g409 : f405 q1 = some (.inl (k 4, 4, .inr (.inr (.inr (.inr (fun _ => none)))))) := by rw [e406, hm_up_n ((hm_ne0 hh z4).symm)]; exact g408
  have g410 : f400 q9 = some (.inr (4, [.ref q20, .int 0])) := hfr403 _ _ (hm_ne0 g300 z287) g385
  have g411 : f405 q9 = some (.inr (4, [.ref q20, .int 0])) := by rw [e406, hm_up_n ((hm_ne0 g13 z12).symm)]; exact g410
  have g412 : f400 q20 = some (.inl (k 3, 16, .inr (.inr (.inr (.inr x21))))) := hfr403 _ _ (hm_ne0 g306 z287) g386
  have g413 : f405 q20 = some (.inl (k 3, 16, .inr (.inr (.inr (.inr x21))))) := by rw [e406, hm_up_n ((hm_ne0 g16 z22).symm)]; exact g412
  have g414 : f400 q30 = some (.inr (4, [.ref q46, .int 0])) := hfr403 _ _ (hm_ne0 g312 z287) g387
  have g415 : f405 q30 = some (.inr (4, [.ref q46, .int 0])) := by rw [e406, hm_up_n ((hm_ne0 g34 z33).symm)]; exact g414
  have g416 : f400 q46 = some (.inl (k 3, 24, .inr (.inr (.inr (.inr x47))))) := hfr403 _ _ (hm_ne0 g318 z287) g388
  have g417 : f405 q46 = some (.inl (k 3, 24, .inr (.inr (.inr (.inr x47))))) := by rw [e406, hm_up_n ((hm_ne0 g40 z48).symm)]; exact g416
  have g418 : f400 q56 = some (.inr (4, [.ref q78, .int 0])) := hfr403 _ _ (hm_ne0 g324 z287) g389
  have g419 : f405 q56 = some (.inr (4, [.ref q78, .int 0])) := by rw [e406, hm_up_n ((hm_ne0 g60 z59).symm)]; exact g418
  have g420 : f400 q78 = some (.inl (k 3, 24, .inr (.inr (.inr (.inr x79))))) := hfr403 _ _ (hm_ne0 g330 z287) g390
  have g421 : f405 q78 = some (.inl (k 3, 24, .inr (.inr (.inr (.inr x79))))) := by rw [e406, hm_up_n ((hm_ne0 g70 z80).symm)]; exact g420
  have g422 : f400 q88 = some (.inr (5, [.ref q116, .int 0])) := hfr403 _ _ (hm_ne0 g336 z287) g391
  have g423 : f405 q88 = some (.inr (5, [.ref q116, .int 0])) := by rw [e406, hm_up_n ((hm_ne0 g92 z91).symm)]; exact g422
  have g424 : f400 q116 = some (.inl (k 2, 120, .inl (fun _ => 0))) := hfr403 _ _ (hm_ne0 g342 z287) g392
  have g425 : f405 q116 = some (.inl (k 2, 120, .inl (fun _ => 0))) := by rw [e406, hm_up_n ((hm_ne0 g106 z117).symm)]; exact g424
  have g426 : f400 q124 = some (.inr (5, [.ref q158, .int 0])) := hfr403 _ _ (hm_ne0 g348 z287) g393
  have g427 : f405 q124 = some (.inr (5, [.ref q158, .int 0])) := by rw [e406, hm_up_n ((hm_ne0 g128 z127).symm)]; exact g426
  have g428 : f400 q158 = some (.inl (k 2, 120, .inl (fun _ => 0))) := hfr403 _ _ (hm_ne0 g354 z287) g394
  have g429 : f405 q158 = some (.inl (k 2, 120, .inl (fun _ => 0))) := by rw [e406, hm_up_n ((hm_ne0 g146 z159).symm)]; exact g428
  have g430 : f400 q166 = some (.inr (5, [.ref q206, .int 0])) := hfr403 _ _ (hm_ne0 g360 z287) g395
  have g431 : f405 q166 = some (.inr (5, [.ref q206, .int 0])) := by rw [e406, hm_up_n ((hm_ne0 g170 z169).symm)]; exact g430
  have g432 : f400 q206 = some (.inl (k 2, 120, .inl (fun _ => 0))) := hfr403 _ _ (hm_ne0 g366 z287) g396
  have g433 : f405 q206 = some (.inl (k 2, 120, .inl (fun _ => 0))) := by rw [e406, hm_up_n ((hm_ne0 g192 z207).symm)]; exact g432
  have g434 : f400 q214 = some (.inr (7, [.ref q260, .ref q261, .int 0])) := hfr403 _ _ (hm_ne0 g371 z287) g397
  have g435 : f405 q214 = some (.inr (7, [.ref q260, .ref q261, .int 0])) := by rw [e406, hm_up_n ((hm_ne0 g218 z217).symm)]; exact g434
  have g436 : f400 q260 = some (.inl (k 0, 5, .inl (fun _ => 0))) := hfr403 _ _ (hm_ne0 g376 z287) g398
  have g437 : f405 q260 = some (.inl (k 0, 5, .inl (fun _ => 0))) := by rw [e406, hm_up_n ((hm_ne0 g244 z262).symm)]; exact g436
  have g438 : f400 q261 = some (.inl (k 1, 5, .inl (fun _ => 0))) := hfr403 _ _ (hm_ne0 g381 z287) g399
  have g439 : f405 q261 = some (.inl (k 1, 5, .inl (fun _ => 0))) := by rw [e406, hm_up_n ((hm_ne0 g244 z263).symm)]; exact g438
  have g440 : f405 q284 = some (.inr (6, [.int ky])) := by rw [e406, hm_up_n ((hm_ne0 g288 z287).symm)]; exact g402
  refine hm_calli hS hM hA (va_runS (As := [.int b]) (rest := [.ref h]) X (c_keptLife l D k f405 b   H.size) (hm_cwS hts me_GrantServer_keptLife wl_GrantServer_70 rfl rfl ⟨Nat.le_of_ble_eq_true rfl, Nat.le_of_ble_eq_true rfl⟩) (hm_preS hM hK) rfl rfl hl.1 rfl (lv_room (Nat.le_of_ble_eq_true rfl)) d_GrantServer_init_129 ⟨Nat.le_of_ble_eq_true rfl, Nat.le_of_ble_eq_true rfl⟩) (fun r443 f441 H locs p442 hM hS => ?_)
  obtain ⟨rfl, rfl⟩ := p442
  refine hm_putF X hK hM hS (fs' := [.int (z_kept b), .int 0, .int 0, .ref q1, .ref q9, .ref q30, .ref q56, .ref q88, .ref q124, .ref q166, .ref q214, .ref q284, .int 0, .int (-1), .int 0, .int 0]) g407 fF_GrantServer_74 hin rfl rfl (Nat.le_of_ble_eq_true rfl) rfl d_GrantServer_init_132 (fun f444 H locs e445 hM hS => ?_)
  have hpr := hm_pr_up hpr e445
  refine lv_aload_n hx hb d_GrantServer_init_135 rfl (lv_at hl 0 rfl) ?_
  refine lv_iload_n hx hb d_GrantServer_init_136 rfl (lv_at hl 3 rfl) ?_
  have g446 : f444 h = some (.inr (0, [.int (z_kept b), .int 0, .int 0, .ref q1, .ref q9, .ref q30, .ref q56, .ref q88, .ref q124, .ref q166, .ref q214, .ref q284, .int 0, .int (-1), .int 0, .int 0])) := by rw [e445, hm_up_s]
  have g447 : f444 q1 = some (.inl (k 4, 4, .inr (.inr (.inr (.inr (fun _ => none)))))) := by rw [e445, hm_up_n ((hm_ne0 hh z4).symm)]; exact g409
  have g448 : f444 q9 = some (.inr (4, [.ref q20, .int 0])) := by rw [e445, hm_up_n ((hm_ne0 g13 z12).symm)]; exact g411
  have g449 : f444 q20 = some (.inl (k 3, 16, .inr (.inr (.inr (.inr x21))))) := by rw [e445, hm_up_n ((hm_ne0 g16 z22).symm)]; exact g413
  have g450 : f444 q30 = some (.inr (4, [.ref q46, .int 0])) := by rw [e445, hm_up_n ((hm_ne0 g34 z33).symm)]; exact g415
  have g451 : f444 q46 = some (.inl (k 3, 24, .inr (.inr (.inr (.inr x47))))) := by rw [e445, hm_up_n ((hm_ne0 g40 z48).symm)]; exact g417
  have g452 : f444 q56 = some (.inr (4, [.ref q78, .int 0])) := by rw [e445, hm_up_n ((hm_ne0 g60 z59).symm)]; exact g419
  have g453 : f444 q78 = some (.inl (k 3, 24, .inr (.inr (.inr (.inr x79))))) := by rw [e445, hm_up_n ((hm_ne0 g70 z80).symm)]; exact g421
  have g454 : f444 q88 = some (.inr (5, [.ref q116, .int 0])) := by rw [e445, hm_up_n ((hm_ne0 g92 z91).symm)]; exact g423
  have g455 : f444 q116 = some (.inl (k 2, 120, .inl (fun _ => 0))) := by rw [e445, hm_up_n ((hm_ne0 g106 z117).symm)]; exact g425
  have g456 : f444 q124 = some (.inr (5, [.ref q158, .int 0])) := by rw [e445, hm_up_n ((hm_ne0 g128 z127).symm)]; exact g427
  have g457 : f444 q158 = some (.inl (k 2, 120, .inl (fun _ => 0))) := by rw [e445, hm_up_n ((hm_ne0 g146 z159).symm)]; exact g429
  have g458 : f444 q166 = some (.inr (5, [.ref q206, .int 0])) := by rw [e445, hm_up_n ((hm_ne0 g170 z169).symm)]; exact g431
  have g459 : f444 q206 = some (.inl (k 2, 120, .inl (fun _ => 0))) := by rw [e445, hm_up_n ((hm_ne0 g192 z207).symm)]; exact g433
  have g460 : f444 q214 = some (.inr (7, [.ref q260, .ref q261, .int 0])) := by rw [e445, hm_up_n ((hm_ne0 g218 z217).symm)]; exact g435
  have g461 : f444 q260 = some (.inl (k 0, 5, .inl (fun _ => 0))) := by rw [e445, hm_up_n ((hm_ne0 g244 z262).symm)]; exact g437
  have g462 : f444 q261 = some (.inl (k 1, 5, .inl (fun _ => 0))) := by rw [e445, hm_up_n ((hm_ne0 g244 z263).symm)]; exact g439
  have g463 : f444 q284 = some (.inr (6, [.int ky])) := by rw [e445, hm_up_n ((hm_ne0 g288 z287).symm)]; exact g440
  refine hm_calli hS hM hA (va_runS (As := [.int d]) (rest := [.ref h]) X (c_keptLife l D k f444 d   H.size) (hm_cwS hts me_GrantServer_keptLife wl_GrantServer_70 rfl rfl ⟨Nat.le_of_ble_eq_true rfl, Nat.le_of_ble_eq_true rfl⟩) (hm_preS hM hK) rfl rfl hl.1 rfl (lv_room (Nat.le_of_ble_eq_true rfl)) d_GrantServer_init_137 ⟨Nat.le_of_ble_eq_true rfl, Nat.le_of_ble_eq_true rfl⟩) (fun r466 f464 H locs p465 hM hS => ?_)
  obtain ⟨rfl, rfl⟩ := p465
  refine hm_putF X hK hM hS (fs' := [.int (z_kept b), .int (z_kept d), .int 0, .ref q1, .ref q9, .ref q30, .ref q56, .ref q88, .ref q124, .ref q166, .ref q214, .ref q284, .int 0, .int (-1), .int 0, .int 0]) g446 fF_GrantServer_77 hin rfl rfl (Nat.le_of_ble_eq_true rfl) rfl d_GrantServer_init_140 (fun f467 H locs e468 hM hS => ?_)
  have hpr := hm_pr_up hpr e468
  refine lv_aload_n hx hb d_GrantServer_init_143 rfl (lv_at hl 0 rfl) ?_
  refine lv_iload hx hb d_GrantServer_init_144 (lv_at hl 4 rfl) ?_
  have g469 : f467 h = some (.inr (0, [.int (z_kept b), .int (z_kept d), .int 0, .ref q1, .ref q9, .ref q30, .ref q56, .ref q88, .ref q124, .ref q166, .ref q214, .ref q284, .int 0, .int (-1), .int 0, .int 0])) := by rw [e468, hm_up_s]
  have g470 : f467 q1 = some (.inl (k 4, 4, .inr (.inr (.inr (.inr (fun _ => none)))))) := by rw [e468, hm_up_n ((hm_ne0 hh z4).symm)]; exact g447
  have g471 : f467 q9 = some (.inr (4, [.ref q20, .int 0])) := by rw [e468, hm_up_n ((hm_ne0 g13 z12).symm)]; exact g448
  have g472 : f467 q20 = some (.inl (k 3, 16, .inr (.inr (.inr (.inr x21))))) := by rw [e468, hm_up_n ((hm_ne0 g16 z22).symm)]; exact g449
  have g473 : f467 q30 = some (.inr (4, [.ref q46, .int 0])) := by rw [e468, hm_up_n ((hm_ne0 g34 z33).symm)]; exact g450
  have g474 : f467 q46 = some (.inl (k 3, 24, .inr (.inr (.inr (.inr x47))))) := by rw [e468, hm_up_n ((hm_ne0 g40 z48).symm)]; exact g451
  have g475 : f467 q56 = some (.inr (4, [.ref q78, .int 0])) := by rw [e468, hm_up_n ((hm_ne0 g60 z59).symm)]; exact g452
  have g476 : f467 q78 = some (.inl (k 3, 24, .inr (.inr (.inr (.inr x79))))) := by rw [e468, hm_up_n ((hm_ne0 g70 z80).symm)]; exact g453
  have g477 : f467 q88 = some (.inr (5, [.ref q116, .int 0])) := by rw [e468, hm_up_n ((hm_ne0 g92 z91).symm)]; exact g454
  have g478 : f467 q116 = some (.inl (k 2, 120, .inl (fun _ => 0))) := by rw [e468, hm_up_n ((hm_ne0 g106 z117).symm)]; exact g455
  have g479 : f467 q124 = some (.inr (5, [.ref q158, .int 0])) := by rw [e468, hm_up_n ((hm_ne0 g128 z127).symm)]; exact g456
  have g480 : f467 q158 = some (.inl (k 2, 120, .inl (fun _ => 0))) := by rw [e468, hm_up_n ((hm_ne0 g146 z159).symm)]; exact g457
  have g481 : f467 q166 = some (.inr (5, [.ref q206, .int 0])) := by rw [e468, hm_up_n ((hm_ne0 g170 z169).symm)]; exact g458
  have g482 : f467 q206 = some (.inl (k 2, 120, .inl (fun _ => 0))) := by rw [e468, hm_up_n ((hm_ne0 g192 z207).symm)]; exact g459
  have g483 : f467 q214 = some (.inr (7, [.ref q260, .ref q261, .int 0])) := by rw [e468, hm_up_n ((hm_ne0 g218 z217).symm)]; exact g460
  have g484 : f467 q260 = some (.inl (k 0, 5, .inl (fun _ => 0))) := by rw [e468, hm_up_n ((hm_ne0 g244 z262).symm)]; exact g461
  have g485 : f467 q261 = some (.inl (k 1, 5, .inl (fun _ => 0))) := by rw [e468, hm_up_n ((hm_ne0 g244 z263).symm)]; exact g462
  have g486 : f467 q284 = some (.inr (6, [.int ky])) := by rw [e468, hm_up_n ((hm_ne0 g288 z287).symm)]; exact g463
  refine hm_calli hS hM hA (va_runS (As := [.int g]) (rest := [.ref h]) X (c_keptLife l D k f467 g   H.size) (hm_cwS hts me_GrantServer_keptLife wl_GrantServer_70 rfl rfl ⟨Nat.le_of_ble_eq_true rfl, Nat.le_of_ble_eq_true rfl⟩) (hm_preS hM hK) rfl rfl hl.1 rfl (lv_room (Nat.le_of_ble_eq_true rfl)) d_GrantServer_init_146 ⟨Nat.le_of_ble_eq_true rfl, Nat.le_of_ble_eq_true rfl⟩) (fun r489 f487 H locs p488 hM hS => ?_)
  obtain ⟨rfl, rfl⟩ := p488
  refine hm_putF X hK hM hS (fs' := [.int (z_kept b), .int (z_kept d), .int (z_kept g), .ref q1, .ref q9, .ref q30, .ref q56, .ref q88, .ref q124, .ref q166, .ref q214, .ref q284, .int 0, .int (-1), .int 0, .int 0]) g469 fF_GrantServer_80 hin rfl rfl (Nat.le_of_ble_eq_true rfl) rfl d_GrantServer_init_149 (fun f490 H locs e491 hM hS => ?_)
  have hpr := hm_pr_up hpr e491
  have g492 : f490 q1 = some (.inl (k 4, 4, .inr (.inr (.inr (.inr (fun _ => none)))))) := by rw [e491, hm_up_n ((hm_ne0 hh z4).symm)]; exact g470
  have g493 : f490 q9 = some (.inr (4, [.ref q20, .int 0])) := by rw [e491, hm_up_n ((hm_ne0 g13 z12).symm)]; exact g471
  have g494 : f490 q20 = some (.inl (k 3, 16, .inr (.inr (.inr (.inr x21))))) := by rw [e491, hm_up_n ((hm_ne0 g16 z22).symm)]; exact g472
  have g495 : f490 q30 = some (.inr (4, [.ref q46, .int 0])) := by rw [e491, hm_up_n ((hm_ne0 g34 z33).symm)]; exact g473
  have g496 : f490 q46 = some (.inl (k 3, 24, .inr (.inr (.inr (.inr x47))))) := by rw [e491, hm_up_n ((hm_ne0 g40 z48).symm)]; exact g474
  have g497 : f490 q56 = some (.inr (4, [.ref q78, .int 0])) := by rw [e491, hm_up_n ((hm_ne0 g60 z59).symm)]; exact g475
  have g498 : f490 q78 = some (.inl (k 3, 24, .inr (.inr (.inr (.inr x79))))) := by rw [e491, hm_up_n ((hm_ne0 g70 z80).symm)]; exact g476
  have g499 : f490 q88 = some (.inr (5, [.ref q116, .int 0])) := by rw [e491, hm_up_n ((hm_ne0 g92 z91).symm)]; exact g477
  have g500 : f490 q116 = some (.inl (k 2, 120, .inl (fun _ => 0))) := by rw [e491, hm_up_n ((hm_ne0 g106 z117).symm)]; exact g478
  have g501 : f490 q124 = some (.inr (5, [.ref q158, .int 0])) := by rw [e491, hm_up_n ((hm_ne0 g128 z127).symm)]; exact g479
  have g502 : f490 q158 = some (.inl (k 2, 120, .inl (fun _ => 0))) := by rw [e491, hm_up_n ((hm_ne0 g146 z159).symm)]; exact g480
  have g503 : f490 q166 = some (.inr (5, [.ref q206, .int 0])) := by rw [e491, hm_up_n ((hm_ne0 g170 z169).symm)]; exact g481
  have g504 : f490 q206 = some (.inl (k 2, 120, .inl (fun _ => 0))) := by rw [e491, hm_up_n ((hm_ne0 g192 z207).symm)]; exact g482
  have g505 : f490 q214 = some (.inr (7, [.ref q260, .ref q261, .int 0])) := by rw [e491, hm_up_n ((hm_ne0 g218 z217).symm)]; exact g483
  have g506 : f490 q260 = some (.inl (k 0, 5, .inl (fun _ => 0))) := by rw [e491, hm_up_n ((hm_ne0 g244 z262).symm)]; exact g484
  have g507 : f490 q261 = some (.inl (k 1, 5, .inl (fun _ => 0))) := by rw [e491, hm_up_n ((hm_ne0 g244 z263).symm)]; exact g485
  have g508 : f490 q284 = some (.inr (6, [.int ky])) := by rw [e491, hm_up_n ((hm_ne0 g288 z287).symm)]; exact g486
  have g509 : f490 h = some (.inr (0, [.int (z_kept b), .int (z_kept d), .int (z_kept g), .ref q1, .ref q9, .ref q30, .ref q56, .ref q88, .ref q124, .ref q166, .ref q214, .ref q284, .int 0, .int (-1), .int 0, .int 0])) := by rw [e491, hm_up_s]
  have hno : ∀ i, i < 22 → gs_ix i = true → f (([q284, q261, q260, q214, q206, q166, q158, q124, q116, q88, q78, q56, q46, q30, q20, q9, q1] : List Nat).getD (gs_p i) 0) = none := fun i hi hn => match i, hi, hn with | 0, _, h9 => absurd h9 (by decide) | 1, _, h9 => absurd h9 (by decide) | 2, _, h9 => absurd h9 (by decide) | 3, _, h9 => z4 | 4, _, h9 => (hm_none e3 (hm_none e8 z12)) | 5, _, h9 => (hm_none e3 (hm_none e8 (hm_none e11 (hm_noneF (fun x hw => hfr26 _ _ (hm_ne0 g24 (hm_none e29 z33)).symm hw) (hm_none e29 z33))))) | 6, _, h9 => (hm_none e3 (hm_none e8 (hm_none e11 (hm_noneF (fun x hw => hfr26 _ _ (hm_ne0 g24 (hm_none e29 (hm_none e32 (hm_noneF (fun x hw => hfr52 _ _ (hm_ne0 g50 (hm_none e55 z59)).symm hw) (hm_none e55 z59))))).symm hw) (hm_none e29 (hm_none e32 (hm_noneF (fun x hw => hfr52 _ _ (hm_ne0 g50 (hm_none e55 z59)).symm hw) (hm_none e55 z59)))))))) | 7, _, h9 => (hm_none e3 (hm_none e8 (hm_none e11 (hm_noneF (fun x hw => hfr26 _ _ (hm_ne0 g24 (hm_none e29 (hm_none e32 (hm_noneF (fun x hw => hfr52 _ _ (hm_ne0 g50 (hm_none e55 (hm_none e58 (hm_noneF (fun x hw => hfr84 _ _ (hm_ne0 g82 (hm_none e87 z91)).symm hw) (hm_none e87 z91))))).symm hw) (hm_none e55 (hm_none e58 (hm_noneF (fun x hw => hfr84 _ _ (hm_ne0 g82 (hm_none e87 z91)).symm hw) (hm_none e87 z91)))))))).symm hw) (hm_none e29 (hm_none e32 (hm_noneF (fun x hw => hfr52 _ _ (hm_ne0 g50 (hm_none e55 (hm_none e58 (hm_noneF (fun x hw => hfr84 _ _ (hm_ne0 g82 (hm_none e87 z91)).symm hw) (hm_none e87 z91))))).symm hw) (hm_none e55 (hm_none e58 (hm_noneF (fun x hw => hfr84 _ _ (hm_ne0 g82 (hm_none e87 z91)).symm hw) (hm_none e87 z91))))))))))) | 8, _, h9 => (hm_none e3 (hm_none e8 (hm_none e11 (hm_noneF (fun x hw => hfr26 _ _ (hm_ne0 g24 (hm_none e29 (hm_none e32 (hm_noneF (fun x hw => hfr52 _ _ (hm_ne0 g50 (hm_none e55 (hm_none e58 (hm_noneF (fun x hw => hfr84 _ _ (hm_ne0 g82 (hm_none e87 (hm_none e90 (hm_noneF (fun x hw => hfr120 _ _ (hm_ne0 g118 (hm_none e123 z127)).symm hw) (hm_none e123 z127))))).symm hw) (hm_none e87 (hm_none e90 (hm_noneF (fun x hw => hfr120 _ _ (hm_ne0 g118 (hm_none e123 z127)).symm hw) (hm_none e123 z127)))))))).symm hw) (hm_none e55 (hm_none e58 (hm_noneF (fun x hw => hfr84 _ _ (hm_ne0 g82 (hm_none e87 (hm_none e90 (hm_noneF (fun x hw => hfr120 _ _ (hm_ne0 g118 (hm_none e123 z127)).symm hw) (hm_none e123 z127))))).symm hw) (hm_none e87 (hm_none e90 (hm_noneF (fun x hw => hfr120 _ _ (hm_ne0 g118 (hm_none e123 z127)).symm hw) (hm_none e123 z127))))))))))).symm hw) (hm_none e29 (hm_none e32 (hm_noneF (fun x hw => hfr52 _ _ (hm_ne0 g50 (hm_none e55 (hm_none e58 (hm_noneF (fun x hw => hfr84 _ _ (hm_ne0 g82 (hm_none e87 (hm_none e90 (hm_noneF (fun x hw => hfr120 _ _ (hm_ne0 g118 (hm_none e123 z127)).symm hw) (hm_none e123 z127))))).symm hw) (hm_none e87 (hm_none e90 (hm_noneF (fun x hw => hfr120 _ _ (hm_ne0 g118 (hm_none e123 z127)).symm hw) (hm_none e123 z127)))))))).symm hw) (hm_none e55 (hm_none e58 (hm_noneF (fun x hw => hfr84 _ _ (hm_ne0 g82 (hm_none e87 (hm_none e90 (hm_noneF (fun x hw => hfr120 _ _ (hm_ne0 g118 (hm_none e123 z127)).symm hw) (hm_none e123 z127))))).symm hw) (hm_none e87 (hm_none e90 (hm_noneF (fun x hw => hfr120 _ _ (hm_ne0 g118 (hm_none e123 z127)).symm hw) (hm_none e123 z127)))))))))))))) | 9, _, h9 => (hm_none e3 (hm_none e8 (hm_none e11 (hm_noneF (fun x hw => hfr26 _ _ (hm_ne0 g24 (hm_none e29 (hm_none e32 (hm_noneF (fun x hw => hfr52 _ _ (hm_ne0 g50 (hm_none e55 (hm_none e58 (hm_noneF (fun x hw => hfr84 _ _ (hm_ne0 g82 (hm_none e87 (hm_none e90 (hm_noneF (fun x hw => hfr120 _ _ (hm_ne0 g118 (hm_none e123 (hm_none e126 (hm_noneF (fun x hw => hfr162 _ _ (hm_ne0 g160 (hm_none e165 z169)).symm hw) (hm_none e165 z169))))).symm hw) (hm_none e123 (hm_none e126 (hm_noneF (fun x hw => hfr162 _ _ (hm_ne0 g160 (hm_none e165 z169)).symm hw) (hm_none e165 z169)))))))).symm hw) (hm_none e87 (hm_none e90 (hm_noneF (fun x hw => hfr120 _ _ (hm_ne0 g118 (hm_none e123 (hm_none e126 (hm_noneF (fun x hw => hfr162 _ _ (hm_ne0 g160 (hm_none e165 z169)).symm hw) (hm_none e165 z169))))).symm hw) (hm_none e123 (hm_none e126 (hm_noneF (fun x hw => hfr162 _ _ (hm_ne0 g160 (hm_none e165 z169)).symm hw) (hm_none e165 z169))))))))))).symm hw) (hm_none e55 (hm_none e58 (hm_noneF (fun x hw => hfr84 _ _ (hm_ne0 g82 (hm_none e87 (hm_none e90 (hm_noneF (fun x hw => hfr120 _ _ (hm_ne0 g118 (hm_none e123 (hm_none e126 (hm_noneF (fun x hw => hfr162 _ _ (hm_ne0 g160 (hm_none e165 z169)).symm hw) (hm_none e165 z169))))).symm hw) (hm_none e123 (hm_none e126 (hm_noneF (fun x hw => hfr162 _ _ (hm_ne0 g160 (hm_none e165 z169)).symm hw) (hm_none e165 z169)))))))).symm hw) (hm_none e87 (hm_none e90 (hm_noneF (fun x hw => hfr120 _ _ (hm_ne0 g118 (hm_none e123 (hm_none e126 (hm_noneF (fun x hw => hfr162 _ _ (hm_ne0 g160 (hm_none e165 z169)).symm hw) (hm_none e165 z169))))).symm hw) (hm_none e123 (hm_none e126 (hm_noneF (fun x hw => hfr162 _ _ (hm_ne0 g160 (hm_none e165 z169)).symm hw) (hm_none e165 z169)))))))))))))).symm hw) (hm_none e29 (hm_none e32 (hm_noneF (fun x hw => hfr52 _ _ (hm_ne0 g50 (hm_none e55 (hm_none e58 (hm_noneF (fun x hw => hfr84 _ _ (hm_ne0 g82 (hm_none e87 (hm_none e90 (hm_noneF (fun x hw => hfr120 _ _ (hm_ne0 g118 (hm_none e123 (hm_none e126 (hm_noneF (fun x hw => hfr162 _ _ (hm_ne0 g160 (hm_none e165 z169)).symm hw) (hm_none e165 z169))))).symm hw) (hm_none e123 (hm_none e126 (hm_noneF (fun x hw => hfr162 _ _ (hm_ne0 g160 (hm_none e165 z169)).symm hw) (hm_none e165 z169)))))))).symm hw) (hm_none e87 (hm_none e90 (hm_noneF (fun x hw => hfr120 _ _ (hm_ne0 g118 (hm_none e123 (hm_none e126 (hm_noneF (fun x hw => hfr162 _ _ (hm_ne0 g160 (hm_none e165 z169)).symm hw) (hm_none e165 z169))))).symm hw) (hm_none e123 (hm_none e126 (hm_noneF (fun x hw => hfr162 _ _ (hm_ne0 g160 (hm_none e165 z169)).symm hw) (hm_none e165 z169))))))))))).symm hw) (hm_none e55 (hm_none e58 (hm_noneF (fun x hw => hfr84 _ _ (hm_ne0 g82 (hm_none e87 (hm_none e90 (hm_noneF (fun x hw => hfr120 _ _ (hm_ne0 g118 (hm_none e123 (hm_none e126 (hm_noneF (fun x hw => hfr162 _ _ (hm_ne0 g160 (hm_none e165 z169)).symm hw) (hm_none e165 z169))))).symm hw) (hm_none e123 (hm_none e126 (hm_noneF (fun x hw => hfr162 _ _ (hm_ne0 g160 (hm_none e165 z169)).symm hw) (hm_none e165 z169)))))))).symm hw) (hm_none e87 (hm_none e90 (hm_noneF (fun x hw => hfr120 _ _ (hm_ne0 g118 (hm_none e123 (hm_none e126 (hm_noneF (fun x hw => hfr162 _ _ (hm_ne0 g160 (hm_none e165 z169)).symm hw) (hm_none e165 z169))))).symm hw) (hm_none e123 (hm_none e126 (hm_noneF (fun x hw => hfr162 _ _ (hm_ne0 g160 (hm_none e165 z169)).symm hw) (hm_none e165 z169))))))))))))))))) | 10, _, h9 => (hm_none e3 (hm_none e8 (hm_none e11 (hm_noneF (fun x hw => hfr26 _ _ (hm_ne0 g24 (hm_none e29 (hm_none e32 (hm_noneF (fun x hw => hfr52 _ _ (hm_ne0 g50 (hm_none e55 (hm_none e58 (hm_noneF (fun x hw => hfr84 _ _ (hm_ne0 g82 (hm_none e87 (hm_none e90 (hm_noneF (fun x hw => hfr120 _ _ (hm_ne0 g118 (hm_none e123 (hm_none e126 (hm_noneF (fun x hw => hfr162 _ _ (hm_ne0 g160 (hm_none e165 (hm_none e168 (hm_noneF (fun x hw => hfr210 _ _ (hm_ne0 g208 (hm_none e213 z217)).symm hw) (hm_none e213 z217))))).symm hw) (hm_none e165 (hm_none e168 (hm_noneF (fun x hw => hfr210 _ _ (hm_ne0 g208 (hm_none e213 z217)).symm hw) (hm_none e213 z217)))))))).symm hw) (hm_none e123 (hm_none e126 (hm_noneF (fun x hw => hfr162 _ _ (hm_ne0 g160 (hm_none e165 (hm_none e168 (hm_noneF (fun x hw => hfr210 _ _ (hm_ne0 g208 (hm_none e213 z217)).symm hw) (hm_none e213 z217))))).symm hw) (hm_none e165 (hm_none e168 (hm_noneF (fun x hw => hfr210 _ _ (hm_ne0 g208 (hm_none e213 z217)).symm hw) (hm_none e213 z217))))))))))).symm hw) (hm_none e87 (hm_none e90 (hm_noneF (fun x hw => hfr120 _ _ (hm_ne0 g118 (hm_none e123 (hm_none e126 (hm_noneF (fun x hw => hfr162 _ _ (hm_ne0 g160 (hm_none e165 (hm_none e168 (hm_noneF (fun x hw => hfr210 _ _ (hm_ne0 g208 (hm_none e213 z217)).symm hw) (hm_none e213 z217))))).symm hw) (hm_none e165 (hm_none e168 (hm_noneF (fun x hw => hfr210 _ _ (hm_ne0 g208 (hm_none e213 z217)).symm hw) (hm_none e213 z217)))))))).symm hw) (hm_none e123 (hm_none e126 (hm_noneF (fun x hw => hfr162 _ _ (hm_ne0 g160 (hm_none e165 (hm_none e168 (hm_noneF (fun x hw => hfr210 _ _ (hm_ne0 g208 (hm_none e213 z217)).symm hw) (hm_none e213 z217))))).symm hw) (hm_none e165 (hm_none e168 (hm_noneF (fun x hw => hfr210 _ _ (hm_ne0 g208 (hm_none e213 z217)).symm hw) (hm_none e213 z217)))))))))))))).symm hw) (hm_none e55 (hm_none e58 (hm_noneF (fun x hw => hfr84 _ _ (hm_ne0 g82 (hm_none e87 (hm_none e90 (hm_noneF (fun x hw => hfr120 _ _ (hm_ne0 g118 (hm_none e123 (hm_none e126 (hm_noneF (fun x hw => hfr162 _ _ (hm_ne0 g160 (hm_none e165 (hm_none e168 (hm_noneF (fun x hw => hfr210 _ _ (hm_ne0 g208 (hm_none e213 z217)).symm hw) (hm_none e213 z217))))).symm hw) (hm_none e165 (hm_none e168 (hm_noneF (fun x hw => hfr210 _ _ (hm_ne0 g208 (hm_none e213 z217)).symm hw) (hm_none e213 z217)))))))).symm hw) (hm_none e123 (hm_none e126 (hm_noneF (fun x hw => hfr162 _ _ (hm_ne0 g160 (hm_none e165 (hm_none e168 (hm_noneF (fun x hw => hfr210 _ _ (hm_ne0 g208 (hm_none e213 z217)).symm hw) (hm_none e213 z217))))).symm hw) (hm_none e165 (hm_none e168 (hm_noneF (fun x hw => hfr210 _ _ (hm_ne0 g208 (hm_none e213 z217)).symm hw) (hm_none e213 z217))))))))))).symm hw) (hm_none e87 (hm_none e90 (hm_noneF (fun x hw => hfr120 _ _ (hm_ne0 g118 (hm_none e123 (hm_none e126 (hm_noneF (fun x hw => hfr162 _ _ (hm_ne0 g160 (hm_none e165 (hm_none e168 (hm_noneF (fun x hw => hfr210 _ _ (hm_ne0 g208 (hm_none e213 z217)).symm hw) (hm_none e213 z217))))).symm hw) (hm_none e165 (hm_none e168 (hm_noneF (fun x hw => hfr210 _ _ (hm_ne0 g208 (hm_none e213 z217)).symm hw) (hm_none e213 z217)))))))).symm hw) (hm_none e123 (hm_none e126 (hm_noneF (fun x hw => hfr162 _ _ (hm_ne0 g160 (hm_none e165 (hm_none e168 (hm_noneF (fun x hw => hfr210 _ _ (hm_ne0 g208 (hm_none e213 z217)).symm hw) (hm_none e213 z217))))).symm hw) (hm_none e165 (hm_none e168 (hm_noneF (fun x hw => hfr210 _ _ (hm_ne0 g208 (hm_none e213 z217)).symm hw) (hm_none e213 z217))))))))))))))))).symm hw) (hm_none e29 (hm_none e32 (hm_noneF (fun x hw => hfr52 _ _ (hm_ne0 g50 (hm_none e55 (hm_none e58 (hm_noneF (fun x hw => hfr84 _ _ (hm_ne0 g82 (hm_none e87 (hm_none e90 (hm_noneF (fun x hw => hfr120 _ _ (hm_ne0 g118 (hm_none e123 (hm_none e126 (hm_noneF (fun x hw => hfr162 _ _ (hm_ne0 g160 (hm_none e165 (hm_none e168 (hm_noneF (fun x hw => hfr210 _ _ (hm_ne0 g208 (hm_none e213 z217)).symm hw) (hm_none e213 z217))))).symm hw) (hm_none e165 (hm_none e168 (hm_noneF (fun x hw => hfr210 _ _ (hm_ne0 g208 (hm_none e213 z217)).symm hw) (hm_none e213 z217)))))))).symm hw) (hm_none e123 (hm_none e126 (hm_noneF (fun x hw => hfr162 _ _ (hm_ne0 g160 (hm_none e165 (hm_none e168 (hm_noneF (fun x hw => hfr210 _ _ (hm_ne0 g208 (hm_none e213 z217)).symm hw) (hm_none e213 z217))))).symm hw) (hm_none e165 (hm_none e168 (hm_noneF (fun x hw => hfr210 _ _ (hm_ne0 g208 (hm_none e213 z217)).symm hw) (hm_none e213 z217))))))))))).symm hw) (hm_none e87 (hm_none e90 (hm_noneF (fun x hw => hfr120 _ _ (hm_ne0 g118 (hm_none e123 (hm_none e126 (hm_noneF (fun x hw => hfr162 _ _ (hm_ne0 g160 (hm_none e165 (hm_none e168 (hm_noneF (fun x hw => hfr210 _ _ (hm_ne0 g208 (hm_none e213 z217)).symm hw) (hm_none e213 z217))))).symm hw) (hm_none e165 (hm_none e168 (hm_noneF (fun x hw => hfr210 _ _ (hm_ne0 g208 (hm_none e213 z217)).symm hw) (hm_none e213 z217)))))))).symm hw) (hm_none e123 (hm_none e126 (hm_noneF (fun x hw => hfr162 _ _ (hm_ne0 g160 (hm_none e165 (hm_none e168 (hm_noneF (fun x hw => hfr210 _ _ (hm_ne0 g208 (hm_none e213 z217)).symm hw) (hm_none e213 z217))))).symm hw) (hm_none e165 (hm_none e168 (hm_noneF (fun x hw => hfr210 _ _ (hm_ne0 g208 (hm_none e213 z217)).symm hw) (hm_none e213 z217)))))))))))))).symm hw) (hm_none e55 (hm_none e58 (hm_noneF (fun x hw => hfr84 _ _ (hm_ne0 g82 (hm_none e87 (hm_none e90 (hm_noneF (fun x hw => hfr120 _ _ (hm_ne0 g118 (hm_none e123 (hm_none e126 (hm_noneF (fun x hw => hfr162 _ _ (hm_ne0 g160 (hm_none e165 (hm_none e168 (hm_noneF (fun x hw => hfr210 _ _ (hm_ne0 g208 (hm_none e213 z217)).symm hw) (hm_none e213 z217))))).symm hw) (hm_none e165 (hm_none e168 (hm_noneF (fun x hw => hfr210 _ _ (hm_ne0 g208 (hm_none e213 z217)).symm hw) (hm_none e213 z217)))))))).symm hw) (hm_none e123 (hm_none e126 (hm_noneF (fun x hw => hfr162 _ _ (hm_ne0 g160 (hm_none e165 (hm_none e168 (hm_noneF (fun x hw => hfr210 _ _ (hm_ne0 g208 (hm_none e213 z217)).symm hw) (hm_none e213 z217))))).symm hw) (hm_none e165 (hm_none e168 (hm_noneF (fun x hw => hfr210 _ _ (hm_ne0 g208 (hm_none e213 z217)).symm hw) (hm_none e213 z217))))))))))).symm hw) (hm_none e87 (hm_none e90 (hm_noneF (fun x hw => hfr120 _ _ (hm_ne0 g118 (hm_none e123 (hm_none e126 (hm_noneF (fun x hw => hfr162 _ _ (hm_ne0 g160 (hm_none e165 (hm_none e168 (hm_noneF (fun x hw => hfr210 _ _ (hm_ne0 g208 (hm_none e213 z217)).symm hw) (hm_none e213 z217))))).symm hw) (hm_none e165 (hm_none e168 (hm_noneF (fun x hw => hfr210 _ _ (hm_ne0 g208 (hm_none e213 z217)).symm hw) (hm_none e213 z217)))))))).symm hw) (hm_none e123 (hm_none e126 (hm_noneF (fun x hw => hfr162 _ _ (hm_ne0 g160 (hm_none e165 (hm_none e168 (hm_noneF (fun x hw => hfr210 _ _ (hm_ne0 g208 (hm_none e213 z217)).symm hw) (hm_none e213 z217))))).symm hw) (hm_none e165 (hm_none e168 (hm_noneF (fun x hw => hfr210 _ _ (hm_ne0 g208 (hm_none e213 z217)).symm hw) (hm_none e213 z217)))))))))))))))))))) | 11, _, h9 => (hm_none e3 (hm_none e8 (hm_none e11 (hm_noneF (fun x hw => hfr26 _ _ (hm_ne0 g24 (hm_none e29 (hm_none e32 (hm_noneF (fun x hw => hfr52 _ _ (hm_ne0 g50 (hm_none e55 (hm_none e58 (hm_noneF (fun x hw => hfr84 _ _ (hm_ne0 g82 (hm_none e87 (hm_none e90 (hm_noneF (fun x hw => hfr120 _ _ (hm_ne0 g118 (hm_none e123 (hm_none e126 (hm_noneF (fun x hw => hfr162 _ _ (hm_ne0 g160 (hm_none e165 (hm_none e168 (hm_noneF (fun x hw => hfr210 _ _ (hm_ne0 g208 (hm_none e213 (hm_none e216 (hm_noneF (fun x hw => hfr268 _ _ (hm_ne0 g265 (hm_none e271 (hm_none e274 (hm_none e277 (hm_none e280 (hm_none e283 z287)))))).symm hw) (hm_none e271 (hm_none e274 (hm_none e277 (hm_none e280 (hm_none e283 z287))))))))).symm hw) (hm_none e213 (hm_none e216 (hm_noneF (fun x hw => hfr268 _ _ (hm_ne0 g265 (hm_none e271 (hm_none e274 (hm_none e277 (hm_none e280 (hm_none e283 z287)))))).symm hw) (hm_none e271 (hm_none e274 (hm_none e277 (hm_none e280 (hm_none e283 z287)))))))))))).symm hw) (hm_none e165 (hm_none e168 (hm_noneF (fun x hw => hfr210 _ _ (hm_ne0 g208 (hm_none e213 (hm_none e216 (hm_noneF (fun x hw => hfr268 _ _ (hm_ne0 g265 (hm_none e271 (hm_none e274 (hm_none e277 (hm_none e280 (hm_none e283 z287)))))).symm hw) (hm_none e271 (hm_none e274 (hm_none e277 (hm_none e280 (hm_none e283 z287))))))))).symm hw) (hm_none e213 (hm_none e216 (hm_noneF (fun x hw => hfr268 _ _ (hm_ne0 g265 (hm_none e271 (hm_none e274 (hm_none e277 (hm_none e280 (hm_none e283 z287)))))).symm hw) (hm_none e271 (hm_none e274 (hm_none e277 (hm_none e280 (hm_none e283 z287))))))))))))))).symm hw) (hm_none e123 (hm_none e126 (hm_noneF (fun x hw => hfr162 _ _ (hm_ne0 g160 (hm_none e165 (hm_none e168 (hm_noneF (fun x hw => hfr210 _ _ (hm_ne0 g208 (hm_none e213 (hm_none e216 (hm_noneF (fun x hw => hfr268 _ _ (hm_ne0 g265 (hm_none e271 (hm_none e274 (hm_none e277 (hm_none e280 (hm_none e283 z287)))))).symm hw) (hm_none e271 (hm_none e274 (hm_none e277 (hm_none e280 (hm_none e283 z287))))))))).symm hw) (hm_none e213 (hm_none e216 (hm_noneF (fun x hw => hfr268 _ _ (hm_ne0 g265 (hm_none e271 (hm_none e274 (hm_none e277 (hm_none e280 (hm_none e283 z287)))))).symm hw) (hm_none e271 (hm_none e274 (hm_none e277 (hm_none e280 (hm_none e283 z287)))))))))))).symm hw) (hm_none e165 (hm_none e168 (hm_noneF (fun x hw => hfr210 _ _ (hm_ne0 g208 (hm_none e213 (hm_none e216 (hm_noneF (fun x hw => hfr268 _ _ (hm_ne0 g265 (hm_none e271 (hm_none e274 (hm_none e277 (hm_none e280 (hm_none e283 z287)))))).symm hw) (hm_none e271 (hm_none e274 (hm_none e277 (hm_none e280 (hm_none e283 z287))))))))).symm hw) (hm_none e213 (hm_none e216 (hm_noneF (fun x hw => hfr268 _ _ (hm_ne0 g265 (hm_none e271 (hm_none e274 (hm_none e277 (hm_none e280 (hm_none e283 z287)))))).symm hw) (hm_none e271 (hm_none e274 (hm_none e277 (hm_none e280 (hm_none e283 z287)))))))))))))))))).symm hw) (hm_none e87 (hm_none e90 (hm_noneF (fun x hw => hfr120 _ _ (hm_ne0 g118 (hm_none e123 (hm_none e126 (hm_noneF (fun x hw => hfr162 _ _ (hm_ne0 g160 (hm_none e165 (hm_none e168 (hm_noneF (fun x hw => hfr210 _ _ (hm_ne0 g208 (hm_none e213 (hm_none e216 (hm_noneF (fun x hw => hfr268 _ _ (hm_ne0 g265 (hm_none e271 (hm_none e274 (hm_none e277 (hm_none e280 (hm_none e283 z287)))))).symm hw) (hm_none e271 (hm_none e274 (hm_none e277 (hm_none e280 (hm_none e283 z287))))))))).symm hw) (hm_none e213 (hm_none e216 (hm_noneF (fun x hw => hfr268 _ _ (hm_ne0 g265 (hm_none e271 (hm_none e274 (hm_none e277 (hm_none e280 (hm_none e283 z287)))))).symm hw) (hm_none e271 (hm_none e274 (hm_none e277 (hm_none e280 (hm_none e283 z287)))))))))))).symm hw) (hm_none e165 (hm_none e168 (hm_noneF (fun x hw => hfr210 _ _ (hm_ne0 g208 (hm_none e213 (hm_none e216 (hm_noneF (fun x hw => hfr268 _ _ (hm_ne0 g265 (hm_none e271 (hm_none e274 (hm_none e277 (hm_none e280 (hm_none e283 z287)))))).symm hw) (hm_none e271 (hm_none e274 (hm_none e277 (hm_none e280 (hm_none e283 z287))))))))).symm hw) (hm_none e213 (hm_none e216 (hm_noneF (fun x hw => hfr268 _ _ (hm_ne0 g265 (hm_none e271 (hm_none e274 (hm_none e277 (hm_none e280 (hm_none e283 z287)))))).symm hw) (hm_none e271 (hm_none e274 (hm_none e277 (hm_none e280 (hm_none e283 z287))))))))))))))).symm hw) (hm_none e123 (hm_none e126 (hm_noneF (fun x hw => hfr162 _ _ (hm_ne0 g160 (hm_none e165 (hm_none e168 (hm_noneF (fun x hw => hfr210 _ _ (hm_ne0 g208 (hm_none e213 (hm_none e216 (hm_noneF (fun x hw => hfr268 _ _ (hm_ne0 g265 (hm_none e271 (hm_none e274 (hm_none e277 (hm_none e280 (hm_none e283 z287)))))).symm hw) (hm_none e271 (hm_none e274 (hm_none e277 (hm_none e280 (hm_none e283 z287))))))))).symm hw) (hm_none e213 (hm_none e216 (hm_noneF (fun x hw => hfr268 _ _ (hm_ne0 g265 (hm_none e271 (hm_none e274 (hm_none e277 (hm_none e280 (hm_none e283 z287)))))).symm hw) (hm_none e271 (hm_none e274 (hm_none e277 (hm_none e280 (hm_none e283 z287)))))))))))).symm hw) (hm_none e165 (hm_none e168 (hm_noneF (fun x hw => hfr210 _ _ (hm_ne0 g208 (hm_none e213 (hm_none e216 (hm_noneF (fun x hw => hfr268 _ _ (hm_ne0 g265 (hm_none e271 (hm_none e274 (hm_none e277 (hm_none e280 (hm_none e283 z287)))))).symm hw) (hm_none e271 (hm_none e274 (hm_none e277 (hm_none e280 (hm_none e283 z287))))))))).symm hw) (hm_none e213 (hm_none e216 (hm_noneF (fun x hw => hfr268 _ _ (hm_ne0 g265 (hm_none e271 (hm_none e274 (hm_none e277 (hm_none e280 (hm_none e283 z287)))))).symm hw) (hm_none e271 (hm_none e274 (hm_none e277 (hm_none e280 (hm_none e283 z287))))))))))))))))))))).symm hw) (hm_none e55 (hm_none e58 (hm_noneF (fun x hw => hfr84 _ _ (hm_ne0 g82 (hm_none e87 (hm_none e90 (hm_noneF (fun x hw => hfr120 _ _ (hm_ne0 g118 (hm_none e123 (hm_none e126 (hm_noneF (fun x hw => hfr162 _ _ (hm_ne0 g160 (hm_none e165 (hm_none e168 (hm_noneF (fun x hw => hfr210 _ _ (hm_ne0 g208 (hm_none e213 (hm_none e216 (hm_noneF (fun x hw => hfr268 _ _ (hm_ne0 g265 (hm_none e271 (hm_none e274 (hm_none e277 (hm_none e280 (hm_none e283 z287)))))).symm hw) (hm_none e271 (hm_none e274 (hm_none e277 (hm_none e280 (hm_none e283 z287))))))))).symm hw) (hm_none e213 (hm_none e216 (hm_noneF (fun x hw => hfr268 _ _ (hm_ne0 g265 (hm_none e271 (hm_none e274 (hm_none e277 (hm_none e280 (hm_none e283 z287)))))).symm hw) (hm_none e271 (hm_none e274 (hm_none e277 (hm_none e280 (hm_none e283 z287)))))))))))).symm hw) (hm_none e165 (hm_none e168 (hm_noneF (fun x hw => hfr210 _ _ (hm_ne0 g208 (hm_none e213 (hm_none e216 (hm_noneF (fun x hw => hfr268 _ _ (hm_ne0 g265 (hm_none e271 (hm_none e274 (hm_none e277 (hm_none e280 (hm_none e283 z287)))))).symm hw) (hm_none e271 (hm_none e274 (hm_none e277 (hm_none e280 (hm_none e283 z287))))))))).symm hw) (hm_none e213 (hm_none e216 (hm_noneF (fun x hw => hfr268 _ _ (hm_ne0 g265 (hm_none e271 (hm_none e274 (hm_none e277 (hm_none e280 (hm_none e283 z287)))))).symm hw) (hm_none e271 (hm_none e274 (hm_none e277 (hm_none e280 (hm_none e283 z287))))))))))))))).symm hw) (hm_none e123 (hm_none e126 (hm_noneF (fun x hw => hfr162 _ _ (hm_ne0 g160 (hm_none e165 (hm_none e168 (hm_noneF (fun x hw => hfr210 _ _ (hm_ne0 g208 (hm_none e213 (hm_none e216 (hm_noneF (fun x hw => hfr268 _ _ (hm_ne0 g265 (hm_none e271 (hm_none e274 (hm_none e277 (hm_none e280 (hm_none e283 z287)))))).symm hw) (hm_none e271 (hm_none e274 (hm_none e277 (hm_none e280 (hm_none e283 z287))))))))).symm hw) (hm_none e213 (hm_none e216 (hm_noneF (fun x hw => hfr268 _ _ (hm_ne0 g265 (hm_none e271 (hm_none e274 (hm_none e277 (hm_none e280 (hm_none e283 z287)))))).symm hw) (hm_none e271 (hm_none e274 (hm_none e277 (hm_none e280 (hm_none e283 z287)))))))))))).symm hw) (hm_none e165 (hm_none e168 (hm_noneF (fun x hw => hfr210 _ _ (hm_ne0 g208 (hm_none e213 (hm_none e216 (hm_noneF (fun x hw => hfr268 _ _ (hm_ne0 g265 (hm_none e271 (hm_none e274 (hm_none e277 (hm_none e280 (hm_none e283 z287)))))).symm hw) (hm_none e271 (hm_none e274 (hm_none e277 (hm_none e280 (hm_none e283 z287))))))))).symm hw) (hm_none e213 (hm_none e216 (hm_noneF (fun x hw => hfr268 _ _ (hm_ne0 g265 (hm_none e271 (hm_none e274 (hm_none e277 (hm_none e280 (hm_none e283 z287)))))).symm hw) (hm_none e271 (hm_none e274 (hm_none e277 (hm_none e280 (hm_none e283 z287)))))))))))))))))).symm hw) (hm_none e87 (hm_none e90 (hm_noneF (fun x hw => hfr120 _ _ (hm_ne0 g118 (hm_none e123 (hm_none e126 (hm_noneF (fun x hw => hfr162 _ _ (hm_ne0 g160 (hm_none e165 (hm_none e168 (hm_noneF (fun x hw => hfr210 _ _ (hm_ne0 g208 (hm_none e213 (hm_none e216 (hm_noneF (fun x hw => hfr268 _ _ (hm_ne0 g265 (hm_none e271 (hm_none e274 (hm_none e277 (hm_none e280 (hm_none e283 z287)))))).symm hw) (hm_none e271 (hm_none e274 (hm_none e277 (hm_none e280 (hm_none e283 z287))))))))).symm hw) (hm_none e213 (hm_none e216 (hm_noneF (fun x hw => hfr268 _ _ (hm_ne0 g265 (hm_none e271 (hm_none e274 (hm_none e277 (hm_none e280 (hm_none e283 z287)))))).symm hw) (hm_none e271 (hm_none e274 (hm_none e277 (hm_none e280 (hm_none e283 z287)))))))))))).symm hw) (hm_none e165 (hm_none e168 (hm_noneF (fun x hw => hfr210 _ _ (hm_ne0 g208 (hm_none e213 (hm_none e216 (hm_noneF (fun x hw => hfr268 _ _ (hm_ne0 g265 (hm_none e271 (hm_none e274 (hm_none e277 (hm_none e280 (hm_none e283 z287)))))).symm hw) (hm_none e271 (hm_none e274 (hm_none e277 (hm_none e280 (hm_none e283 z287))))))))).symm hw) (hm_none e213 (hm_none e216 (hm_noneF (fun x hw => hfr268 _ _ (hm_ne0 g265 (hm_none e271 (hm_none e274 (hm_none e277 (hm_none e280 (hm_none e283 z287)))))).symm hw) (hm_none e271 (hm_none e274 (hm_none e277 (hm_none e280 (hm_none e283 z287))))))))))))))).symm hw) (hm_none e123 (hm_none e126 (hm_noneF (fun x hw => hfr162 _ _ (hm_ne0 g160 (hm_none e165 (hm_none e168 (hm_noneF (fun x hw => hfr210 _ _ (hm_ne0 g208 (hm_none e213 (hm_none e216 (hm_noneF (fun x hw => hfr268 _ _ (hm_ne0 g265 (hm_none e271 (hm_none e274 (hm_none e277 (hm_none e280 (hm_none e283 z287)))))).symm hw) (hm_none e271 (hm_none e274 (hm_none e277 (hm_none e280 (hm_none e283 z287))))))))).symm hw) (hm_none e213 (hm_none e216 (hm_noneF (fun x hw => hfr268 _ _ (hm_ne0 g265 (hm_none e271 (hm_none e274 (hm_none e277 (hm_none e280 (hm_none e283 z287)))))).symm hw) (hm_none e271 (hm_none e274 (hm_none e277 (hm_none e280 (hm_none e283 z287)))))))))))).symm hw) (hm_none e165 (hm_none e168 (hm_noneF (fun x hw => hfr210 _ _ (hm_ne0 g208 (hm_none e213 (hm_none e216 (hm_noneF (fun x hw => hfr268 _ _ (hm_ne0 g265 (hm_none e271 (hm_none e274 (hm_none e277 (hm_none e280 (hm_none e283 z287)))))).symm hw) (hm_none e271 (hm_none e274 (hm_none e277 (hm_none e280 (hm_none e283 z287))))))))).symm hw) (hm_none e213 (hm_none e216 (hm_noneF (fun x hw => hfr268 _ _ (hm_ne0 g265 (hm_none e271 (hm_none e274 (hm_none e277 (hm_none e280 (hm_none e283 z287)))))).symm hw) (hm_none e271 (hm_none e274 (hm_none e277 (hm_none e280 (hm_none e283 z287)))))))))))))))))))))))).symm hw) (hm_none e29 (hm_none e32 (hm_noneF (fun x hw => hfr52 _ _ (hm_ne0 g50 (hm_none e55 (hm_none e58 (hm_noneF (fun x hw => hfr84 _ _ (hm_ne0 g82 (hm_none e87 (hm_none e90 (hm_noneF (fun x hw => hfr120 _ _ (hm_ne0 g118 (hm_none e123 (hm_none e126 (hm_noneF (fun x hw => hfr162 _ _ (hm_ne0 g160 (hm_none e165 (hm_none e168 (hm_noneF (fun x hw => hfr210 _ _ (hm_ne0 g208 (hm_none e213 (hm_none e216 (hm_noneF (fun x hw => hfr268 _ _ (hm_ne0 g265 (hm_none e271 (hm_none e274 (hm_none e277 (hm_none e280 (hm_none e283 z287)))))).symm hw) (hm_none e271 (hm_none e274 (hm_none e277 (hm_none e280 (hm_none e283 z287))))))))).symm hw) (hm_none e213 (hm_none e216 (hm_noneF (fun x hw => hfr268 _ _ (hm_ne0 g265 (hm_none e271 (hm_none e274 (hm_none e277 (hm_none e280 (hm_none e283 z287)))))).symm hw) (hm_none e271 (hm_none e274 (hm_none e277 (hm_none e280 (hm_none e283 z287)))))))))))).symm hw) (hm_none e165 (hm_none e168 (hm_noneF (fun x hw => hfr210 _ _ (hm_ne0 g208 (hm_none e213 (hm_none e216 (hm_noneF (fun x hw => hfr268 _ _ (hm_ne0 g265 (hm_none e271 (hm_none e274 (hm_none e277 (hm_none e280 (hm_none e283 z287)))))).symm hw) (hm_none e271 (hm_none e274 (hm_none e277 (hm_none e280 (hm_none e283 z287))))))))).symm hw) (hm_none e213 (hm_none e216 (hm_noneF (fun x hw => hfr268 _ _ (hm_ne0 g265 (hm_none e271 (hm_none e274 (hm_none e277 (hm_none e280 (hm_none e283 z287)))))).symm hw) (hm_none e271 (hm_none e274 (hm_none e277 (hm_none e280 (hm_none e283 z287))))))))))))))).symm hw) (hm_none e123 (hm_none e126 (hm_noneF (fun x hw => hfr162 _ _ (hm_ne0 g160 (hm_none e165 (hm_none e168 (hm_noneF (fun x hw => hfr210 _ _ (hm_ne0 g208 (hm_none e213 (hm_none e216 (hm_noneF (fun x hw => hfr268 _ _ (hm_ne0 g265 (hm_none e271 (hm_none e274 (hm_none e277 (hm_none e280 (hm_none e283 z287)))))).symm hw) (hm_none e271 (hm_none e274 (hm_none e277 (hm_none e280 (hm_none e283 z287))))))))).symm hw) (hm_none e213 (hm_none e216 (hm_noneF (fun x hw => hfr268 _ _ (hm_ne0 g265 (hm_none e271 (hm_none e274 (hm_none e277 (hm_none e280 (hm_none e283 z287)))))).symm hw) (hm_none e271 (hm_none e274 (hm_none e277 (hm_none e280 (hm_none e283 z287)))))))))))).symm hw) (hm_none e165 (hm_none e168 (hm_noneF (fun x hw => hfr210 _ _ (hm_ne0 g208 (hm_none e213 (hm_none e216 (hm_noneF (fun x hw => hfr268 _ _ (hm_ne0 g265 (hm_none e271 (hm_none e274 (hm_none e277 (hm_none e280 (hm_none e283 z287)))))).symm hw) (hm_none e271 (hm_none e274 (hm_none e277 (hm_none e280 (hm_none e283 z287))))))))).symm hw) (hm_none e213 (hm_none e216 (hm_noneF (fun x hw => hfr268 _ _ (hm_ne0 g265 (hm_none e271 (hm_none e274 (hm_none e277 (hm_none e280 (hm_none e283 z287)))))).symm hw) (hm_none e271 (hm_none e274 (hm_none e277 (hm_none e280 (hm_none e283 z287)))))))))))))))))).symm hw) (hm_none e87 (hm_none e90 (hm_noneF (fun x hw => hfr120 _ _ (hm_ne0 g118 (hm_none e123 (hm_none e126 (hm_noneF (fun x hw => hfr162 _ _ (hm_ne0 g160 (hm_none e165 (hm_none e168 (hm_noneF (fun x hw => hfr210 _ _ (hm_ne0 g208 (hm_none e213 (hm_none e216 (hm_noneF (fun x hw => hfr268 _ _ (hm_ne0 g265 (hm_none e271 (hm_none e274 (hm_none e277 (hm_none e280 (hm_none e283 z287)))))).symm hw) (hm_none e271 (hm_none e274 (hm_none e277 (hm_none e280 (hm_none e283 z287))))))))).symm hw) (hm_none e213 (hm_none e216 (hm_noneF (fun x hw => hfr268 _ _ (hm_ne0 g265 (hm_none e271 (hm_none e274 (hm_none e277 (hm_none e280 (hm_none e283 z287)))))).symm hw) (hm_none e271 (hm_none e274 (hm_none e277 (hm_none e280 (hm_none e283 z287)))))))))))).symm hw) (hm_none e165 (hm_none e168 (hm_noneF (fun x hw => hfr210 _ _ (hm_ne0 g208 (hm_none e213 (hm_none e216 (hm_noneF (fun x hw => hfr268 _ _ (hm_ne0 g265 (hm_none e271 (hm_none e274 (hm_none e277 (hm_none e280 (hm_none e283 z287)))))).symm hw) (hm_none e271 (hm_none e274 (hm_none e277 (hm_none e280 (hm_none e283 z287))))))))).symm hw) (hm_none e213 (hm_none e216 (hm_noneF (fun x hw => hfr268 _ _ (hm_ne0 g265 (hm_none e271 (hm_none e274 (hm_none e277 (hm_none e280 (hm_none e283 z287)))))).symm hw) (hm_none e271 (hm_none e274 (hm_none e277 (hm_none e280 (hm_none e283 z287))))))))))))))).symm hw) (hm_none e123 (hm_none e126 (hm_noneF (fun x hw => hfr162 _ _ (hm_ne0 g160 (hm_none e165 (hm_none e168 (hm_noneF (fun x hw => hfr210 _ _ (hm_ne0 g208 (hm_none e213 (hm_none e216 (hm_noneF (fun x hw => hfr268 _ _ (hm_ne0 g265 (hm_none e271 (hm_none e274 (hm_none e277 (hm_none e280 (hm_none e283 z287)))))).symm hw) (hm_none e271 (hm_none e274 (hm_none e277 (hm_none e280 (hm_none e283 z287))))))))).symm hw) (hm_none e213 (hm_none e216 (hm_noneF (fun x hw => hfr268 _ _ (hm_ne0 g265 (hm_none e271 (hm_none e274 (hm_none e277 (hm_none e280 (hm_none e283 z287)))))).symm hw) (hm_none e271 (hm_none e274 (hm_none e277 (hm_none e280 (hm_none e283 z287)))))))))))).symm hw) (hm_none e165 (hm_none e168 (hm_noneF (fun x hw => hfr210 _ _ (hm_ne0 g208 (hm_none e213 (hm_none e216 (hm_noneF (fun x hw => hfr268 _ _ (hm_ne0 g265 (hm_none e271 (hm_none e274 (hm_none e277 (hm_none e280 (hm_none e283 z287)))))).symm hw) (hm_none e271 (hm_none e274 (hm_none e277 (hm_none e280 (hm_none e283 z287))))))))).symm hw) (hm_none e213 (hm_none e216 (hm_noneF (fun x hw => hfr268 _ _ (hm_ne0 g265 (hm_none e271 (hm_none e274 (hm_none e277 (hm_none e280 (hm_none e283 z287)))))).symm hw) (hm_none e271 (hm_none e274 (hm_none e277 (hm_none e280 (hm_none e283 z287))))))))))))))))))))).symm hw) (hm_none e55 (hm_none e58 (hm_noneF (fun x hw => hfr84 _ _ (hm_ne0 g82 (hm_none e87 (hm_none e90 (hm_noneF (fun x hw => hfr120 _ _ (hm_ne0 g118 (hm_none e123 (hm_none e126 (hm_noneF (fun x hw => hfr162 _ _ (hm_ne0 g160 (hm_none e165 (hm_none e168 (hm_noneF (fun x hw => hfr210 _ _ (hm_ne0 g208 (hm_none e213 (hm_none e216 (hm_noneF (fun x hw => hfr268 _ _ (hm_ne0 g265 (hm_none e271 (hm_none e274 (hm_none e277 (hm_none e280 (hm_none e283 z287)))))).symm hw) (hm_none e271 (hm_none e274 (hm_none e277 (hm_none e280 (hm_none e283 z287))))))))).symm hw) (hm_none e213 (hm_none e216 (hm_noneF (fun x hw => hfr268 _ _ (hm_ne0 g265 (hm_none e271 (hm_none e274 (hm_none e277 (hm_none e280 (hm_none e283 z287)))))).symm hw) (hm_none e271 (hm_none e274 (hm_none e277 (hm_none e280 (hm_none e283 z287)))))))))))).symm hw) (hm_none e165 (hm_none e168 (hm_noneF (fun x hw => hfr210 _ _ (hm_ne0 g208 (hm_none e213 (hm_none e216 (hm_noneF (fun x hw => hfr268 _ _ (hm_ne0 g265 (hm_none e271 (hm_none e274 (hm_none e277 (hm_none e280 (hm_none e283 z287)))))).symm hw) (hm_none e271 (hm_none e274 (hm_none e277 (hm_none e280 (hm_none e283 z287))))))))).symm hw) (hm_none e213 (hm_none e216 (hm_noneF (fun x hw => hfr268 _ _ (hm_ne0 g265 (hm_none e271 (hm_none e274 (hm_none e277 (hm_none e280 (hm_none e283 z287)))))).symm hw) (hm_none e271 (hm_none e274 (hm_none e277 (hm_none e280 (hm_none e283 z287))))))))))))))).symm hw) (hm_none e123 (hm_none e126 (hm_noneF (fun x hw => hfr162 _ _ (hm_ne0 g160 (hm_none e165 (hm_none e168 (hm_noneF (fun x hw => hfr210 _ _ (hm_ne0 g208 (hm_none e213 (hm_none e216 (hm_noneF (fun x hw => hfr268 _ _ (hm_ne0 g265 (hm_none e271 (hm_none e274 (hm_none e277 (hm_none e280 (hm_none e283 z287)))))).symm hw) (hm_none e271 (hm_none e274 (hm_none e277 (hm_none e280 (hm_none e283 z287))))))))).symm hw) (hm_none e213 (hm_none e216 (hm_noneF (fun x hw => hfr268 _ _ (hm_ne0 g265 (hm_none e271 (hm_none e274 (hm_none e277 (hm_none e280 (hm_none e283 z287)))))).symm hw) (hm_none e271 (hm_none e274 (hm_none e277 (hm_none e280 (hm_none e283 z287)))))))))))).symm hw) (hm_none e165 (hm_none e168 (hm_noneF (fun x hw => hfr210 _ _ (hm_ne0 g208 (hm_none e213 (hm_none e216 (hm_noneF (fun x hw => hfr268 _ _ (hm_ne0 g265 (hm_none e271 (hm_none e274 (hm_none e277 (hm_none e280 (hm_none e283 z287)))))).symm hw) (hm_none e271 (hm_none e274 (hm_none e277 (hm_none e280 (hm_none e283 z287))))))))).symm hw) (hm_none e213 (hm_none e216 (hm_noneF (fun x hw => hfr268 _ _ (hm_ne0 g265 (hm_none e271 (hm_none e274 (hm_none e277 (hm_none e280 (hm_none e283 z287)))))).symm hw) (hm_none e271 (hm_none e274 (hm_none e277 (hm_none e280 (hm_none e283 z287)))))))))))))))))).symm hw) (hm_none e87 (hm_none e90 (hm_noneF (fun x hw => hfr120 _ _ (hm_ne0 g118 (hm_none e123 (hm_none e126 (hm_noneF (fun x hw => hfr162 _ _ (hm_ne0 g160 (hm_none e165 (hm_none e168 (hm_noneF (fun x hw => hfr210 _ _ (hm_ne0 g208 (hm_none e213 (hm_none e216 (hm_noneF (fun x hw => hfr268 _ _ (hm_ne0 g265 (hm_none e271 (hm_none e274 (hm_none e277 (hm_none e280 (hm_none e283 z287)))))).symm hw) (hm_none e271 (hm_none e274 (hm_none e277 (hm_none e280 (hm_none e283 z287))))))))).symm hw) (hm_none e213 (hm_none e216 (hm_noneF (fun x hw => hfr268 _ _ (hm_ne0 g265 (hm_none e271 (hm_none e274 (hm_none e277 (hm_none e280 (hm_none e283 z287)))))).symm hw) (hm_none e271 (hm_none e274 (hm_none e277 (hm_none e280 (hm_none e283 z287)))))))))))).symm hw) (hm_none e165 (hm_none e168 (hm_noneF (fun x hw => hfr210 _ _ (hm_ne0 g208 (hm_none e213 (hm_none e216 (hm_noneF (fun x hw => hfr268 _ _ (hm_ne0 g265 (hm_none e271 (hm_none e274 (hm_none e277 (hm_none e280 (hm_none e283 z287)))))).symm hw) (hm_none e271 (hm_none e274 (hm_none e277 (hm_none e280 (hm_none e283 z287))))))))).symm hw) (hm_none e213 (hm_none e216 (hm_noneF (fun x hw => hfr268 _ _ (hm_ne0 g265 (hm_none e271 (hm_none e274 (hm_none e277 (hm_none e280 (hm_none e283 z287)))))).symm hw) (hm_none e271 (hm_none e274 (hm_none e277 (hm_none e280 (hm_none e283 z287))))))))))))))).symm hw) (hm_none e123 (hm_none e126 (hm_noneF (fun x hw => hfr162 _ _ (hm_ne0 g160 (hm_none e165 (hm_none e168 (hm_noneF (fun x hw => hfr210 _ _ (hm_ne0 g208 (hm_none e213 (hm_none e216 (hm_noneF (fun x hw => hfr268 _ _ (hm_ne0 g265 (hm_none e271 (hm_none e274 (hm_none e277 (hm_none e280 (hm_none e283 z287)))))).symm hw) (hm_none e271 (hm_none e274 (hm_none e277 (hm_none e280 (hm_none e283 z287))))))))).symm hw) (hm_none e213 (hm_none e216 (hm_noneF (fun x hw => hfr268 _ _ (hm_ne0 g265 (hm_none e271 (hm_none e274 (hm_none e277 (hm_none e280 (hm_none e283 z287)))))).symm hw) (hm_none e271 (hm_none e274 (hm_none e277 (hm_none e280 (hm_none e283 z287)))))))))))).symm hw) (hm_none e165 (hm_none e168 (hm_noneF (fun x hw => hfr210 _ _ (hm_ne0 g208 (hm_none e213 (hm_none e216 (hm_noneF (fun x hw => hfr268 _ _ (hm_ne0 g265 (hm_none e271 (hm_none e274 (hm_none e277 (hm_none e280 (hm_none e283 z287)))))).symm hw) (hm_none e271 (hm_none e274 (hm_none e277 (hm_none e280 (hm_none e283 z287))))))))).symm hw) (hm_none e213 (hm_none e216 (hm_noneF (fun x hw => hfr268 _ _ (hm_ne0 g265 (hm_none e271 (hm_none e274 (hm_none e277 (hm_none e280 (hm_none e283 z287)))))).symm hw) (hm_none e271 (hm_none e274 (hm_none e277 (hm_none e280 (hm_none e283 z287))))))))))))))))))))))))))) | 12, _, h9 => absurd h9 (by decide) | 13, _, h9 => absurd h9 (by decide) | 14, _, h9 => (hm_none e3 (hm_none e8 (hm_none e11 z22))) | 15, _, h9 => (hm_none e3 (hm_none e8 (hm_none e11 (hm_noneF (fun x hw => hfr26 _ _ (hm_ne0 g24 (hm_none e29 (hm_none e32 z48))).symm hw) (hm_none e29 (hm_none e32 z48)))))) | 16, _, h9 => (hm_none e3 (hm_none e8 (hm_none e11 (hm_noneF (fun x hw => hfr26 _ _ (hm_ne0 g24 (hm_none e29 (hm_none e32 (hm_noneF (fun x hw => hfr52 _ _ (hm_ne0 g50 (hm_none e55 (hm_none e58 z80))).symm hw) (hm_none e55 (hm_none e58 z80)))))).symm hw) (hm_none e29 (hm_none e32 (hm_noneF (fun x hw => hfr52 _ _ (hm_ne0 g50 (hm_none e55 (hm_none e58 z80))).symm hw) (hm_none e55 (hm_none e58 z80))))))))) | 17, _, h9 => (hm_none e3 (hm_none e8 (hm_none e11 (hm_noneF (fun x hw => hfr26 _ _ (hm_ne0 g24 (hm_none e29 (hm_none e32 (hm_noneF (fun x hw => hfr52 _ _ (hm_ne0 g50 (hm_none e55 (hm_none e58 (hm_noneF (fun x hw => hfr84 _ _ (hm_ne0 g82 (hm_none e87 (hm_none e90 z117))).symm hw) (hm_none e87 (hm_none e90 z117)))))).symm hw) (hm_none e55 (hm_none e58 (hm_noneF (fun x hw => hfr84 _ _ (hm_ne0 g82 (hm_none e87 (hm_none e90 z117))).symm hw) (hm_none e87 (hm_none e90 z117))))))))).symm hw) (hm_none e29 (hm_none e32 (hm_noneF (fun x hw => hfr52 _ _ (hm_ne0 g50 (hm_none e55 (hm_none e58 (hm_noneF (fun x hw => hfr84 _ _ (hm_ne0 g82 (hm_none e87 (hm_none e90 z117))).symm hw) (hm_none e87 (hm_none e90 z117)))))).symm hw) (hm_none e55 (hm_none e58 (hm_noneF (fun x hw => hfr84 _ _ (hm_ne0 g82 (hm_none e87 (hm_none e90 z117))).symm hw) (hm_none e87 (hm_none e90 z117)))))))))))) | 18, _, h9 => (hm_none e3 (hm_none e8 (hm_none e11 (hm_noneF (fun x hw => hfr26 _ _ (hm_ne0 g24 (hm_none e29 (hm_none e32 (hm_noneF (fun x hw => hfr52 _ _ (hm_ne0 g50 (hm_none e55 (hm_none e58 (hm_noneF (fun x hw => hfr84 _ _ (hm_ne0 g82 (hm_none e87 (hm_none e90 (hm_noneF (fun x hw => hfr120 _ _ (hm_ne0 g118 (hm_none e123 (hm_none e126 z159))).symm hw) (hm_none e123 (hm_none e126 z159)))))).symm hw) (hm_none e87 (hm_none e90 (hm_noneF (fun x hw => hfr120 _ _ (hm_ne0 g118 (hm_none e123 (hm_none e126 z159))).symm hw) (hm_none e123 (hm_none e126 z159))))))))).symm hw) (hm_none e55 (hm_none e58 (hm_noneF (fun x hw => hfr84 _ _ (hm_ne0 g82 (hm_none e87 (hm_none e90 (hm_noneF (fun x hw => hfr120 _ _ (hm_ne0 g118 (hm_none e123 (hm_none e126 z159))).symm hw) (hm_none e123 (hm_none e126 z159)))))).symm hw) (hm_none e87 (hm_none e90 (hm_noneF (fun x hw => hfr120 _ _ (hm_ne0 g118 (hm_none e123 (hm_none e126 z159))).symm hw) (hm_none e123 (hm_none e126 z159)))))))))))).symm hw) (hm_none e29 (hm_none e32 (hm_noneF (fun x hw => hfr52 _ _ (hm_ne0 g50 (hm_none e55 (hm_none e58 (hm_noneF (fun x hw => hfr84 _ _ (hm_ne0 g82 (hm_none e87 (hm_none e90 (hm_noneF (fun x hw => hfr120 _ _ (hm_ne0 g118 (hm_none e123 (hm_none e126 z159))).symm hw) (hm_none e123 (hm_none e126 z159)))))).symm hw) (hm_none e87 (hm_none e90 (hm_noneF (fun x hw => hfr120 _ _ (hm_ne0 g118 (hm_none e123 (hm_none e126 z159))).symm hw) (hm_none e123 (hm_none e126 z159))))))))).symm hw) (hm_none e55 (hm_none e58 (hm_noneF (fun x hw => hfr84 _ _ (hm_ne0 g82 (hm_none e87 (hm_none e90 (hm_noneF (fun x hw => hfr120 _ _ (hm_ne0 g118 (hm_none e123 (hm_none e126 z159))).symm hw) (hm_none e123 (hm_none e126 z159)))))).symm hw) (hm_none e87 (hm_none e90 (hm_noneF (fun x hw => hfr120 _ _ (hm_ne0 g118 (hm_none e123 (hm_none e126 z159))).symm hw) (hm_none e123 (hm_none e126 z159))))))))))))))) | 19, _, h9 => (hm_none e3 (hm_none e8 (hm_none e11 (hm_noneF (fun x hw => hfr26 _ _ (hm_ne0 g24 (hm_none e29 (hm_none e32 (hm_noneF (fun x hw => hfr52 _ _ (hm_ne0 g50 (hm_none e55 (hm_none e58 (hm_noneF (fun x hw => hfr84 _ _ (hm_ne0 g82 (hm_none e87 (hm_none e90 (hm_noneF (fun x hw => hfr120 _ _ (hm_ne0 g118 (hm_none e123 (hm_none e126 (hm_noneF (fun x hw => hfr162 _ _ (hm_ne0 g160 (hm_none e165 (hm_none e168 z207))).symm hw) (hm_none e165 (hm_none e168 z207)))))).symm hw) (hm_none e123 (hm_none e126 (hm_noneF (fun x hw => hfr162 _ _ (hm_ne0 g160 (hm_none e165 (hm_none e168 z207))).symm hw) (hm_none e165 (hm_none e168 z207))))))))).symm hw) (hm_none e87 (hm_none e90 (hm_noneF (fun x hw => hfr120 _ _ (hm_ne0 g118 (hm_none e123 (hm_none e126 (hm_noneF (fun x hw => hfr162 _ _ (hm_ne0 g160 (hm_none e165 (hm_none e168 z207))).symm hw) (hm_none e165 (hm_none e168 z207)))))).symm hw) (hm_none e123 (hm_none e126 (hm_noneF (fun x hw => hfr162 _ _ (hm_ne0 g160 (hm_none e165 (hm_none e168 z207))).symm hw) (hm_none e165 (hm_none e168 z207)))))))))))).symm hw) (hm_none e55 (hm_none e58 (hm_noneF (fun x hw => hfr84 _ _ (hm_ne0 g82 (hm_none e87 (hm_none e90 (hm_noneF (fun x hw => hfr120 _ _ (hm_ne0 g118 (hm_none e123 (hm_none e126 (hm_noneF (fun x hw => hfr162 _ _ (hm_ne0 g160 (hm_none e165 (hm_none e168 z207))).symm hw) (hm_none e165 (hm_none e168 z207)))))).symm hw) (hm_none e123 (hm_none e126 (hm_noneF (fun x hw => hfr162 _ _ (hm_ne0 g160 (hm_none e165 (hm_none e168 z207))).symm hw) (hm_none e165 (hm_none e168 z207))))))))).symm hw) (hm_none e87 (hm_none e90 (hm_noneF (fun x hw => hfr120 _ _ (hm_ne0 g118 (hm_none e123 (hm_none e126 (hm_noneF (fun x hw => hfr162 _ _ (hm_ne0 g160 (hm_none e165 (hm_none e168 z207))).symm hw) (hm_none e165 (hm_none e168 z207)))))).symm hw) (hm_none e123 (hm_none e126 (hm_noneF (fun x hw => hfr162 _ _ (hm_ne0 g160 (hm_none e165 (hm_none e168 z207))).symm hw) (hm_none e165 (hm_none e168 z207))))))))))))))).symm hw) (hm_none e29 (hm_none e32 (hm_noneF (fun x hw => hfr52 _ _ (hm_ne0 g50 (hm_none e55 (hm_none e58 (hm_noneF (fun x hw => hfr84 _ _ (hm_ne0 g82 (hm_none e87 (hm_none e90 (hm_noneF (fun x hw => hfr120 _ _ (hm_ne0 g118 (hm_none e123 (hm_none e126 (hm_noneF (fun x hw => hfr162 _ _ (hm_ne0 g160 (hm_none e165 (hm_none e168 z207))).symm hw) (hm_none e165 (hm_none e168 z207)))))).symm hw) (hm_none e123 (hm_none e126 (hm_noneF (fun x hw => hfr162 _ _ (hm_ne0 g160 (hm_none e165 (hm_none e168 z207))).symm hw) (hm_none e165 (hm_none e168 z207))))))))).symm hw) (hm_none e87 (hm_none e90 (hm_noneF (fun x hw => hfr120 _ _ (hm_ne0 g118 (hm_none e123 (hm_none e126 (hm_noneF (fun x hw => hfr162 _ _ (hm_ne0 g160 (hm_none e165 (hm_none e168 z207))).symm hw) (hm_none e165 (hm_none e168 z207)))))).symm hw) (hm_none e123 (hm_none e126 (hm_noneF (fun x hw => hfr162 _ _ (hm_ne0 g160 (hm_none e165 (hm_none e168 z207))).symm hw) (hm_none e165 (hm_none e168 z207)))))))))))).symm hw) (hm_none e55 (hm_none e58 (hm_noneF (fun x hw => hfr84 _ _ (hm_ne0 g82 (hm_none e87 (hm_none e90 (hm_noneF (fun x hw => hfr120 _ _ (hm_ne0 g118 (hm_none e123 (hm_none e126 (hm_noneF (fun x hw => hfr162 _ _ (hm_ne0 g160 (hm_none e165 (hm_none e168 z207))).symm hw) (hm_none e165 (hm_none e168 z207)))))).symm hw) (hm_none e123 (hm_none e126 (hm_noneF (fun x hw => hfr162 _ _ (hm_ne0 g160 (hm_none e165 (hm_none e168 z207))).symm hw) (hm_none e165 (hm_none e168 z207))))))))).symm hw) (hm_none e87 (hm_none e90 (hm_noneF (fun x hw => hfr120 _ _ (hm_ne0 g118 (hm_none e123 (hm_none e126 (hm_noneF (fun x hw => hfr162 _ _ (hm_ne0 g160 (hm_none e165 (hm_none e168 z207))).symm hw) (hm_none e165 (hm_none e168 z207)))))).symm hw) (hm_none e123 (hm_none e126 (hm_noneF (fun x hw => hfr162 _ _ (hm_ne0 g160 (hm_none e165 (hm_none e168 z207))).symm hw) (hm_none e165 (hm_none e168 z207)))))))))))))))))) | 20, _, h9 => (hm_none e3 (hm_none e8 (hm_none e11 (hm_noneF (fun x hw => hfr26 _ _ (hm_ne0 g24 (hm_none e29 (hm_none e32 (hm_noneF (fun x hw => hfr52 _ _ (hm_ne0 g50 (hm_none e55 (hm_none e58 (hm_noneF (fun x hw => hfr84 _ _ (hm_ne0 g82 (hm_none e87 (hm_none e90 (hm_noneF (fun x hw => hfr120 _ _ (hm_ne0 g118 (hm_none e123 (hm_none e126 (hm_noneF (fun x hw => hfr162 _ _ (hm_ne0 g160 (hm_none e165 (hm_none e168 (hm_noneF (fun x hw => hfr210 _ _ (hm_ne0 g208 (hm_none e213 (hm_none e216 z262))).symm hw) (hm_none e213 (hm_none e216 z262)))))).symm hw) (hm_none e165 (hm_none e168 (hm_noneF (fun x hw => hfr210 _ _ (hm_ne0 g208 (hm_none e213 (hm_none e216 z262))).symm hw) (hm_none e213 (hm_none e216 z262))))))))).symm hw) (hm_none e123 (hm_none e126 (hm_noneF (fun x hw => hfr162 _ _ (hm_ne0 g160 (hm_none e165 (hm_none e168 (hm_noneF (fun x hw => hfr210 _ _ (hm_ne0 g208 (hm_none e213 (hm_none e216 z262))).symm hw) (hm_none e213 (hm_none e216 z262)))))).symm hw) (hm_none e165 (hm_none e168 (hm_noneF (fun x hw => hfr210 _ _ (hm_ne0 g208 (hm_none e213 (hm_none e216 z262))).symm hw) (hm_none e213 (hm_none e216 z262)))))))))))).symm hw) (hm_none e87 (hm_none e90 (hm_noneF (fun x hw => hfr120 _ _ (hm_ne0 g118 (hm_none e123 (hm_none e126 (hm_noneF (fun x hw => hfr162 _ _ (hm_ne0 g160 (hm_none e165 (hm_none e168 (hm_noneF (fun x hw => hfr210 _ _ (hm_ne0 g208 (hm_none e213 (hm_none e216 z262))).symm hw) (hm_none e213 (hm_none e216 z262)))))).symm hw) (hm_none e165 (hm_none e168 (hm_noneF (fun x hw => hfr210 _ _ (hm_ne0 g208 (hm_none e213 (hm_none e216 z262))).symm hw) (hm_none e213 (hm_none e216 z262))))))))).symm hw) (hm_none e123 (hm_none e126 (hm_noneF (fun x hw => hfr162 _ _ (hm_ne0 g160 (hm_none e165 (hm_none e168 (hm_noneF (fun x hw => hfr210 _ _ (hm_ne0 g208 (hm_none e213 (hm_none e216 z262))).symm hw) (hm_none e213 (hm_none e216 z262)))))).symm hw) (hm_none e165 (hm_none e168 (hm_noneF (fun x hw => hfr210 _ _ (hm_ne0 g208 (hm_none e213 (hm_none e216 z262))).symm hw) (hm_none e213 (hm_none e216 z262))))))))))))))).symm hw) (hm_none e55 (hm_none e58 (hm_noneF (fun x hw => hfr84 _ _ (hm_ne0 g82 (hm_none e87 (hm_none e90 (hm_noneF (fun x hw => hfr120 _ _ (hm_ne0 g118 (hm_none e123 (hm_none e126 (hm_noneF (fun x hw => hfr162 _ _ (hm_ne0 g160 (hm_none e165 (hm_none e168 (hm_noneF (fun x hw => hfr210 _ _ (hm_ne0 g208 (hm_none e213 (hm_none e216 z262))).symm hw) (hm_none e213 (hm_none e216 z262)))))).symm hw) (hm_none e165 (hm_none e168 (hm_noneF (fun x hw => hfr210 _ _ (hm_ne0 g208 (hm_none e213 (hm_none e216 z262))).symm hw) (hm_none e213 (hm_none e216 z262))))))))).symm hw) (hm_none e123 (hm_none e126 (hm_noneF (fun x hw => hfr162 _ _ (hm_ne0 g160 (hm_none e165 (hm_none e168 (hm_noneF (fun x hw => hfr210 _ _ (hm_ne0 g208 (hm_none e213 (hm_none e216 z262))).symm hw) (hm_none e213 (hm_none e216 z262)))))).symm hw) (hm_none e165 (hm_none e168 (hm_noneF (fun x hw => hfr210 _ _ (hm_ne0 g208 (hm_none e213 (hm_none e216 z262))).symm hw) (hm_none e213 (hm_none e216 z262)))))))))))).symm hw) (hm_none e87 (hm_none e90 (hm_noneF (fun x hw => hfr120 _ _ (hm_ne0 g118 (hm_none e123 (hm_none e126 (hm_noneF (fun x hw => hfr162 _ _ (hm_ne0 g160 (hm_none e165 (hm_none e168 (hm_noneF (fun x hw => hfr210 _ _ (hm_ne0 g208 (hm_none e213 (hm_none e216 z262))).symm hw) (hm_none e213 (hm_none e216 z262)))))).symm hw) (hm_none e165 (hm_none e168 (hm_noneF (fun x hw => hfr210 _ _ (hm_ne0 g208 (hm_none e213 (hm_none e216 z262))).symm hw) (hm_none e213 (hm_none e216 z262))))))))).symm hw) (hm_none e123 (hm_none e126 (hm_noneF (fun x hw => hfr162 _ _ (hm_ne0 g160 (hm_none e165 (hm_none e168 (hm_noneF (fun x hw => hfr210 _ _ (hm_ne0 g208 (hm_none e213 (hm_none e216 z262))).symm hw) (hm_none e213 (hm_none e216 z262)))))).symm hw) (hm_none e165 (hm_none e168 (hm_noneF (fun x hw => hfr210 _ _ (hm_ne0 g208 (hm_none e213 (hm_none e216 z262))).symm hw) (hm_none e213 (hm_none e216 z262)))))))))))))))))).symm hw) (hm_none e29 (hm_none e32 (hm_noneF (fun x hw => hfr52 _ _ (hm_ne0 g50 (hm_none e55 (hm_none e58 (hm_noneF (fun x hw => hfr84 _ _ (hm_ne0 g82 (hm_none e87 (hm_none e90 (hm_noneF (fun x hw => hfr120 _ _ (hm_ne0 g118 (hm_none e123 (hm_none e126 (hm_noneF (fun x hw => hfr162 _ _ (hm_ne0 g160 (hm_none e165 (hm_none e168 (hm_noneF (fun x hw => hfr210 _ _ (hm_ne0 g208 (hm_none e213 (hm_none e216 z262))).symm hw) (hm_none e213 (hm_none e216 z262)))))).symm hw) (hm_none e165 (hm_none e168 (hm_noneF (fun x hw => hfr210 _ _ (hm_ne0 g208 (hm_none e213 (hm_none e216 z262))).symm hw) (hm_none e213 (hm_none e216 z262))))))))).symm hw) (hm_none e123 (hm_none e126 (hm_noneF (fun x hw => hfr162 _ _ (hm_ne0 g160 (hm_none e165 (hm_none e168 (hm_noneF (fun x hw => hfr210 _ _ (hm_ne0 g208 (hm_none e213 (hm_none e216 z262))).symm hw) (hm_none e213 (hm_none e216 z262)))))).symm hw) (hm_none e165 (hm_none e168 (hm_noneF (fun x hw => hfr210 _ _ (hm_ne0 g208 (hm_none e213 (hm_none e216 z262))).symm hw) (hm_none e213 (hm_none e216 z262)))))))))))).symm hw) (hm_none e87 (hm_none e90 (hm_noneF (fun x hw => hfr120 _ _ (hm_ne0 g118 (hm_none e123 (hm_none e126 (hm_noneF (fun x hw => hfr162 _ _ (hm_ne0 g160 (hm_none e165 (hm_none e168 (hm_noneF (fun x hw => hfr210 _ _ (hm_ne0 g208 (hm_none e213 (hm_none e216 z262))).symm hw) (hm_none e213 (hm_none e216 z262)))))).symm hw) (hm_none e165 (hm_none e168 (hm_noneF (fun x hw => hfr210 _ _ (hm_ne0 g208 (hm_none e213 (hm_none e216 z262))).symm hw) (hm_none e213 (hm_none e216 z262))))))))).symm hw) (hm_none e123 (hm_none e126 (hm_noneF (fun x hw => hfr162 _ _ (hm_ne0 g160 (hm_none e165 (hm_none e168 (hm_noneF (fun x hw => hfr210 _ _ (hm_ne0 g208 (hm_none e213 (hm_none e216 z262))).symm hw) (hm_none e213 (hm_none e216 z262)))))).symm hw) (hm_none e165 (hm_none e168 (hm_noneF (fun x hw => hfr210 _ _ (hm_ne0 g208 (hm_none e213 (hm_none e216 z262))).symm hw) (hm_none e213 (hm_none e216 z262))))))))))))))).symm hw) (hm_none e55 (hm_none e58 (hm_noneF (fun x hw => hfr84 _ _ (hm_ne0 g82 (hm_none e87 (hm_none e90 (hm_noneF (fun x hw => hfr120 _ _ (hm_ne0 g118 (hm_none e123 (hm_none e126 (hm_noneF (fun x hw => hfr162 _ _ (hm_ne0 g160 (hm_none e165 (hm_none e168 (hm_noneF (fun x hw => hfr210 _ _ (hm_ne0 g208 (hm_none e213 (hm_none e216 z262))).symm hw) (hm_none e213 (hm_none e216 z262)))))).symm hw) (hm_none e165 (hm_none e168 (hm_noneF (fun x hw => hfr210 _ _ (hm_ne0 g208 (hm_none e213 (hm_none e216 z262))).symm hw) (hm_none e213 (hm_none e216 z262))))))))).symm hw) (hm_none e123 (hm_none e126 (hm_noneF (fun x hw => hfr162 _ _ (hm_ne0 g160 (hm_none e165 (hm_none e168 (hm_noneF (fun x hw => hfr210 _ _ (hm_ne0 g208 (hm_none e213 (hm_none e216 z262))).symm hw) (hm_none e213 (hm_none e216 z262)))))).symm hw) (hm_none e165 (hm_none e168 (hm_noneF (fun x hw => hfr210 _ _ (hm_ne0 g208 (hm_none e213 (hm_none e216 z262))).symm hw) (hm_none e213 (hm_none e216 z262)))))))))))).symm hw) (hm_none e87 (hm_none e90 (hm_noneF (fun x hw => hfr120 _ _ (hm_ne0 g118 (hm_none e123 (hm_none e126 (hm_noneF (fun x hw => hfr162 _ _ (hm_ne0 g160 (hm_none e165 (hm_none e168 (hm_noneF (fun x hw => hfr210 _ _ (hm_ne0 g208 (hm_none e213 (hm_none e216 z262))).symm hw) (hm_none e213 (hm_none e216 z262)))))).symm hw) (hm_none e165 (hm_none e168 (hm_noneF (fun x hw => hfr210 _ _ (hm_ne0 g208 (hm_none e213 (hm_none e216 z262))).symm hw) (hm_none e213 (hm_none e216 z262))))))))).symm hw) (hm_none e123 (hm_none e126 (hm_noneF (fun x hw => hfr162 _ _ (hm_ne0 g160 (hm_none e165 (hm_none e168 (hm_noneF (fun x hw => hfr210 _ _ (hm_ne0 g208 (hm_none e213 (hm_none e216 z262))).symm hw) (hm_none e213 (hm_none e216 z262)))))).symm hw) (hm_none e165 (hm_none e168 (hm_noneF (fun x hw => hfr210 _ _ (hm_ne0 g208 (hm_none e213 (hm_none e216 z262))).symm hw) (hm_none e213 (hm_none e216 z262))))))))))))))))))))) | 21, _, h9 => (hm_none e3 (hm_none e8 (hm_none e11 (hm_noneF (fun x hw => hfr26 _ _ (hm_ne0 g24 (hm_none e29 (hm_none e32 (hm_noneF (fun x hw => hfr52 _ _ (hm_ne0 g50 (hm_none e55 (hm_none e58 (hm_noneF (fun x hw => hfr84 _ _ (hm_ne0 g82 (hm_none e87 (hm_none e90 (hm_noneF (fun x hw => hfr120 _ _ (hm_ne0 g118 (hm_none e123 (hm_none e126 (hm_noneF (fun x hw => hfr162 _ _ (hm_ne0 g160 (hm_none e165 (hm_none e168 (hm_noneF (fun x hw => hfr210 _ _ (hm_ne0 g208 (hm_none e213 (hm_none e216 z263))).symm hw) (hm_none e213 (hm_none e216 z263)))))).symm hw) (hm_none e165 (hm_none e168 (hm_noneF (fun x hw => hfr210 _ _ (hm_ne0 g208 (hm_none e213 (hm_none e216 z263))).symm hw) (hm_none e213 (hm_none e216 z263))))))))).symm hw) (hm_none e123 (hm_none e126 (hm_noneF (fun x hw => hfr162 _ _ (hm_ne0 g160 (hm_none e165 (hm_none e168 (hm_noneF (fun x hw => hfr210 _ _ (hm_ne0 g208 (hm_none e213 (hm_none e216 z263))).symm hw) (hm_none e213 (hm_none e216 z263)))))).symm hw) (hm_none e165 (hm_none e168 (hm_noneF (fun x hw => hfr210 _ _ (hm_ne0 g208 (hm_none e213 (hm_none e216 z263))).symm hw) (hm_none e213 (hm_none e216 z263)))))))))))).symm hw) (hm_none e87 (hm_none e90 (hm_noneF (fun x hw => hfr120 _ _ (hm_ne0 g118 (hm_none e123 (hm_none e126 (hm_noneF (fun x hw => hfr162 _ _ (hm_ne0 g160 (hm_none e165 (hm_none e168 (hm_noneF (fun x hw => hfr210 _ _ (hm_ne0 g208 (hm_none e213 (hm_none e216 z263))).symm hw) (hm_none e213 (hm_none e216 z263)))))).symm hw) (hm_none e165 (hm_none e168 (hm_noneF (fun x hw => hfr210 _ _ (hm_ne0 g208 (hm_none e213 (hm_none e216 z263))).symm hw) (hm_none e213 (hm_none e216 z263))))))))).symm hw) (hm_none e123 (hm_none e126 (hm_noneF (fun x hw => hfr162 _ _ (hm_ne0 g160 (hm_none e165 (hm_none e168 (hm_noneF (fun x hw => hfr210 _ _ (hm_ne0 g208 (hm_none e213 (hm_none e216 z263))).symm hw) (hm_none e213 (hm_none e216 z263)))))).symm hw) (hm_none e165 (hm_none e168 (hm_noneF (fun x hw => hfr210 _ _ (hm_ne0 g208 (hm_none e213 (hm_none e216 z263))).symm hw) (hm_none e213 (hm_none e216 z263))))))))))))))).symm hw) (hm_none e55 (hm_none e58 (hm_noneF (fun x hw => hfr84 _ _ (hm_ne0 g82 (hm_none e87 (hm_none e90 (hm_noneF (fun x hw => hfr120 _ _ (hm_ne0 g118 (hm_none e123 (hm_none e126 (hm_noneF (fun x hw => hfr162 _ _ (hm_ne0 g160 (hm_none e165 (hm_none e168 (hm_noneF (fun x hw => hfr210 _ _ (hm_ne0 g208 (hm_none e213 (hm_none e216 z263))).symm hw) (hm_none e213 (hm_none e216 z263)))))).symm hw) (hm_none e165 (hm_none e168 (hm_noneF (fun x hw => hfr210 _ _ (hm_ne0 g208 (hm_none e213 (hm_none e216 z263))).symm hw) (hm_none e213 (hm_none e216 z263))))))))).symm hw) (hm_none e123 (hm_none e126 (hm_noneF (fun x hw => hfr162 _ _ (hm_ne0 g160 (hm_none e165 (hm_none e168 (hm_noneF (fun x hw => hfr210 _ _ (hm_ne0 g208 (hm_none e213 (hm_none e216 z263))).symm hw) (hm_none e213 (hm_none e216 z263)))))).symm hw) (hm_none e165 (hm_none e168 (hm_noneF (fun x hw => hfr210 _ _ (hm_ne0 g208 (hm_none e213 (hm_none e216 z263))).symm hw) (hm_none e213 (hm_none e216 z263)))))))))))).symm hw) (hm_none e87 (hm_none e90 (hm_noneF (fun x hw => hfr120 _ _ (hm_ne0 g118 (hm_none e123 (hm_none e126 (hm_noneF (fun x hw => hfr162 _ _ (hm_ne0 g160 (hm_none e165 (hm_none e168 (hm_noneF (fun x hw => hfr210 _ _ (hm_ne0 g208 (hm_none e213 (hm_none e216 z263))).symm hw) (hm_none e213 (hm_none e216 z263)))))).symm hw) (hm_none e165 (hm_none e168 (hm_noneF (fun x hw => hfr210 _ _ (hm_ne0 g208 (hm_none e213 (hm_none e216 z263))).symm hw) (hm_none e213 (hm_none e216 z263))))))))).symm hw) (hm_none e123 (hm_none e126 (hm_noneF (fun x hw => hfr162 _ _ (hm_ne0 g160 (hm_none e165 (hm_none e168 (hm_noneF (fun x hw => hfr210 _ _ (hm_ne0 g208 (hm_none e213 (hm_none e216 z263))).symm hw) (hm_none e213 (hm_none e216 z263)))))).symm hw) (hm_none e165 (hm_none e168 (hm_noneF (fun x hw => hfr210 _ _ (hm_ne0 g208 (hm_none e213 (hm_none e216 z263))).symm hw) (hm_none e213 (hm_none e216 z263)))))))))))))))))).symm hw) (hm_none e29 (hm_none e32 (hm_noneF (fun x hw => hfr52 _ _ (hm_ne0 g50 (hm_none e55 (hm_none e58 (hm_noneF (fun x hw => hfr84 _ _ (hm_ne0 g82 (hm_none e87 (hm_none e90 (hm_noneF (fun x hw => hfr120 _ _ (hm_ne0 g118 (hm_none e123 (hm_none e126 (hm_noneF (fun x hw => hfr162 _ _ (hm_ne0 g160 (hm_none e165 (hm_none e168 (hm_noneF (fun x hw => hfr210 _ _ (hm_ne0 g208 (hm_none e213 (hm_none e216 z263))).symm hw) (hm_none e213 (hm_none e216 z263)))))).symm hw) (hm_none e165 (hm_none e168 (hm_noneF (fun x hw => hfr210 _ _ (hm_ne0 g208 (hm_none e213 (hm_none e216 z263))).symm hw) (hm_none e213 (hm_none e216 z263))))))))).symm hw) (hm_none e123 (hm_none e126 (hm_noneF (fun x hw => hfr162 _ _ (hm_ne0 g160 (hm_none e165 (hm_none e168 (hm_noneF (fun x hw => hfr210 _ _ (hm_ne0 g208 (hm_none e213 (hm_none e216 z263))).symm hw) (hm_none e213 (hm_none e216 z263)))))).symm hw) (hm_none e165 (hm_none e168 (hm_noneF (fun x hw => hfr210 _ _ (hm_ne0 g208 (hm_none e213 (hm_none e216 z263))).symm hw) (hm_none e213 (hm_none e216 z263)))))))))))).symm hw) (hm_none e87 (hm_none e90 (hm_noneF (fun x hw => hfr120 _ _ (hm_ne0 g118 (hm_none e123 (hm_none e126 (hm_noneF (fun x hw => hfr162 _ _ (hm_ne0 g160 (hm_none e165 (hm_none e168 (hm_noneF (fun x hw => hfr210 _ _ (hm_ne0 g208 (hm_none e213 (hm_none e216 z263))).symm hw) (hm_none e213 (hm_none e216 z263)))))).symm hw) (hm_none e165 (hm_none e168 (hm_noneF (fun x hw => hfr210 _ _ (hm_ne0 g208 (hm_none e213 (hm_none e216 z263))).symm hw) (hm_none e213 (hm_none e216 z263))))))))).symm hw) (hm_none e123 (hm_none e126 (hm_noneF (fun x hw => hfr162 _ _ (hm_ne0 g160 (hm_none e165 (hm_none e168 (hm_noneF (fun x hw => hfr210 _ _ (hm_ne0 g208 (hm_none e213 (hm_none e216 z263))).symm hw) (hm_none e213 (hm_none e216 z263)))))).symm hw) (hm_none e165 (hm_none e168 (hm_noneF (fun x hw => hfr210 _ _ (hm_ne0 g208 (hm_none e213 (hm_none e216 z263))).symm hw) (hm_none e213 (hm_none e216 z263))))))))))))))).symm hw) (hm_none e55 (hm_none e58 (hm_noneF (fun x hw => hfr84 _ _ (hm_ne0 g82 (hm_none e87 (hm_none e90 (hm_noneF (fun x hw => hfr120 _ _ (hm_ne0 g118 (hm_none e123 (hm_none e126 (hm_noneF (fun x hw => hfr162 _ _ (hm_ne0 g160 (hm_none e165 (hm_none e168 (hm_noneF (fun x hw => hfr210 _ _ (hm_ne0 g208 (hm_none e213 (hm_none e216 z263))).symm hw) (hm_none e213 (hm_none e216 z263)))))).symm hw) (hm_none e165 (hm_none e168 (hm_noneF (fun x hw => hfr210 _ _ (hm_ne0 g208 (hm_none e213 (hm_none e216 z263))).symm hw) (hm_none e213 (hm_none e216 z263))))))))).symm hw) (hm_none e123 (hm_none e126 (hm_noneF (fun x hw => hfr162 _ _ (hm_ne0 g160 (hm_none e165 (hm_none e168 (hm_noneF (fun x hw => hfr210 _ _ (hm_ne0 g208 (hm_none e213 (hm_none e216 z263))).symm hw) (hm_none e213 (hm_none e216 z263)))))).symm hw) (hm_none e165 (hm_none e168 (hm_noneF (fun x hw => hfr210 _ _ (hm_ne0 g208 (hm_none e213 (hm_none e216 z263))).symm hw) (hm_none e213 (hm_none e216 z263)))))))))))).symm hw) (hm_none e87 (hm_none e90 (hm_noneF (fun x hw => hfr120 _ _ (hm_ne0 g118 (hm_none e123 (hm_none e126 (hm_noneF (fun x hw => hfr162 _ _ (hm_ne0 g160 (hm_none e165 (hm_none e168 (hm_noneF (fun x hw => hfr210 _ _ (hm_ne0 g208 (hm_none e213 (hm_none e216 z263))).symm hw) (hm_none e213 (hm_none e216 z263)))))).symm hw) (hm_none e165 (hm_none e168 (hm_noneF (fun x hw => hfr210 _ _ (hm_ne0 g208 (hm_none e213 (hm_none e216 z263))).symm hw) (hm_none e213 (hm_none e216 z263))))))))).symm hw) (hm_none e123 (hm_none e126 (hm_noneF (fun x hw => hfr162 _ _ (hm_ne0 g160 (hm_none e165 (hm_none e168 (hm_noneF (fun x hw => hfr210 _ _ (hm_ne0 g208 (hm_none e213 (hm_none e216 z263))).symm hw) (hm_none e213 (hm_none e216 z263)))))).symm hw) (hm_none e165 (hm_none e168 (hm_noneF (fun x hw => hfr210 _ _ (hm_ne0 g208 (hm_none e213 (hm_none e216 z263))).symm hw) (hm_none e213 (hm_none e216 z263))))))))))))))))))))) | n + 22, h9, _ => absurd h9 (by omega)
  have hgs : gs k f490 h (fun i => ([q284, q261, q260, q214, q206, q166, q158, q124, q116, q88, q78, q56, q46, q30, q20, q9, q1] : List Nat).getD (gs_p i) 0) (gs_u0 b d g) (fun _ => none) (fun _ => 0) (fun s => match s with | 0 => x21 | 1 => x47 | _ => x79) (fun _ => 0) (fun _ _ => 0) (fun _ => 0) (fun _ => 0) 0 ky := ⟨g509, g492, (fun i hi => match i, hi with | 0, _ => g493 | 1, _ => g495 | 2, _ => g497 | n + 3, hi => absurd hi (by omega)), (fun i hi => match i, hi with | 0, _ => g494 | 1, _ => g496 | 2, _ => g498 | n + 3, hi => absurd hi (by omega)), (fun i hi => match i, hi with | 0, _ => g499 | 1, _ => g501 | 2, _ => g503 | n + 3, hi => absurd hi (by omega)), (fun i hi => match i, hi with | 0, _ => g500 | 1, _ => g502 | 2, _ => g504 | n + 3, hi => absurd hi (by omega)), g505, g506, g507, g508⟩
  have z_0 : ∀ q, f10 q = none → f q = none := fun q hq => (hm_none e3 (hm_none e8 (hm_none e11 hq)))
  have E_0 : ∀ (q : Nat) (x : va_E), q ≠ h → f18 q = some x → f490 q = some x := (fun q x n0 hq => by have t4 := hq; have t5 := hm_keep e29 n0 t4; have u1 := hm_ne0 t5 z33; have t6 := hm_keep e32 u1 t5; have t7 := hfr52 _ _ u1 t6; have t8 := hm_keep e55 n0 t7; have u2 := hm_ne0 t8 z59; have t9 := hm_keep e58 u2 t8; have t10 := hfr84 _ _ u2 t9; have t11 := hm_keep e87 n0 t10; have u3 := hm_ne0 t11 z91; have t12 := hm_keep e90 u3 t11; have t13 := hfr120 _ _ u3 t12; have t14 := hm_keep e123 n0 t13; have u4 := hm_ne0 t14 z127; have t15 := hm_keep e126 u4 t14; have t16 := hfr162 _ _ u4 t15; have t17 := hm_keep e165 n0 t16; have u5 := hm_ne0 t17 z169; have t18 := hm_keep e168 u5 t17; have t19 := hfr210 _ _ u5 t18; have t20 := hm_keep e213 n0 t19; have u6 := hm_ne0 t20 z217; have t21 := hm_keep e216 u6 t20; have t22 := hfr268 _ _ u6 t21; have t23 := hm_keep e271 n0 t22; have t24 := hm_keep e274 n0 t23; have t25 := hm_keep e277 n0 t24; have t26 := hm_keep e280 n0 t25; have t27 := hm_keep e283 n0 t26; have u7 := hm_ne0 t27 z287; have t28 := hm_keep e286 u7 t27; have t29 := hfr403 _ _ u7 t28; have t30 := hm_keep e406 n0 t29; have t31 := hm_keep e445 n0 t30; have t32 := hm_keep e468 n0 t31; have t33 := hm_keep e491 n0 t32; exact t33)
  have e_0 : ∀ q, f18 q = some G0 → f490 q = some G0 := fun q hq => E_0 q _ (hm_neI hq g27 (by decide)) hq
  have z_1 : ∀ q, f31 q = none → f q = none := fun q hq => (hm_none e3 (hm_none e8 (hm_none e11 (hm_noneF (fun x hw => hfr26 _ _ (hm_ne0 g24 (hm_none e29 (hm_none e32 hq))).symm hw) (hm_none e29 (hm_none e32 hq))))))
  have E_1 : ∀ (q : Nat) (x : va_E), q ≠ h → f44 q = some x → f490 q = some x := (fun q x n0 hq => by have t7 := hq; have t8 := hm_keep e55 n0 t7; have u1 := hm_ne0 t8 z59; have t9 := hm_keep e58 u1 t8; have t10 := hfr84 _ _ u1 t9; have t11 := hm_keep e87 n0 t10; have u2 := hm_ne0 t11 z91; have t12 := hm_keep e90 u2 t11; have t13 := hfr120 _ _ u2 t12; have t14 := hm_keep e123 n0 t13; have u3 := hm_ne0 t14 z127; have t15 := hm_keep e126 u3 t14; have t16 := hfr162 _ _ u3 t15; have t17 := hm_keep e165 n0 t16; have u4 := hm_ne0 t17 z169; have t18 := hm_keep e168 u4 t17; have t19 := hfr210 _ _ u4 t18; have t20 := hm_keep e213 n0 t19; have u5 := hm_ne0 t20 z217; have t21 := hm_keep e216 u5 t20; have t22 := hfr268 _ _ u5 t21; have t23 := hm_keep e271 n0 t22; have t24 := hm_keep e274 n0 t23; have t25 := hm_keep e277 n0 t24; have t26 := hm_keep e280 n0 t25; have t27 := hm_keep e283 n0 t26; have u6 := hm_ne0 t27 z287; have t28 := hm_keep e286 u6 t27; have t29 := hfr403 _ _ u6 t28; have t30 := hm_keep e406 n0 t29; have t31 := hm_keep e445 n0 t30; have t32 := hm_keep e468 n0 t31; have t33 := hm_keep e491 n0 t32; exact t33)
  have e_1 : ∀ q, f44 q = some G0 → f490 q = some G0 := fun q hq => E_1 q _ (hm_neI hq g53 (by decide)) hq
  have z_2 : ∀ q, f57 q = none → f q = none := fun q hq => (hm_none e3 (hm_none e8 (hm_none e11 (hm_noneF (fun x hw => hfr26 _ _ (hm_ne0 g24 (hm_none e29 (hm_none e32 (hm_noneF (fun x hw => hfr52 _ _ (hm_ne0 g50 (hm_none e55 (hm_none e58 hq))).symm hw) (hm_none e55 (hm_none e58 hq)))))).symm hw) (hm_none e29 (hm_none e32 (hm_noneF (fun x hw => hfr52 _ _ (hm_ne0 g50 (hm_none e55 (hm_none e58 hq))).symm hw) (hm_none e55 (hm_none e58 hq)))))))))
  have E_2 : ∀ (q : Nat) (x : va_E), q ≠ h → f76 q = some x → f490 q = some x := (fun q x n0 hq => by have t10 := hq; have t11 := hm_keep e87 n0 t10; have u1 := hm_ne0 t11 z91; have t12 := hm_keep e90 u1 t11; have t13 := hfr120 _ _ u1 t12; have t14 := hm_keep e123 n0 t13; have u2 := hm_ne0 t14 z127; have t15 := hm_keep e126 u2 t14; have t16 := hfr162 _ _ u2 t15; have t17 := hm_keep e165 n0 t16; have u3 := hm_ne0 t17 z169; have t18 := hm_keep e168 u3 t17; have t19 := hfr210 _ _ u3 t18; have t20 := hm_keep e213 n0 t19; have u4 := hm_ne0 t20 z217; have t21 := hm_keep e216 u4 t20; have t22 := hfr268 _ _ u4 t21; have t23 := hm_keep e271 n0 t22; have t24 := hm_keep e274 n0 t23; have t25 := hm_keep e277 n0 t24; have t26 := hm_keep e280 n0 t25; have t27 := hm_keep e283 n0 t26; have u5 := hm_ne0 t27 z287; have t28 := hm_keep e286 u5 t27; have t29 := hfr403 _ _ u5 t28; have t30 := hm_keep e406 n0 t29; have t31 := hm_keep e445 n0 t30; have t32 := hm_keep e468 n0 t31; have t33 := hm_keep e491 n0 t32; exact t33)
  have e_2 : ∀ q, f76 q = some G0 → f490 q = some G0 := fun q hq => E_2 q _ (hm_neI hq g85 (by decide)) hq
  have D_01 : ∀ (q : Nat) (x : va_E), q ≠ h → f18 q = some x → f31 q = some x := (fun q x n0 hq => by have t4 := hq; have t5 := hm_keep e29 n0 t4; have u1 := hm_ne0 t5 z33; have t6 := hm_keep e32 u1 t5; exact t6)
  have d_01 : ∀ q, f18 q = some G0 → f31 q = some G0 := fun q hq => D_01 q _ (hm_neI hq g27 (by decide)) hq
  have D_02 : ∀ (q : Nat) (x : va_E), q ≠ h → f18 q = some x → f57 q = some x := (fun q x n0 hq => by have t4 := hq; have t5 := hm_keep e29 n0 t4; have u1 := hm_ne0 t5 z33; have t6 := hm_keep e32 u1 t5; have t7 := hfr52 _ _ u1 t6; have t8 := hm_keep e55 n0 t7; have u2 := hm_ne0 t8 z59; have t9 := hm_keep e58 u2 t8; exact t9)
  have d_02 : ∀ q, f18 q = some G0 → f57 q = some G0 := fun q hq => D_02 q _ (hm_neI hq g27 (by decide)) hq
  have D_12 : ∀ (q : Nat) (x : va_E), q ≠ h → f44 q = some x → f57 q = some x := (fun q x n0 hq => by have t7 := hq; have t8 := hm_keep e55 n0 t7; have u1 := hm_ne0 t8 z59; have t9 := hm_keep e58 u1 t8; exact t9)
  have d_12 : ∀ q, f44 q = some G0 → f57 q = some G0 := fun q hq => D_12 q _ (hm_neI hq g53 (by decide)) hq
  refine W.widen (k := 81) (n := 1030) (by decide) (by decide) ?_
  exact hm_vret X hQ hr hlk hK hM hS d_GrantServer_init_152 ⟨_, _, hgs, gs_inj hnd rfl, hno, gs_r0_mk h23 h49 h81 z_0 z_1 z_2 e_0 e_1 e_2 d_01 d_02 d_12, (fun q x n0 hq => by have t0 := hq; have u1 := hm_ne0 t0 z4; have t1 := hm_keep e3 u1 t0; have t2 := hm_keep e8 n0 t1; have u2 := hm_ne0 t2 z12; have t3 := hm_keep e11 u2 t2; have t4 := hfr26 _ _ u2 t3; have t5 := hm_keep e29 n0 t4; have u3 := hm_ne0 t5 z33; have t6 := hm_keep e32 u3 t5; have t7 := hfr52 _ _ u3 t6; have t8 := hm_keep e55 n0 t7; have u4 := hm_ne0 t8 z59; have t9 := hm_keep e58 u4 t8; have t10 := hfr84 _ _ u4 t9; have t11 := hm_keep e87 n0 t10; have u5 := hm_ne0 t11 z91; have t12 := hm_keep e90 u5 t11; have t13 := hfr120 _ _ u5 t12; have t14 := hm_keep e123 n0 t13; have u6 := hm_ne0 t14 z127; have t15 := hm_keep e126 u6 t14; have t16 := hfr162 _ _ u6 t15; have t17 := hm_keep e165 n0 t16; have u7 := hm_ne0 t17 z169; have t18 := hm_keep e168 u7 t17; have t19 := hfr210 _ _ u7 t18; have t20 := hm_keep e213 n0 t19; have u8 := hm_ne0 t20 z217; have t21 := hm_keep e216 u8 t20; have t22 := hfr268 _ _ u8 t21; have t23 := hm_keep e271 n0 t22; have t24 := hm_keep e274 n0 t23; have t25 := hm_keep e277 n0 t24; have t26 := hm_keep e280 n0 t25; have t27 := hm_keep e283 n0 t26; have u9 := hm_ne0 t27 z287; have t28 := hm_keep e286 u9 t27; have t29 := hfr403 _ _ u9 t28; have t30 := hm_keep e406 n0 t29; have t31 := hm_keep e445 n0 t30; have t32 := hm_keep e468 n0 t31; have t33 := hm_keep e491 n0 t32; exact t33)⟩
end
section
theorem d_GrantServer_client_0 : decode b_GrantServer_client 0 = .ok (.aload_n 0, 1) := by decide +kernel
theorem d_GrantServer_client_1 : decode b_GrantServer_client 1 = .ok (.getfield 50, 3) := by decide +kernel
theorem d_GrantServer_client_4 : decode b_GrantServer_client 4 = .ok (.iconst 4, 1) := by decide +kernel
theorem d_GrantServer_client_5 : decode b_GrantServer_client 5 = .ok (.if_icmp .ge 10, 3) := by decide +kernel
theorem d_GrantServer_client_8 : decode b_GrantServer_client 8 = .ok (.iload_n 3, 1) := by decide +kernel
theorem d_GrantServer_client_9 : decode b_GrantServer_client 9 = .ok (.invokestatic 83, 3) := by decide +kernel
theorem d_GrantServer_client_12 : decode b_GrantServer_client 12 = .ok (.ifCond .ne 5, 3) := by decide +kernel
theorem d_GrantServer_client_15 : decode b_GrantServer_client 15 = .ok (.iconst (-1), 1) := by decide +kernel
theorem d_GrantServer_client_16 : decode b_GrantServer_client 16 = .ok (.ireturn, 1) := by decide +kernel
theorem d_GrantServer_client_17 : decode b_GrantServer_client 17 = .ok (.aload_n 0, 1) := by decide +kernel
theorem d_GrantServer_client_18 : decode b_GrantServer_client 18 = .ok (.getfield 11, 3) := by decide +kernel
theorem d_GrantServer_client_21 : decode b_GrantServer_client 21 = .ok (.aload_n 0, 1) := by decide +kernel
theorem d_GrantServer_client_22 : decode b_GrantServer_client 22 = .ok (.getfield 50, 3) := by decide +kernel
theorem d_GrantServer_client_25 : decode b_GrantServer_client 25 = .ok (.new 9, 3) := by decide +kernel
theorem d_GrantServer_client_28 : decode b_GrantServer_client 28 = .ok (.dup, 1) := by decide +kernel
theorem d_GrantServer_client_29 : decode b_GrantServer_client 29 = .ok (.iload_n 1, 1) := by decide +kernel
theorem d_GrantServer_client_30 : decode b_GrantServer_client 30 = .ok (.iload_n 2, 1) := by decide +kernel
theorem d_GrantServer_client_31 : decode b_GrantServer_client 31 = .ok (.iload_n 3, 1) := by decide +kernel
theorem d_GrantServer_client_32 : decode b_GrantServer_client 32 = .ok (.invokespecial 87, 3) := by decide +kernel
theorem d_GrantServer_client_35 : decode b_GrantServer_client 35 = .ok (.aastore, 1) := by decide +kernel
theorem d_GrantServer_client_36 : decode b_GrantServer_client 36 = .ok (.aload_n 0, 1) := by decide +kernel
theorem d_GrantServer_client_37 : decode b_GrantServer_client 37 = .ok (.dup, 1) := by decide +kernel
theorem d_GrantServer_client_38 : decode b_GrantServer_client 38 = .ok (.getfield 50, 3) := by decide +kernel
theorem d_GrantServer_client_41 : decode b_GrantServer_client 41 = .ok (.iconst 1, 1) := by decide +kernel
theorem d_GrantServer_client_42 : decode b_GrantServer_client 42 = .ok (.iadd, 1) := by decide +kernel
theorem d_GrantServer_client_43 : decode b_GrantServer_client 43 = .ok (.putfield 50, 3) := by decide +kernel
theorem d_GrantServer_client_46 : decode b_GrantServer_client 46 = .ok (.aload_n 0, 1) := by decide +kernel
theorem d_GrantServer_client_47 : decode b_GrantServer_client 47 = .ok (.getfield 50, 3) := by decide +kernel
theorem d_GrantServer_client_50 : decode b_GrantServer_client 50 = .ok (.iconst 1, 1) := by decide +kernel
theorem d_GrantServer_client_51 : decode b_GrantServer_client 51 = .ok (.isub, 1) := by decide +kernel
theorem d_GrantServer_client_52 : decode b_GrantServer_client 52 = .ok (.ireturn, 1) := by decide +kernel
theorem d_GrantServer_login_0 : decode b_GrantServer_login 0 = .ok (.aload_n 0, 1) := by decide +kernel
theorem d_GrantServer_login_1 : decode b_GrantServer_login 1 = .ok (.iload_n 1, 1) := by decide +kernel
theorem d_GrantServer_login_2 : decode b_GrantServer_login 2 = .ok (.invokevirtual 90, 3) := by decide +kernel
theorem d_GrantServer_login_5 : decode b_GrantServer_login 5 = .ok (.astore_n 3, 1) := by decide +kernel
theorem d_GrantServer_login_6 : decode b_GrantServer_login 6 = .ok (.aload_n 3, 1) := by decide +kernel
theorem d_GrantServer_login_7 : decode b_GrantServer_login 7 = .ok (.ifnull 15, 3) := by decide +kernel
theorem d_GrantServer_login_10 : decode b_GrantServer_login 10 = .ok (.aload_n 3, 1) := by decide +kernel
theorem d_GrantServer_login_11 : decode b_GrantServer_login 11 = .ok (.getfield 94, 3) := by decide +kernel
theorem d_GrantServer_login_14 : decode b_GrantServer_login 14 = .ok (.iload_n 2, 1) := by decide +kernel
theorem d_GrantServer_login_15 : decode b_GrantServer_login 15 = .ok (.if_icmp .ne 7, 3) := by decide +kernel
theorem d_GrantServer_login_18 : decode b_GrantServer_login 18 = .ok (.iconst 1, 1) := by decide +kernel
theorem d_GrantServer_login_19 : decode b_GrantServer_login 19 = .ok (.goto 4, 3) := by decide +kernel
theorem d_GrantServer_login_22 : decode b_GrantServer_login 22 = .ok (.iconst 0, 1) := by decide +kernel
theorem d_GrantServer_login_23 : decode b_GrantServer_login 23 = .ok (.istore 4, 2) := by decide +kernel
theorem d_GrantServer_login_25 : decode b_GrantServer_login 25 = .ok (.aload_n 0, 1) := by decide +kernel
theorem d_GrantServer_login_26 : decode b_GrantServer_login 26 = .ok (.iload 4, 2) := by decide +kernel
theorem d_GrantServer_login_28 : decode b_GrantServer_login 28 = .ok (.ifCond .eq 7, 3) := by decide +kernel
theorem d_GrantServer_login_31 : decode b_GrantServer_login 31 = .ok (.iload_n 1, 1) := by decide +kernel
theorem d_GrantServer_login_32 : decode b_GrantServer_login 32 = .ok (.goto 4, 3) := by decide +kernel
theorem d_GrantServer_login_35 : decode b_GrantServer_login 35 = .ok (.iconst (-1), 1) := by decide +kernel
theorem d_GrantServer_login_36 : decode b_GrantServer_login 36 = .ok (.putfield 54, 3) := by decide +kernel
theorem d_GrantServer_login_39 : decode b_GrantServer_login 39 = .ok (.iload 4, 2) := by decide +kernel
theorem d_GrantServer_login_41 : decode b_GrantServer_login 41 = .ok (.ireturn, 1) := by decide +kernel
theorem d_GrantServer_key_0 : decode b_GrantServer_key 0 = .ok (.iload_n 1, 1) := by decide +kernel
theorem d_GrantServer_key_1 : decode b_GrantServer_key 1 = .ok (.invokestatic 203, 3) := by decide +kernel
theorem d_GrantServer_key_4 : decode b_GrantServer_key 4 = .ok (.ifCond .eq 18, 3) := by decide +kernel
theorem d_GrantServer_key_7 : decode b_GrantServer_key 7 = .ok (.aload_n 0, 1) := by decide +kernel
theorem d_GrantServer_key_8 : decode b_GrantServer_key 8 = .ok (.getfield 33, 3) := by decide +kernel
theorem d_GrantServer_key_11 : decode b_GrantServer_key 11 = .ok (.iload_n 1, 1) := by decide +kernel
theorem d_GrantServer_key_12 : decode b_GrantServer_key 12 = .ok (.invokevirtual 207, 3) := by decide +kernel
theorem d_GrantServer_key_15 : decode b_GrantServer_key 15 = .ok (.ifCond .eq 7, 3) := by decide +kernel
theorem d_GrantServer_key_18 : decode b_GrantServer_key 18 = .ok (.iconst 1, 1) := by decide +kernel
theorem d_GrantServer_key_19 : decode b_GrantServer_key 19 = .ok (.goto 4, 3) := by decide +kernel
theorem d_GrantServer_key_22 : decode b_GrantServer_key 22 = .ok (.iconst 0, 1) := by decide +kernel
theorem d_GrantServer_key_23 : decode b_GrantServer_key 23 = .ok (.ireturn, 1) := by decide +kernel
theorem d_GrantServer_alter_0 : decode b_GrantServer_alter 0 = .ok (.iload_n 2, 1) := by decide +kernel
theorem d_GrantServer_alter_1 : decode b_GrantServer_alter 1 = .ok (.invokestatic 203, 3) := by decide +kernel
theorem d_GrantServer_alter_4 : decode b_GrantServer_alter 4 = .ok (.ifCond .eq 19, 3) := by decide +kernel
theorem d_GrantServer_alter_7 : decode b_GrantServer_alter 7 = .ok (.aload_n 0, 1) := by decide +kernel
theorem d_GrantServer_alter_8 : decode b_GrantServer_alter 8 = .ok (.getfield 33, 3) := by decide +kernel
theorem d_GrantServer_alter_11 : decode b_GrantServer_alter 11 = .ok (.iload_n 1, 1) := by decide +kernel
theorem d_GrantServer_alter_12 : decode b_GrantServer_alter 12 = .ok (.iload_n 2, 1) := by decide +kernel
theorem d_GrantServer_alter_13 : decode b_GrantServer_alter 13 = .ok (.invokevirtual 210, 3) := by decide +kernel
theorem d_GrantServer_alter_16 : decode b_GrantServer_alter 16 = .ok (.ifCond .eq 7, 3) := by decide +kernel
theorem d_GrantServer_alter_19 : decode b_GrantServer_alter 19 = .ok (.iconst 1, 1) := by decide +kernel
theorem d_GrantServer_alter_20 : decode b_GrantServer_alter 20 = .ok (.goto 4, 3) := by decide +kernel
theorem d_GrantServer_alter_23 : decode b_GrantServer_alter 23 = .ok (.iconst 0, 1) := by decide +kernel
theorem d_GrantServer_alter_24 : decode b_GrantServer_alter 24 = .ok (.ireturn, 1) := by decide +kernel
theorem d_GrantServer_letter_0 : decode b_GrantServer_letter 0 = .ok (.iload_n 1, 1) := by decide +kernel
theorem d_GrantServer_letter_1 : decode b_GrantServer_letter 1 = .ok (.ifCond .eq 14, 3) := by decide +kernel
theorem d_GrantServer_letter_4 : decode b_GrantServer_letter 4 = .ok (.aload_n 0, 1) := by decide +kernel
theorem d_GrantServer_letter_5 : decode b_GrantServer_letter 5 = .ok (.getfield 37, 3) := by decide +kernel
theorem d_GrantServer_letter_8 : decode b_GrantServer_letter 8 = .ok (.iload_n 2, 1) := by decide +kernel
theorem d_GrantServer_letter_9 : decode b_GrantServer_letter 9 = .ok (.invokevirtual 224, 3) := by decide +kernel
theorem d_GrantServer_letter_12 : decode b_GrantServer_letter 12 = .ok (.goto 11, 3) := by decide +kernel
theorem d_GrantServer_letter_15 : decode b_GrantServer_letter 15 = .ok (.aload_n 0, 1) := by decide +kernel
theorem d_GrantServer_letter_16 : decode b_GrantServer_letter 16 = .ok (.getfield 33, 3) := by decide +kernel
theorem d_GrantServer_letter_19 : decode b_GrantServer_letter 19 = .ok (.iload_n 2, 1) := by decide +kernel
theorem d_GrantServer_letter_20 : decode b_GrantServer_letter 20 = .ok (.invokevirtual 224, 3) := by decide +kernel
theorem d_GrantServer_letter_23 : decode b_GrantServer_letter 23 = .ok (.ireturn, 1) := by decide +kernel
theorem d_GrantServer_tick_0 : decode b_GrantServer_tick 0 = .ok (.iload_n 1, 1) := by decide +kernel
theorem d_GrantServer_tick_1 : decode b_GrantServer_tick 1 = .ok (.ifCond .lt 10, 3) := by decide +kernel
theorem d_GrantServer_tick_4 : decode b_GrantServer_tick 4 = .ok (.iload_n 1, 1) := by decide +kernel
theorem d_GrantServer_tick_5 : decode b_GrantServer_tick 5 = .ok (.sipush 10000, 3) := by decide +kernel
theorem d_GrantServer_tick_8 : decode b_GrantServer_tick 8 = .ok (.if_icmp .le 5, 3) := by decide +kernel
theorem d_GrantServer_tick_11 : decode b_GrantServer_tick 11 = .ok (.iconst 0, 1) := by decide +kernel
theorem d_GrantServer_tick_12 : decode b_GrantServer_tick 12 = .ok (.ireturn, 1) := by decide +kernel
theorem d_GrantServer_tick_13 : decode b_GrantServer_tick 13 = .ok (.aload_n 0, 1) := by decide +kernel
theorem d_GrantServer_tick_14 : decode b_GrantServer_tick 14 = .ok (.dup, 1) := by decide +kernel
theorem d_GrantServer_tick_15 : decode b_GrantServer_tick 15 = .ok (.getfield 60, 3) := by decide +kernel
theorem d_GrantServer_tick_18 : decode b_GrantServer_tick 18 = .ok (.iload_n 1, 1) := by decide +kernel
theorem d_GrantServer_tick_19 : decode b_GrantServer_tick 19 = .ok (.iadd, 1) := by decide +kernel
theorem d_GrantServer_tick_20 : decode b_GrantServer_tick 20 = .ok (.putfield 60, 3) := by decide +kernel
theorem d_GrantServer_tick_23 : decode b_GrantServer_tick 23 = .ok (.iconst 1, 1) := by decide +kernel
theorem d_GrantServer_tick_24 : decode b_GrantServer_tick 24 = .ok (.ireturn, 1) := by decide +kernel
theorem d_GrantServer_clientWith_0 : decode b_GrantServer_clientWith 0 = .ok (.iload_n 1, 1) := by decide +kernel
theorem d_GrantServer_clientWith_1 : decode b_GrantServer_clientWith 1 = .ok (.ifCond .lt 20, 3) := by decide +kernel
theorem d_GrantServer_clientWith_4 : decode b_GrantServer_clientWith 4 = .ok (.iload_n 1, 1) := by decide +kernel
theorem d_GrantServer_clientWith_5 : decode b_GrantServer_clientWith 5 = .ok (.aload_n 0, 1) := by decide +kernel
theorem d_GrantServer_clientWith_6 : decode b_GrantServer_clientWith 6 = .ok (.getfield 50, 3) := by decide +kernel
theorem d_GrantServer_clientWith_9 : decode b_GrantServer_clientWith 9 = .ok (.if_icmp .ge 12, 3) := by decide +kernel
theorem d_GrantServer_clientWith_12 : decode b_GrantServer_clientWith 12 = .ok (.aload_n 0, 1) := by decide +kernel
theorem d_GrantServer_clientWith_13 : decode b_GrantServer_clientWith 13 = .ok (.getfield 11, 3) := by decide +kernel
theorem d_GrantServer_clientWith_16 : decode b_GrantServer_clientWith 16 = .ok (.iload_n 1, 1) := by decide +kernel
theorem d_GrantServer_clientWith_17 : decode b_GrantServer_clientWith 17 = .ok (.aaload, 1) := by decide +kernel
theorem d_GrantServer_clientWith_18 : decode b_GrantServer_clientWith 18 = .ok (.goto 4, 3) := by decide +kernel
theorem d_GrantServer_clientWith_21 : decode b_GrantServer_clientWith 21 = .ok (.aconst_null, 1) := by decide +kernel
theorem d_GrantServer_clientWith_22 : decode b_GrantServer_clientWith 22 = .ok (.areturn, 1) := by decide +kernel
set_option maxRecDepth 20000 in
theorem fl_GrantServer_11 : hm_fl vwCl TB R_GrantServer 11 0 3 true (.array (.object "GrantServer$Client")) := ⟨_, _, _, _, cl_GrantServer, by decide, (TBm 178 (by decide +kernel) rfl), rfl, rfl⟩
set_option maxRecDepth 20000 in
theorem fl_GrantServer_33 : hm_fl vwCl TB R_GrantServer 33 0 7 true (.object "GrantServer$Text") := ⟨_, _, _, _, cl_GrantServer, by decide, (TBm 182 (by decide +kernel) rfl), rfl, rfl⟩
set_option maxRecDepth 20000 in
theorem fl_GrantServer_37 : hm_fl vwCl TB R_GrantServer 37 0 8 true (.object "GrantServer$Text") := ⟨_, _, _, _, cl_GrantServer, by decide, (TBm 183 (by decide +kernel) rfl), rfl, rfl⟩
set_option maxRecDepth 20000 in
theorem fl_GrantServer_94 : hm_fl vwCl TB R_GrantServer 94 1 0 true .int := ⟨_, _, _, _, cl_Client, by decide, (TBm 237 (by decide +kernel) rfl), rfl, rfl⟩
set_option maxRecDepth 20000 in
theorem me_Client_init : hm_meI y_Client_init b_Client_init 4 3 := ⟨⟨(TBm 234 rfl rfl), (TBm 48 (by decide +kernel) rfl), by decide +kernel⟩, (TBm 233 (by decide +kernel) rfl), rfl⟩
set_option maxRecDepth 20000 in
theorem me_GrantServer_clientWith : hm_meV y_GrantServer_clientWith b_GrantServer_clientWith 2 (some (.object "GrantServer$Client")) 1 := ⟨⟨(TBm 256 rfl rfl), (TBm 40 (by decide +kernel) rfl), by decide +kernel⟩, (TBm 255 (by decide +kernel) rfl), (TBm 0 (by decide +kernel) rfl)⟩
set_option maxRecDepth 20000 in
theorem me_GrantServer_isSomeScopes : hm_meS y_GrantServer_isSomeScopes b_GrantServer_isSomeScopes 1 (some .boolean) 1 := ⟨⟨(TBm 230 rfl rfl), (TBm 40 (by decide +kernel) rfl), by decide +kernel⟩, (TBm 229 (by decide +kernel) rfl)⟩
set_option maxRecDepth 20000 in
theorem me_GrantServer_isWritable : hm_meS y_GrantServer_isWritable b_GrantServer_isWritable 1 (some .boolean) 1 := ⟨⟨(TBm 617 rfl rfl), (TBm 40 (by decide +kernel) rfl), by decide +kernel⟩, (TBm 616 (by decide +kernel) rfl)⟩
set_option maxRecDepth 20000 in
theorem me_Text_add : hm_meV y_Text_add b_Text_add 2 (some .boolean) 1 := ⟨⟨(TBm 401 rfl rfl), (TBm 43 (by decide +kernel) rfl), by decide +kernel⟩, (TBm 399 (by decide +kernel) rfl), (TBm 400 (by decide +kernel) rfl)⟩
set_option maxRecDepth 20000 in
theorem me_Text_codeAt : hm_meV y_Text_codeAt b_Text_codeAt 2 (some .int) 1 := ⟨⟨(TBm 431 rfl rfl), (TBm 43 (by decide +kernel) rfl), by decide +kernel⟩, (TBm 429 (by decide +kernel) rfl), (TBm 430 (by decide +kernel) rfl)⟩
set_option maxRecDepth 20000 in
theorem me_Text_put : hm_meV y_Text_put b_Text_put 3 (some .boolean) 2 := ⟨⟨(TBm 626 rfl rfl), (TBm 43 (by decide +kernel) rfl), by decide +kernel⟩, (TBm 624 (by decide +kernel) rfl), (TBm 625 (by decide +kernel) rfl)⟩
set_option maxRecDepth 20000 in
theorem nw_GrantServer_9 : hm_nw vwCl TB R_GrantServer 9 1 3 [.int 0, .int 0, .int 0] := ⟨_, _, _, cl_Client, (TBm 64 (by decide +kernel) rfl), (TBm 231 (by decide +kernel) rfl), (TBm 48 (by decide +kernel) rfl), by decide +kernel⟩
set_option maxRecDepth 20000 in
theorem wl_GrantServer_203 : Cond.methodLink R_GrantServer 203 y_GrantServer_isWritable ∈ TB := TBm 615 (by decide +kernel) rfl
set_option maxRecDepth 20000 in
theorem wl_GrantServer_207 : Cond.methodLink R_GrantServer 207 y_Text_add ∈ TB := TBm 618 (by decide +kernel) rfl
set_option maxRecDepth 20000 in
theorem wl_GrantServer_210 : Cond.methodLink R_GrantServer 210 y_Text_put ∈ TB := TBm 623 (by decide +kernel) rfl
set_option maxRecDepth 20000 in
theorem wl_GrantServer_224 : Cond.methodLink R_GrantServer 224 y_Text_codeAt ∈ TB := TBm 643 (by decide +kernel) rfl
set_option maxRecDepth 20000 in
theorem wl_GrantServer_83 : Cond.methodLink R_GrantServer 83 y_GrantServer_isSomeScopes ∈ TB := TBm 228 (by decide +kernel) rfl
set_option maxRecDepth 20000 in
theorem wl_GrantServer_87 : Cond.methodLink R_GrantServer 87 y_Client_init ∈ TB := TBm 232 (by decide +kernel) rfl
set_option maxRecDepth 20000 in
theorem wl_GrantServer_90 : Cond.methodLink R_GrantServer 90 y_GrantServer_clientWith ∈ TB := TBm 253 (by decide +kernel) rfl
set_option maxHeartbeats 4000000 in
set_option maxRecDepth 100000 in
theorem c_tick_no (l : Launch) (D : va_G) (k : Nat → ClassId) (f : hm) (h : Nat) (u : Nat → Int32) (ad : Nat → Nat) (x : Int32) (hx9 : x < 0 ∨ 10000 < x) : hm_Mi l D vwCl (tyL k) y_GrantServer_tick (Cond.code y_GrantServer_tick b_GrantServer_tick 2 (some .boolean) :: TB) ({ frames := 0, cells := 0, slots := 0, locals := 0 }) [.ref h, .int x] f (fun (r : Int32) (f1 : hm) => 0 = r ∧ f = f1) 0 0 := by
  refine hm_enter (Qc := fun sz => va_Qi _ (hm_R D vwCl (tyL k) f sz) (hm_A f sz)) (by decide) rfl (Nat.le_of_ble_eq_true rfl) ?_
  intro p e s m below meth cd ls X0 hr hlk hin hK hM hS hA hl Q hQ
  have X : CallFix p m cd b_GrantServer_tick 2 s ([.ref h, .int x] : List Value).toArray TB R_GrantServer := ⟨X0.1, X0.2.1, X0.2.2.1, X0.2.2.2.1, fun w h => X0.2.2.2.2 w (List.mem_cons_of_mem _ h)⟩
  have hx := X.1; have hb := X.2.1; have hml := X.2.2.1; have hown := X.2.2.2.1; have hts := X.2.2.2.2
  have hl : lv_has ls 2 [(0, .ref h), (1, .int x)] := hl
  refine lv_iload_n hx hb d_GrantServer_tick_0 rfl (lv_at hl 1 rfl) ?_
  refine lv_if_lt (tgt := 11) hx hb d_GrantServer_tick_1 (by decide) (fun h1 => ?_) (fun h1 => ?_)
  · refine lv_iconst (v := 0) hx hb d_GrantServer_tick_11 (by decide) ?_
    exact hm_zret X hQ hr hlk hK hM hS rfl d_GrantServer_tick_12 ⟨rfl, rfl⟩
  · refine lv_iload_n hx hb d_GrantServer_tick_4 rfl (lv_at hl 1 rfl) ?_
    refine lv_sipush (v := 10000) hx hb d_GrantServer_tick_5 (by decide) ?_
    refine lv_icmp_le (tgt := 13) hx hb d_GrantServer_tick_8 (by decide) (fun h2 => ?_) (fun h2 => ?_)
    · exact absurd hx9 (by simp [h1, Int32.not_lt.mpr h2])
    · refine lv_iconst (v := 0) hx hb d_GrantServer_tick_11 (by decide) ?_
      exact hm_zret X hQ hr hlk hK hM hS rfl d_GrantServer_tick_12 ⟨rfl, rfl⟩
set_option maxHeartbeats 4000000 in
set_option maxRecDepth 100000 in
theorem c_tick (l : Launch) (D : va_G) (k : Nat → ClassId) (f : hm) (h : Nat) (u : Nat → Int32) (ad : Nat → Nat) (x : Int32) (hh : f h = some (.inr (0, gsV u ad))) (hx8 : ¬ x < 0) (hx9 : ¬ 10000 < x) : hm_Mi l D vwCl (tyL k) y_GrantServer_tick (Cond.code y_GrantServer_tick b_GrantServer_tick 2 (some .boolean) :: TB) ({ frames := 0, cells := 0, slots := 0, locals := 0 }) [.ref h, .int x] f (fun (r : Int32) (f1 : hm) => 1 = r ∧ f1 h = some (.inr (0, gsV (upd u 15 (u 15 + x)) ad)) ∧ ∀ (q : Nat) (x : va_E), q ≠ h → f q = some x → f1 q = some x) 0 0 := by
  refine hm_enter (Qc := fun sz => va_Qi _ (hm_R D vwCl (tyL k) f sz) (hm_A f sz)) (by decide) rfl (Nat.le_of_ble_eq_true rfl) ?_
  intro p e s m below meth cd ls X0 hr hlk hin hK hM hS hA hl Q hQ
  have X : CallFix p m cd b_GrantServer_tick 2 s ([.ref h, .int x] : List Value).toArray TB R_GrantServer := ⟨X0.1, X0.2.1, X0.2.2.1, X0.2.2.2.1, fun w h => X0.2.2.2.2 w (List.mem_cons_of_mem _ h)⟩
  have hx := X.1; have hb := X.2.1; have hml := X.2.2.1; have hown := X.2.2.2.1; have hts := X.2.2.2.2
  have hl : lv_has ls 2 [(0, .ref h), (1, .int x)] := hl
  refine lv_iload_n hx hb d_GrantServer_tick_0 rfl (lv_at hl 1 rfl) ?_
  refine lv_if_lt (tgt := 11) hx hb d_GrantServer_tick_1 (by decide) (fun h1 => ?_) (fun h1 => ?_)
  · exact absurd h1 hx8
  · refine lv_iload_n hx hb d_GrantServer_tick_4 rfl (lv_at hl 1 rfl) ?_
    refine lv_sipush (v := 10000) hx hb d_GrantServer_tick_5 (by decide) ?_
    refine lv_icmp_le (tgt := 13) hx hb d_GrantServer_tick_8 (by decide) (fun h2 => ?_) (fun h2 => ?_)
    · refine lv_aload_n hx hb d_GrantServer_tick_13 rfl (lv_at hl 0 rfl) ?_
      refine lv_dup hx hb d_GrantServer_tick_14 rfl ?_
      refine hm_get X hK hM hh fl_GrantServer_60 (v := .int (u 15)) rfl d_GrantServer_tick_15 ?_
      refine lv_iload_n hx hb d_GrantServer_tick_18 rfl (lv_at hl 1 rfl) ?_
      refine lv_iadd hx hb d_GrantServer_tick_19 ?_
      refine hm_put X hK hM hS (fs' := gsV (upd u 15 ((u 15) + x)) ad) hh fl_GrantServer_60 rfl rfl (Nat.le_of_ble_eq_true rfl) rfl d_GrantServer_tick_20 (fun f3 H locs e4 hM hS => ?_)
      refine lv_iconst (v := 1) hx hb d_GrantServer_tick_23 (by decide) ?_
      have g5 : f3 h = some (.inr (0, gsV (upd u 15 ((u 15) + x)) ad)) := by rw [e4, hm_up_s]
      exact hm_zret X hQ hr hlk hK hM hS rfl d_GrantServer_tick_24 ⟨rfl, g5, (fun q x n0 hq => by have t0 := hq; have t1 := hm_keep e4 n0 t0; exact t1)⟩
    · exact absurd (Int32.not_lt.mp hx9) h2
set_option maxHeartbeats 4000000 in
set_option maxRecDepth 100000 in
theorem c_clientWith_no (l : Launch) (D : va_G) (k : Nat → ClassId) (f : hm) (h : Nat) (u : Nat → Int32) (ad : Nat → Nat) (n : Nat) (x : Int32) (hh : f h = some (.inr (0, gsV u ad))) (hn : u 12 = nI n) (hx9 : x < 0 ∨ nI n ≤ x) : hm_Mq l D vwCl (tyL k) y_GrantServer_clientWith (Cond.code y_GrantServer_clientWith b_GrantServer_clientWith 2 (some (.object "GrantServer$Client")) :: TB) ({ frames := 0, cells := 0, slots := 0, locals := 0 }) [.ref h, .int x] f (fun (r : Option Nat) (f1 : hm) => none = r ∧ f = f1) 0 0 := by
  refine hm_enter (Qc := fun sz => va_Qq _ (hm_R D vwCl (tyL k) f sz) (hm_A f sz)) (by decide) rfl (Nat.le_of_ble_eq_true rfl) ?_
  intro p e s m below meth cd ls X0 hr hlk hin hK hM hS hA hl Q hQ
  have X : CallFix p m cd b_GrantServer_clientWith 2 s ([.ref h, .int x] : List Value).toArray TB R_GrantServer := ⟨X0.1, X0.2.1, X0.2.2.1, X0.2.2.2.1, fun w h => X0.2.2.2.2 w (List.mem_cons_of_mem _ h)⟩
  have hx := X.1; have hb := X.2.1; have hml := X.2.2.1; have hown := X.2.2.2.1; have hts := X.2.2.2.2
  have hl : lv_has ls 2 [(0, .ref h), (1, .int x)] := hl
  refine lv_iload_n hx hb d_GrantServer_clientWith_0 rfl (lv_at hl 1 rfl) ?_
  refine lv_if_lt (tgt := 21) hx hb d_GrantServer_clientWith_1 (by decide) (fun h1 => ?_) (fun h1 => ?_)
  · refine lv_null hx hb d_GrantServer_clientWith_21 ?_
    exact hm_aret X hQ hr (Or.inl ⟨_, rfl⟩) hlk hK hM hS none d_GrantServer_clientWith_22 ⟨rfl, rfl⟩
  · refine lv_iload_n hx hb d_GrantServer_clientWith_4 rfl (lv_at hl 1 rfl) ?_
    refine lv_aload_n hx hb d_GrantServer_clientWith_5 rfl (lv_at hl 0 rfl) ?_
    refine hm_get X hK hM hh fl_GrantServer_50 (v := .int (u 12)) rfl d_GrantServer_clientWith_6 ?_
    refine lv_icmp_ge (tgt := 21) hx hb d_GrantServer_clientWith_9 (by decide) (fun h2 => ?_) (fun h2 => ?_)
    · refine lv_null hx hb d_GrantServer_clientWith_21 ?_
      exact hm_aret X hQ hr (Or.inl ⟨_, rfl⟩) hlk hK hM hS none d_GrantServer_clientWith_22 ⟨rfl, rfl⟩
    · exact absurd (hx9.resolve_left h1) (hn ▸ h2)
set_option maxHeartbeats 4000000 in
set_option maxRecDepth 100000 in
theorem c_clientWith (l : Launch) (D : va_G) (k : Nat → ClassId) (f : hm) (h : Nat) (u : Nat → Int32) (ad : Nat → Nat) (cn : Nat → Option Nat) (n : Nat) (j : Nat) (hh : f h = some (.inr (0, gsV u ad))) (h3 : f (ad 3) = some (.inl (k 4, 4, .inr (.inr (.inr (.inr cn)))))) (hn : u 12 = nI n) (hn4 : n ≤ 4) (hj : j < n) : hm_Mq l D vwCl (tyL k) y_GrantServer_clientWith (Cond.code y_GrantServer_clientWith b_GrantServer_clientWith 2 (some (.object "GrantServer$Client")) :: TB) ({ frames := 0, cells := 0, slots := 0, locals := 0 }) [.ref h, .int (nI j)] f (fun (r : Option Nat) (f1 : hm) => cn j = r ∧ f = f1) 0 0 := by
  refine hm_enter (Qc := fun sz => va_Qq _ (hm_R D vwCl (tyL k) f sz) (hm_A f sz)) (by decide) rfl (Nat.le_of_ble_eq_true rfl) ?_
  intro p e s m below meth cd ls X0 hr hlk hin hK hM hS hA hl Q hQ
  have X : CallFix p m cd b_GrantServer_clientWith 2 s ([.ref h, .int (nI j)] : List Value).toArray TB R_GrantServer := ⟨X0.1, X0.2.1, X0.2.2.1, X0.2.2.2.1, fun w h => X0.2.2.2.2 w (List.mem_cons_of_mem _ h)⟩
  have hx := X.1; have hb := X.2.1; have hml := X.2.2.1; have hown := X.2.2.2.1; have hts := X.2.2.2.2
  have hl : lv_has ls 2 [(0, .ref h), (1, .int (nI j))] := hl
  refine lv_iload_n hx hb d_GrantServer_clientWith_0 rfl (lv_at hl 1 rfl) ?_
  refine lv_if_lt (tgt := 21) hx hb d_GrantServer_clientWith_1 (by decide) (fun h1 => ?_) (fun h1 => ?_)
  · exact absurd h1 (nI_pos (by omega))
  · refine lv_iload_n hx hb d_GrantServer_clientWith_4 rfl (lv_at hl 1 rfl) ?_
    refine lv_aload_n hx hb d_GrantServer_clientWith_5 rfl (lv_at hl 0 rfl) ?_
    refine hm_get X hK hM hh fl_GrantServer_50 (v := .int (u 12)) rfl d_GrantServer_clientWith_6 ?_
    refine lv_icmp_ge (tgt := 21) hx hb d_GrantServer_clientWith_9 (by decide) (fun h2 => ?_) (fun h2 => ?_)
    · exact absurd (hn ▸ h2) (nI_ge hj (by omega))
    · refine lv_aload_n hx hb d_GrantServer_clientWith_12 rfl (lv_at hl 0 rfl) ?_
      refine hm_get X hK hM hh fl_GrantServer_11 (v := .ref (ad 3)) rfl d_GrantServer_clientWith_13 ?_
      refine lv_iload_n hx hb d_GrantServer_clientWith_16 rfl (lv_at hl 1 rfl) ?_
      refine hm_aald X hK hM h3 4 rfl j rfl (by omega) (by decide) d_GrantServer_clientWith_17 ?_
      refine lv_goto (tgt := 22) hx hb d_GrantServer_clientWith_18 (by decide) ?_
      exact hm_aret X hQ hr (Or.inl ⟨_, rfl⟩) hlk hK hM hS (cn j) d_GrantServer_clientWith_22 ⟨rfl, rfl⟩
set_option maxHeartbeats 4000000 in
set_option maxRecDepth 100000 in
theorem c_login_no (l : Launch) (D : va_G) (k : Nat → ClassId) (f : hm) (h : Nat) (u : Nat → Int32) (ad : Nat → Nat) (n : Nat) (x : Int32) (y : Int32) (hh : f h = some (.inr (0, gsV u ad))) (hn : u 12 = nI n) (hx9 : x < 0 ∨ nI n ≤ x) : hm_Mi l D vwCl (tyL k) y_GrantServer_login (Cond.code y_GrantServer_login b_GrantServer_login 5 (some .boolean) :: TB) ({ frames := 1, cells := 0, slots := 0, locals := 21 }) [.ref h, .int x, .int y] f (fun (r : Int32) (f1 : hm) => 0 = r ∧ f1 h = some (.inr (0, gsV (upd u 13 (-1)) ad)) ∧ ∀ (q : Nat) (x : va_E), q ≠ h → f q = some x → f1 q = some x) 0 0 := by
  refine hm_enter (Qc := fun sz => va_Qi _ (hm_R D vwCl (tyL k) f sz) (hm_A f sz)) (by decide) rfl (Nat.le_of_ble_eq_true rfl) ?_
  intro p e s m below meth cd ls X0 hr hlk hin hK hM hS hA hl Q hQ
  have X : CallFix p m cd b_GrantServer_login 5 s ([.ref h, .int x, .int y] : List Value).toArray TB R_GrantServer := ⟨X0.1, X0.2.1, X0.2.2.1, X0.2.2.2.1, fun w h => X0.2.2.2.2 w (List.mem_cons_of_mem _ h)⟩
  have hx := X.1; have hb := X.2.1; have hml := X.2.2.1; have hown := X.2.2.2.1; have hts := X.2.2.2.2
  have hl : lv_has ls 5 [(0, .ref h), (1, .int x), (2, .int y)] := hl
  refine lv_aload_n hx hb d_GrantServer_login_0 rfl (lv_at hl 0 rfl) ?_
  refine lv_iload_n hx hb d_GrantServer_login_1 rfl (lv_at hl 1 rfl) ?_
  refine hm_callq hS hM hA (va_runV (As := [.int x]) (rest := []) X (c_clientWith_no l D k f h u ad n x hh hn hx9 s.heap.size) (hm_cwV hts me_GrantServer_clientWith wl_GrantServer_90 rfl rfl ⟨Nat.le_of_ble_eq_true rfl, Nat.le_of_ble_eq_true rfl⟩) (hm_preV hM hK hh rfl) rfl rfl hl.1 rfl (lv_room (Nat.le_of_ble_eq_true rfl)) d_GrantServer_login_2 ⟨Nat.le_of_ble_eq_true rfl, Nat.le_of_ble_eq_true rfl⟩) (fun r3 f1 H locs p2 hM hS => ?_)
  obtain ⟨rfl, rfl⟩ := p2
  refine lv_astore_nN (lv' := [(3, .null), (0, .ref h), (1, .int x), (2, .int y)]) hx hb d_GrantServer_login_5 rfl hl (by decide) rfl (fun ls hl => ?_)
  refine lv_aload_nN hx hb d_GrantServer_login_6 rfl (lv_at hl 0 rfl) ?_
  refine lv_ifnullN (tgt := 22) hx hb d_GrantServer_login_7 (by decide) ?_
  refine lv_iconst (v := 0) hx hb d_GrantServer_login_22 (by decide) ?_
  refine lv_istore (lv' := [(4, .int 0), (3, .null), (0, .ref h), (1, .int x), (2, .int y)]) hx hb d_GrantServer_login_23 hl (by decide) rfl (fun ls hl => ?_)
  refine lv_aload_n hx hb d_GrantServer_login_25 rfl (lv_at hl 2 rfl) ?_
  refine lv_iload hx hb d_GrantServer_login_26 (lv_at hl 0 rfl) ?_
  refine lv_if_eq (tgt := 35) hx hb d_GrantServer_login_28 (by decide) (fun h4 => ?_) (fun h4 => ?_)
  · refine lv_iconst (v := (-1)) hx hb d_GrantServer_login_35 (by decide) ?_
    refine hm_put X hK hM hS (fs' := gsV (upd u 13 (-1)) ad) hh fl_GrantServer_54 rfl rfl (Nat.le_of_ble_eq_true rfl) rfl d_GrantServer_login_36 (fun f5 H locs e6 hM hS => ?_)
    refine lv_iload hx hb d_GrantServer_login_39 (lv_at hl 0 rfl) ?_
    have g7 : f5 h = some (.inr (0, gsV (upd u 13 (-1)) ad)) := by rw [e6, hm_up_s]
    exact hm_zret X hQ hr hlk hK hM hS rfl d_GrantServer_login_41 ⟨rfl, g7, (fun q x n0 hq => by have t0 := hq; have t1 := hm_keep e6 n0 t0; exact t1)⟩
  · exact absurd h4 (by decide)
set_option maxHeartbeats 4000000 in
set_option maxRecDepth 100000 in
theorem c_login (l : Launch) (D : va_G) (k : Nat → ClassId) (f : hm) (h : Nat) (u : Nat → Int32) (ad : Nat → Nat) (cn : Nat → Option Nat) (n : Nat) (j : Nat) (a : Nat) (s1 : Int32) (s2 : Int32) (s3 : Int32) (y : Int32) (hh : f h = some (.inr (0, gsV u ad))) (h3 : f (ad 3) = some (.inl (k 4, 4, .inr (.inr (.inr (.inr cn)))))) (hca : f a = some (.inr (1, [.int s1, .int s2, .int s3]))) (hn : u 12 = nI n) (hn4 : n ≤ 4) (hj : j < n) (hcj : cn j = some a) (hs : s1 = y) : hm_Mi l D vwCl (tyL k) y_GrantServer_login (Cond.code y_GrantServer_login b_GrantServer_login 5 (some .boolean) :: TB) ({ frames := 1, cells := 0, slots := 0, locals := 21 }) [.ref h, .int (nI j), .int y] f (fun (r : Int32) (f1 : hm) => 1 = r ∧ f1 h = some (.inr (0, gsV (upd u 13 (nI j)) ad)) ∧ ∀ (q : Nat) (x : va_E), q ≠ h → f q = some x → f1 q = some x) 0 0 := by
  refine hm_enter (Qc := fun sz => va_Qi _ (hm_R D vwCl (tyL k) f sz) (hm_A f sz)) (by decide) rfl (Nat.le_of_ble_eq_true rfl) ?_
  intro p e s m below meth cd ls X0 hr hlk hin hK hM hS hA hl Q hQ
  have X : CallFix p m cd b_GrantServer_login 5 s ([.ref h, .int (nI j), .int y] : List Value).toArray TB R_GrantServer := ⟨X0.1, X0.2.1, X0.2.2.1, X0.2.2.2.1, fun w h => X0.2.2.2.2 w (List.mem_cons_of_mem _ h)⟩
  have hx := X.1; have hb := X.2.1; have hml := X.2.2.1; have hown := X.2.2.2.1; have hts := X.2.2.2.2
  have hl : lv_has ls 5 [(0, .ref h), (1, .int (nI j)), (2, .int y)] := hl
  refine lv_aload_n hx hb d_GrantServer_login_0 rfl (lv_at hl 0 rfl) ?_
  refine lv_iload_n hx hb d_GrantServer_login_1 rfl (lv_at hl 1 rfl) ?_
  refine hm_callq hS hM hA (va_runV (As := [.int (nI j)]) (rest := []) X (c_clientWith l D k f h u ad cn n j hh h3 hn hn4 hj s.heap.size) (hm_cwV hts me_GrantServer_clientWith wl_GrantServer_90 rfl rfl ⟨Nat.le_of_ble_eq_true rfl, Nat.le_of_ble_eq_true rfl⟩) (hm_preV hM hK hh rfl) rfl rfl hl.1 rfl (lv_room (Nat.le_of_ble_eq_true rfl)) d_GrantServer_login_2 ⟨Nat.le_of_ble_eq_true rfl, Nat.le_of_ble_eq_true rfl⟩) (fun r3 f1 H locs p2 hM hS => ?_)
  obtain ⟨rfl, rfl⟩ := p2
  refine hm_ref hcj ?_
  refine lv_astore_n (lv' := [(3, .ref a), (0, .ref h), (1, .int (nI j)), (2, .int y)]) hx hb d_GrantServer_login_5 rfl hl (by decide) rfl (fun ls hl => ?_)
  refine lv_aload_n hx hb d_GrantServer_login_6 rfl (lv_at hl 0 rfl) ?_
  refine lv_ifnull hx hb d_GrantServer_login_7 ?_
  refine lv_aload_n hx hb d_GrantServer_login_10 rfl (lv_at hl 0 rfl) ?_
  refine hm_get X hK hM hca fl_GrantServer_94 (v := .int s1) rfl d_GrantServer_login_11 ?_
  refine lv_iload_n hx hb d_GrantServer_login_14 rfl (lv_at hl 3 rfl) ?_
  refine lv_icmp_ne (tgt := 22) hx hb d_GrantServer_login_15 (by decide) (fun h4 => ?_) (fun h4 => ?_)
  · exact absurd hs h4
  · refine lv_iconst (v := 1) hx hb d_GrantServer_login_18 (by decide) ?_
    refine lv_goto (tgt := 23) hx hb d_GrantServer_login_19 (by decide) ?_
    refine lv_istore (lv' := [(4, .int 1), (3, .ref a), (0, .ref h), (1, .int (nI j)), (2, .int y)]) hx hb d_GrantServer_login_23 hl (by decide) rfl (fun ls hl => ?_)
    refine lv_aload_n hx hb d_GrantServer_login_25 rfl (lv_at hl 2 rfl) ?_
    refine lv_iload hx hb d_GrantServer_login_26 (lv_at hl 0 rfl) ?_
    refine lv_if_eq (tgt := 35) hx hb d_GrantServer_login_28 (by decide) (fun h5 => ?_) (fun h5 => ?_)
    · exact absurd h5 (by decide)
    · refine lv_iload_n hx hb d_GrantServer_login_31 rfl (lv_at hl 3 rfl) ?_
      refine lv_goto (tgt := 36) hx hb d_GrantServer_login_32 (by decide) ?_
      refine hm_put X hK hM hS (fs' := gsV (upd u 13 (nI j)) ad) hh fl_GrantServer_54 rfl rfl (Nat.le_of_ble_eq_true rfl) rfl d_GrantServer_login_36 (fun f6 H locs e7 hM hS => ?_)
      refine lv_iload hx hb d_GrantServer_login_39 (lv_at hl 0 rfl) ?_
      have g8 : f6 h = some (.inr (0, gsV (upd u 13 (nI j)) ad)) := by rw [e7, hm_up_s]
      exact hm_zret X hQ hr hlk hK hM hS rfl d_GrantServer_login_41 ⟨rfl, g8, (fun q x n0 hq => by have t0 := hq; have t1 := hm_keep e7 n0 t0; exact t1)⟩
set_option maxHeartbeats 4000000 in
set_option maxRecDepth 100000 in
theorem c_login_bad (l : Launch) (D : va_G) (k : Nat → ClassId) (f : hm) (h : Nat) (u : Nat → Int32) (ad : Nat → Nat) (cn : Nat → Option Nat) (n : Nat) (j : Nat) (a : Nat) (s1 : Int32) (s2 : Int32) (s3 : Int32) (y : Int32) (hh : f h = some (.inr (0, gsV u ad))) (h3 : f (ad 3) = some (.inl (k 4, 4, .inr (.inr (.inr (.inr cn)))))) (hca : f a = some (.inr (1, [.int s1, .int s2, .int s3]))) (hn : u 12 = nI n) (hn4 : n ≤ 4) (hj : j < n) (hcj : cn j = some a) (hs : ¬ s1 = y) : hm_Mi l D vwCl (tyL k) y_GrantServer_login (Cond.code y_GrantServer_login b_GrantServer_login 5 (some .boolean) :: TB) ({ frames := 1, cells := 0, slots := 0, locals := 21 }) [.ref h, .int (nI j), .int y] f (fun (r : Int32) (f1 : hm) => 0 = r ∧ f1 h = some (.inr (0, gsV (upd u 13 (-1)) ad)) ∧ ∀ (q : Nat) (x : va_E), q ≠ h → f q = some x → f1 q = some x) 0 0 := by
  refine hm_enter (Qc := fun sz => va_Qi _ (hm_R D vwCl (tyL k) f sz) (hm_A f sz)) (by decide) rfl (Nat.le_of_ble_eq_true rfl) ?_
  intro p e s m below meth cd ls X0 hr hlk hin hK hM hS hA hl Q hQ
  have X : CallFix p m cd b_GrantServer_login 5 s ([.ref h, .int (nI j), .int y] : List Value).toArray TB R_GrantServer := ⟨X0.1, X0.2.1, X0.2.2.1, X0.2.2.2.1, fun w h => X0.2.2.2.2 w (List.mem_cons_of_mem _ h)⟩
  have hx := X.1; have hb := X.2.1; have hml := X.2.2.1; have hown := X.2.2.2.1; have hts := X.2.2.2.2
  have hl : lv_has ls 5 [(0, .ref h), (1, .int (nI j)), (2, .int y)] := hl
  refine lv_aload_n hx hb d_GrantServer_login_0 rfl (lv_at hl 0 rfl) ?_
  refine lv_iload_n hx hb d_GrantServer_login_1 rfl (lv_at hl 1 rfl) ?_
  refine hm_callq hS hM hA (va_runV (As := [.int (nI j)]) (rest := []) X (c_clientWith l D k f h u ad cn n j hh h3 hn hn4 hj s.heap.size) (hm_cwV hts me_GrantServer_clientWith wl_GrantServer_90 rfl rfl ⟨Nat.le_of_ble_eq_true rfl, Nat.le_of_ble_eq_true rfl⟩) (hm_preV hM hK hh rfl) rfl rfl hl.1 rfl (lv_room (Nat.le_of_ble_eq_true rfl)) d_GrantServer_login_2 ⟨Nat.le_of_ble_eq_true rfl, Nat.le_of_ble_eq_true rfl⟩) (fun r3 f1 H locs p2 hM hS => ?_)
  obtain ⟨rfl, rfl⟩ := p2
  refine hm_ref hcj ?_
  refine lv_astore_n (lv' := [(3, .ref a), (0, .ref h), (1, .int (nI j)), (2, .int y)]) hx hb d_GrantServer_login_5 rfl hl (by decide) rfl (fun ls hl => ?_)
  refine lv_aload_n hx hb d_GrantServer_login_6 rfl (lv_at hl 0 rfl) ?_
  refine lv_ifnull hx hb d_GrantServer_login_7 ?_
  refine lv_aload_n hx hb d_GrantServer_login_10 rfl (lv_at hl 0 rfl) ?_
  refine hm_get X hK hM hca fl_GrantServer_94 (v := .int s1) rfl d_GrantServer_login_11 ?_
  refine lv_iload_n hx hb d_GrantServer_login_14 rfl (lv_at hl 3 rfl) ?_
  refine lv_icmp_ne (tgt := 22) hx hb d_GrantServer_login_15 (by decide) (fun h4 => ?_) (fun h4 => ?_)
  · refine lv_iconst (v := 0) hx hb d_GrantServer_login_22 (by decide) ?_
    refine lv_istore (lv' := [(4, .int 0), (3, .ref a), (0, .ref h), (1, .int (nI j)), (2, .int y)]) hx hb d_GrantServer_login_23 hl (by decide) rfl (fun ls hl => ?_)
    refine lv_aload_n hx hb d_GrantServer_login_25 rfl (lv_at hl 2 rfl) ?_
    refine lv_iload hx hb d_GrantServer_login_26 (lv_at hl 0 rfl) ?_
    refine lv_if_eq (tgt := 35) hx hb d_GrantServer_login_28 (by decide) (fun h5 => ?_) (fun h5 => ?_)
    · refine lv_iconst (v := (-1)) hx hb d_GrantServer_login_35 (by decide) ?_
      refine hm_put X hK hM hS (fs' := gsV (upd u 13 (-1)) ad) hh fl_GrantServer_54 rfl rfl (Nat.le_of_ble_eq_true rfl) rfl d_GrantServer_login_36 (fun f6 H locs e7 hM hS => ?_)
      refine lv_iload hx hb d_GrantServer_login_39 (lv_at hl 0 rfl) ?_
      have g8 : f6 h = some (.inr (0, gsV (upd u 13 (-1)) ad)) := by rw [e7, hm_up_s]
      exact hm_zret X hQ hr hlk hK hM hS rfl d_GrantServer_login_41 ⟨rfl, g8, (fun q x n0 hq => by have t0 := hq; have t1 := hm_keep e7 n0 t0; exact t1)⟩
    · exact absurd h5 (by decide)
  · exact absurd h4 hs
set_option maxHeartbeats 4000000 in
set_option maxRecDepth 100000 in
theorem c_client_no (l : Launch) (D : va_G) (k : Nat → ClassId) (f : hm) (h : Nat) (u : Nat → Int32) (ad : Nat → Nat) (a : Int32) (b : Int32) (d : Int32) (n : Nat) (hh : f h = some (.inr (0, gsV u ad))) (hn : u 12 = nI n) (hn9 : n < 2 ^ 31) (hx9 : 4 ≤ n ∨ z_some d = 0) : hm_Mi l D vwCl (tyL k) y_GrantServer_client (Cond.code y_GrantServer_client b_GrantServer_client 4 (some .int) :: TB) ({ frames := 1, cells := 0, slots := 0, locals := 20 }) [.ref h, .int a, .int b, .int d] f (fun (r : Int32) (f1 : hm) => (-1) = r ∧ f = f1) 0 0 := by
  refine hm_enter (Qc := fun sz => va_Qi _ (hm_R D vwCl (tyL k) f sz) (hm_A f sz)) (by decide) rfl (Nat.le_of_ble_eq_true rfl) ?_
  intro p e s m below meth cd ls X0 hr hlk hin hK hM hS hA hl Q hQ
  have X : CallFix p m cd b_GrantServer_client 4 s ([.ref h, .int a, .int b, .int d] : List Value).toArray TB R_GrantServer := ⟨X0.1, X0.2.1, X0.2.2.1, X0.2.2.2.1, fun w h => X0.2.2.2.2 w (List.mem_cons_of_mem _ h)⟩
  have hx := X.1; have hb := X.2.1; have hml := X.2.2.1; have hown := X.2.2.2.1; have hts := X.2.2.2.2
  have hl : lv_has ls 4 [(0, .ref h), (1, .int a), (2, .int b), (3, .int d)] := hl
  refine lv_aload_n hx hb d_GrantServer_client_0 rfl (lv_at hl 0 rfl) ?_
  refine hm_get X hK hM hh fl_GrantServer_50 (v := .int (u 12)) rfl d_GrantServer_client_1 ?_
  refine lv_iconst (v := 4) hx hb d_GrantServer_client_4 (by decide) ?_
  refine lv_icmp_ge (tgt := 15) hx hb d_GrantServer_client_5 (by decide) (fun h1 => ?_) (fun h1 => ?_)
  · refine lv_iconst (v := (-1)) hx hb d_GrantServer_client_15 (by decide) ?_
    exact hm_iret X hQ hr hlk hK hM hS d_GrantServer_client_16 ⟨rfl, rfl⟩
  · refine lv_iload_n hx hb d_GrantServer_client_8 rfl (lv_at hl 3 rfl) ?_
    refine hm_calli hS hM hA (va_runS (As := [.int d]) (rest := []) X (c_isSomeScopes l D k f d   s.heap.size) (hm_cwS hts me_GrantServer_isSomeScopes wl_GrantServer_83 rfl rfl ⟨Nat.le_of_ble_eq_true rfl, Nat.le_of_ble_eq_true rfl⟩) (hm_preS hM hK) rfl rfl hl.1 rfl (lv_room (Nat.le_of_ble_eq_true rfl)) d_GrantServer_client_9 ⟨Nat.le_of_ble_eq_true rfl, Nat.le_of_ble_eq_true rfl⟩) (fun r4 f2 H locs p3 hM hS => ?_)
    obtain ⟨rfl, rfl⟩ := p3
    refine lv_if_ne (tgt := 17) hx hb d_GrantServer_client_12 (by decide) (fun h5 => ?_) (fun h5 => ?_)
    · exact hx9.elim (fun z => absurd (hn ▸ nI_le (a := 4) z hn9) h1) (fun z => absurd z h5)
    · refine lv_iconst (v := (-1)) hx hb d_GrantServer_client_15 (by decide) ?_
      exact hm_iret X hQ hr hlk hK hM hS d_GrantServer_client_16 ⟨rfl, rfl⟩
set_option maxHeartbeats 4000000 in
set_option maxRecDepth 100000 in
theorem c_client (l : Launch) (D : va_G) (k : Nat → ClassId) (f : hm) (h : Nat) (u : Nat → Int32) (ad : Nat → Nat) (cn : Nat → Option Nat) (n : Nat) (a : Int32) (b : Int32) (d : Int32) (hh : f h = some (.inr (0, gsV u ad))) (h3 : f (ad 3) = some (.inl (k 4, 4, .inr (.inr (.inr (.inr cn)))))) (hn : u 12 = nI n) (hn4 : n < 4) (hz : ¬ z_some d = 0) : hm_Mi l D vwCl (tyL k) y_GrantServer_client (Cond.code y_GrantServer_client b_GrantServer_client 4 (some .int) :: TB) ({ frames := 2, cells := 1, slots := 3, locals := 43 }) [.ref h, .int a, .int b, .int d] f (fun (r : Int32) (f1 : hm) => ∃ (q : Nat), f q = none ∧ nI n = r ∧ f1 h = some (.inr (0, gsV (upd u 12 (nI (n + 1))) ad)) ∧ f1 (ad 3) = some (.inl (k 4, 4, .inr (.inr (.inr (.inr (va_up cn n (some q))))))) ∧ f1 q = some (.inr (1, [.int a, .int b, .int d])) ∧ ∀ (q : Nat) (x : va_E), q ≠ h → q ≠ (ad 3) → f q = some x → f1 q = some x) 1 3 := by
  refine hm_enter (Qc := fun sz => va_Qi _ (hm_R D vwCl (tyL k) f sz) (hm_A f sz)) (by decide) rfl (Nat.le_of_ble_eq_true rfl) ?_
  intro p e s m below meth cd ls X0 hr hlk hin hK hM hS hA hl Q hQ
  have X : CallFix p m cd b_GrantServer_client 4 s ([.ref h, .int a, .int b, .int d] : List Value).toArray TB R_GrantServer := ⟨X0.1, X0.2.1, X0.2.2.1, X0.2.2.2.1, fun w h => X0.2.2.2.2 w (List.mem_cons_of_mem _ h)⟩
  have hx := X.1; have hb := X.2.1; have hml := X.2.2.1; have hown := X.2.2.2.1; have hts := X.2.2.2.2
  have hl : lv_has ls 4 [(0, .ref h), (1, .int a), (2, .int b), (3, .int d)] := hl
  refine lv_aload_n hx hb d_GrantServer_client_0 rfl (lv_at hl 0 rfl) ?_
  refine hm_get X hK hM hh fl_GrantServer_50 (v := .int (u 12)) rfl d_GrantServer_client_1 ?_
  refine lv_iconst (v := 4) hx hb d_GrantServer_client_4 (by decide) ?_
  refine lv_icmp_ge (tgt := 15) hx hb d_GrantServer_client_5 (by decide) (fun h1 => ?_) (fun h1 => ?_)
  · exact absurd (hn ▸ h1) (nI_ge (b := 4) hn4 (by omega))
  · refine lv_iload_n hx hb d_GrantServer_client_8 rfl (lv_at hl 3 rfl) ?_
    refine hm_calli hS hM hA (va_runS (As := [.int d]) (rest := []) X (c_isSomeScopes l D k f d   s.heap.size) (hm_cwS hts me_GrantServer_isSomeScopes wl_GrantServer_83 rfl rfl ⟨Nat.le_of_ble_eq_true rfl, Nat.le_of_ble_eq_true rfl⟩) (hm_preS hM hK) rfl rfl hl.1 rfl (lv_room (Nat.le_of_ble_eq_true rfl)) d_GrantServer_client_9 ⟨Nat.le_of_ble_eq_true rfl, Nat.le_of_ble_eq_true rfl⟩) (fun r4 f2 H locs p3 hM hS => ?_)
    obtain ⟨rfl, rfl⟩ := p3
    refine lv_if_ne (tgt := 17) hx hb d_GrantServer_client_12 (by decide) (fun h5 => ?_) (fun h5 => ?_)
    · refine lv_aload_n hx hb d_GrantServer_client_17 rfl (lv_at hl 0 rfl) ?_
      refine hm_get X hK hM hh fl_GrantServer_11 (v := .ref (ad 3)) rfl d_GrantServer_client_18 ?_
      refine lv_aload_n hx hb d_GrantServer_client_21 rfl (lv_at hl 0 rfl) ?_
      refine hm_get X hK hM hh fl_GrantServer_50 (v := .int (u 12)) rfl d_GrantServer_client_22 ?_
      refine hm_new X hK hM hS hA nw_GrantServer_9 (by decide) (by decide) d_GrantServer_client_25 (fun q6 f7 H e8 z9 hM hS => ?_)
      have g10 : f7 q6 = some (.inr (1, [.int 0, .int 0, .int 0])) := hm_new1 e8
      refine lv_dup hx hb d_GrantServer_client_28 rfl ?_
      refine lv_iload_n hx hb d_GrantServer_client_29 rfl (lv_at hl 1 rfl) ?_
      refine lv_iload_n hx hb d_GrantServer_client_30 rfl (lv_at hl 2 rfl) ?_
      refine lv_iload_n hx hb d_GrantServer_client_31 rfl (lv_at hl 3 rfl) ?_
      have g11 : f7 h = some (.inr (0, gsV u ad)) := by rw [e8, hm_up_n (hm_ne0 hh z9)]; exact hh
      have g12 : f7 (ad 3) = some (.inl (k 4, 4, .inr (.inr (.inr (.inr cn))))) := by rw [e8, hm_up_n (hm_ne0 h3 z9)]; exact h3
      refine hm_callv hS hM hA (va_runI (As := [.int a, .int b, .int d]) (rest := [.ref q6, .int (u 12), .ref (ad 3)]) X (c_Client_init l D k f7 q6 a b d g10  H.size) (hm_cwI hts me_Client_init wl_GrantServer_87 rfl rfl ⟨Nat.le_of_ble_eq_true rfl, Nat.le_of_ble_eq_true rfl⟩) (hm_preS hM hK) rfl rfl hl.1 rfl (lv_room (Nat.le_of_ble_eq_true rfl)) d_GrantServer_client_32 ⟨Nat.le_of_ble_eq_true rfl, Nat.le_of_ble_eq_true rfl⟩) (fun f13 H locs p14 hM hS => ?_)
      obtain ⟨g15, hfr16⟩ := p14
      have g17 : f13 (ad 3) = some (.inl (k 4, 4, .inr (.inr (.inr (.inr cn))))) := hfr16 _ _ (hm_ne0 h3 z9) g12
      refine hm_aast X hK hM hS g17 g15 rfl 4 rfl n hn hn4 (by decide) d_GrantServer_client_35 (fun f18 H locs e19 hM hS => ?_)
      refine lv_aload_n hx hb d_GrantServer_client_36 rfl (lv_at hl 0 rfl) ?_
      refine lv_dup hx hb d_GrantServer_client_37 rfl ?_
      have g20 : f13 h = some (.inr (0, gsV u ad)) := hfr16 _ _ (hm_ne0 hh z9) g11
      have g21 : f18 h = some (.inr (0, gsV u ad)) := by rw [e19, hm_up_n (hm_neA g20 g17)]; exact g20
      refine hm_get X hK hM g21 fl_GrantServer_50 (v := .int (u 12)) rfl d_GrantServer_client_38 ?_
      refine lv_iconst (v := 1) hx hb d_GrantServer_client_41 (by decide) ?_
      refine lv_iadd hx hb d_GrantServer_client_42 ?_
      refine hm_top (z := nI (n + 1)) (by rw [hn]; exact nI_1 n) ?_
      refine hm_put X hK hM hS (fs' := gsV (upd u 12 (nI (n + 1))) ad) g21 fl_GrantServer_50 rfl rfl (Nat.le_of_ble_eq_true rfl) rfl d_GrantServer_client_43 (fun f22 H locs e23 hM hS => ?_)
      refine lv_aload_n hx hb d_GrantServer_client_46 rfl (lv_at hl 0 rfl) ?_
      have g24 : f22 h = some (.inr (0, gsV (upd u 12 (nI (n + 1))) ad)) := by rw [e23, hm_up_s]
      refine hm_get X hK hM g24 fl_GrantServer_50 (v := .int (nI (n + 1))) rfl d_GrantServer_client_47 ?_
      refine lv_iconst (v := 1) hx hb d_GrantServer_client_50 (by decide) ?_
      refine lv_isub hx hb d_GrantServer_client_51 ?_
      refine hm_top (z := nI n) (nI_pred n) ?_
      have g25 : f18 (ad 3) = some (.inl (k 4, 4, .inr (.inr (.inr (.inr (va_up cn n (some q6))))))) := by rw [e19, hm_up_s]
      have g26 : f22 (ad 3) = some (.inl (k 4, 4, .inr (.inr (.inr (.inr (va_up cn n (some q6))))))) := by rw [e23, hm_up_n ((hm_neA g21 g25).symm)]; exact g25
      have g27 : f18 q6 = some (.inr (1, [.int a, .int b, .int d])) := by rw [e19, hm_up_n ((hm_ne0 h3 z9).symm)]; exact g15
      have g28 : f22 q6 = some (.inr (1, [.int a, .int b, .int d])) := by rw [e23, hm_up_n ((hm_ne0 hh z9).symm)]; exact g27
      exact hm_iret X hQ hr hlk hK hM hS d_GrantServer_client_52 ⟨q6, z9, rfl, g24, g26, g28, (fun q x n0 n1 hq => by have t0 := hq; have u1 := hm_ne0 t0 z9; have t1 := hm_keep e8 u1 t0; have t2 := hfr16 _ _ u1 t1; have t3 := hm_keep e19 n1 t2; have t4 := hm_keep e23 n0 t3; exact t4)⟩
    · exact absurd h5 hz
set_option maxHeartbeats 4000000 in
set_option maxRecDepth 100000 in
theorem c_key_no (l : Launch) (D : va_G) (k : Nat → ClassId) (f : hm) (h : Nat) (u : Nat → Int32) (ad : Nat → Nat) (y : Int32) (hz : z_text y = 0) : hm_Mi l D vwCl (tyL k) y_GrantServer_key (Cond.code y_GrantServer_key b_GrantServer_key 2 (some .boolean) :: TB) ({ frames := 1, cells := 0, slots := 0, locals := 20 }) [.ref h, .int y] f (fun (r : Int32) (f1 : hm) => 0 = r ∧ f = f1) 0 0 := by
  refine hm_enter (Qc := fun sz => va_Qi _ (hm_R D vwCl (tyL k) f sz) (hm_A f sz)) (by decide) rfl (Nat.le_of_ble_eq_true rfl) ?_
  intro p e s m below meth cd ls X0 hr hlk hin hK hM hS hA hl Q hQ
  have X : CallFix p m cd b_GrantServer_key 2 s ([.ref h, .int y] : List Value).toArray TB R_GrantServer := ⟨X0.1, X0.2.1, X0.2.2.1, X0.2.2.2.1, fun w h => X0.2.2.2.2 w (List.mem_cons_of_mem _ h)⟩
  have hx := X.1; have hb := X.2.1; have hml := X.2.2.1; have hown := X.2.2.2.1; have hts := X.2.2.2.2
  have hl : lv_has ls 2 [(0, .ref h), (1, .int y)] := hl
  refine lv_iload_n hx hb d_GrantServer_key_0 rfl (lv_at hl 1 rfl) ?_
  refine hm_calli hS hM hA (va_runS (As := [.int y]) (rest := []) X (c_isWritable l D k f y   s.heap.size) (hm_cwS hts me_GrantServer_isWritable wl_GrantServer_203 rfl rfl ⟨Nat.le_of_ble_eq_true rfl, Nat.le_of_ble_eq_true rfl⟩) (hm_preS hM hK) rfl rfl hl.1 rfl (lv_room (Nat.le_of_ble_eq_true rfl)) d_GrantServer_key_1 ⟨Nat.le_of_ble_eq_true rfl, Nat.le_of_ble_eq_true rfl⟩) (fun r3 f1 H locs p2 hM hS => ?_)
  obtain ⟨rfl, rfl⟩ := p2
  refine lv_if_eq (tgt := 22) hx hb d_GrantServer_key_4 (by decide) (fun h4 => ?_) (fun h4 => ?_)
  · refine lv_iconst (v := 0) hx hb d_GrantServer_key_22 (by decide) ?_
    exact hm_zret X hQ hr hlk hK hM hS rfl d_GrantServer_key_23 ⟨rfl, rfl⟩
  · exact absurd hz h4
set_option maxHeartbeats 4000000 in
set_option maxRecDepth 100000 in
theorem c_key_full (l : Launch) (D : va_G) (k : Nat → ClassId) (f : hm) (h : Nat) (u : Nat → Int32) (ad : Nat → Nat) (n : Nat) (x : Nat → Int32) (y : Int32) (hh : f h = some (.inr (0, gsV u ad))) (ht0 : f (ad 7) = some (.inr (5, [.ref (ad 17), .int (nI n)]))) (ha0 : f (ad 17) = some (.inl (k 2, 120, .inl x))) (hn : ¬ n < 120) (hn9 : n < 2 ^ 31) : hm_Mi l D vwCl (tyL k) y_GrantServer_key (Cond.code y_GrantServer_key b_GrantServer_key 2 (some .boolean) :: TB) ({ frames := 1, cells := 0, slots := 0, locals := 21 }) [.ref h, .int y] f (fun (r : Int32) (f1 : hm) => 0 = r ∧ f = f1) 0 0 := by
  refine hm_enter (Qc := fun sz => va_Qi _ (hm_R D vwCl (tyL k) f sz) (hm_A f sz)) (by decide) rfl (Nat.le_of_ble_eq_true rfl) ?_
  intro p e s m below meth cd ls X0 hr hlk hin hK hM hS hA hl Q hQ
  have X : CallFix p m cd b_GrantServer_key 2 s ([.ref h, .int y] : List Value).toArray TB R_GrantServer := ⟨X0.1, X0.2.1, X0.2.2.1, X0.2.2.2.1, fun w h => X0.2.2.2.2 w (List.mem_cons_of_mem _ h)⟩
  have hx := X.1; have hb := X.2.1; have hml := X.2.2.1; have hown := X.2.2.2.1; have hts := X.2.2.2.2
  have hl : lv_has ls 2 [(0, .ref h), (1, .int y)] := hl
  refine lv_iload_n hx hb d_GrantServer_key_0 rfl (lv_at hl 1 rfl) ?_
  refine hm_calli hS hM hA (va_runS (As := [.int y]) (rest := []) X (c_isWritable l D k f y   s.heap.size) (hm_cwS hts me_GrantServer_isWritable wl_GrantServer_203 rfl rfl ⟨Nat.le_of_ble_eq_true rfl, Nat.le_of_ble_eq_true rfl⟩) (hm_preS hM hK) rfl rfl hl.1 rfl (lv_room (Nat.le_of_ble_eq_true rfl)) d_GrantServer_key_1 ⟨Nat.le_of_ble_eq_true rfl, Nat.le_of_ble_eq_true rfl⟩) (fun r3 f1 H locs p2 hM hS => ?_)
  obtain ⟨rfl, rfl⟩ := p2
  refine lv_if_eq (tgt := 22) hx hb d_GrantServer_key_4 (by decide) (fun h4 => ?_) (fun h4 => ?_)
  · refine lv_iconst (v := 0) hx hb d_GrantServer_key_22 (by decide) ?_
    exact hm_zret X hQ hr hlk hK hM hS rfl d_GrantServer_key_23 ⟨rfl, rfl⟩
  · refine lv_aload_n hx hb d_GrantServer_key_7 rfl (lv_at hl 0 rfl) ?_
    refine hm_get X hK hM hh fl_GrantServer_33 (v := .ref (ad 7)) rfl d_GrantServer_key_8 ?_
    refine lv_iload_n hx hb d_GrantServer_key_11 rfl (lv_at hl 1 rfl) ?_
    refine hm_calli hS hM hA (va_runV (As := [.int y]) (rest := []) X (c_Text_addF l D k f (ad 7) (ad 17) n x y ht0 hn hn9 H.size) (hm_cwV hts me_Text_add wl_GrantServer_207 rfl rfl ⟨Nat.le_of_ble_eq_true rfl, Nat.le_of_ble_eq_true rfl⟩) (hm_preV hM hK ht0 rfl) rfl rfl hl.1 rfl (lv_room (Nat.le_of_ble_eq_true rfl)) d_GrantServer_key_12 ⟨Nat.le_of_ble_eq_true rfl, Nat.le_of_ble_eq_true rfl⟩) (fun r7 f5 H locs p6 hM hS => ?_)
    obtain ⟨rfl, rfl⟩ := p6
    refine lv_if_eq (tgt := 22) hx hb d_GrantServer_key_15 (by decide) (fun h8 => ?_) (fun h8 => ?_)
    · refine lv_iconst (v := 0) hx hb d_GrantServer_key_22 (by decide) ?_
      exact hm_zret X hQ hr hlk hK hM hS rfl d_GrantServer_key_23 ⟨rfl, rfl⟩
    · exact absurd h8 (by decide)
set_option maxHeartbeats 4000000 in
set_option maxRecDepth 100000 in
theorem c_key (l : Launch) (D : va_G) (k : Nat → ClassId) (f : hm) (h : Nat) (u : Nat → Int32) (ad : Nat → Nat) (n : Nat) (x : Nat → Int32) (y : Int32) (hh : f h = some (.inr (0, gsV u ad))) (ht0 : f (ad 7) = some (.inr (5, [.ref (ad 17), .int (nI n)]))) (ha0 : f (ad 17) = some (.inl (k 2, 120, .inl x))) (hz : ¬ z_text y = 0) (hn : n < 120) (hy : vp_nar .char y = y) : hm_Mi l D vwCl (tyL k) y_GrantServer_key (Cond.code y_GrantServer_key b_GrantServer_key 2 (some .boolean) :: TB) ({ frames := 1, cells := 0, slots := 0, locals := 21 }) [.ref h, .int y] f (fun (r : Int32) (f1 : hm) => 1 = r ∧ f1 (ad 7) = some (.inr (5, [.ref (ad 17), .int (nI (n + 1))])) ∧ f1 (ad 17) = some (.inl (k 2, 120, .inl (upd x n y))) ∧ ∀ (q : Nat) (x : va_E), q ≠ (ad 7) → q ≠ (ad 17) → f q = some x → f1 q = some x) 0 0 := by
  refine hm_enter (Qc := fun sz => va_Qi _ (hm_R D vwCl (tyL k) f sz) (hm_A f sz)) (by decide) rfl (Nat.le_of_ble_eq_true rfl) ?_
  intro p e s m below meth cd ls X0 hr hlk hin hK hM hS hA hl Q hQ
  have X : CallFix p m cd b_GrantServer_key 2 s ([.ref h, .int y] : List Value).toArray TB R_GrantServer := ⟨X0.1, X0.2.1, X0.2.2.1, X0.2.2.2.1, fun w h => X0.2.2.2.2 w (List.mem_cons_of_mem _ h)⟩
  have hx := X.1; have hb := X.2.1; have hml := X.2.2.1; have hown := X.2.2.2.1; have hts := X.2.2.2.2
  have hl : lv_has ls 2 [(0, .ref h), (1, .int y)] := hl
  refine lv_iload_n hx hb d_GrantServer_key_0 rfl (lv_at hl 1 rfl) ?_
  refine hm_calli hS hM hA (va_runS (As := [.int y]) (rest := []) X (c_isWritable l D k f y   s.heap.size) (hm_cwS hts me_GrantServer_isWritable wl_GrantServer_203 rfl rfl ⟨Nat.le_of_ble_eq_true rfl, Nat.le_of_ble_eq_true rfl⟩) (hm_preS hM hK) rfl rfl hl.1 rfl (lv_room (Nat.le_of_ble_eq_true rfl)) d_GrantServer_key_1 ⟨Nat.le_of_ble_eq_true rfl, Nat.le_of_ble_eq_true rfl⟩) (fun r3 f1 H locs p2 hM hS => ?_)
  obtain ⟨rfl, rfl⟩ := p2
  refine lv_if_eq (tgt := 22) hx hb d_GrantServer_key_4 (by decide) (fun h4 => ?_) (fun h4 => ?_)
  · exact absurd h4 hz
  · refine lv_aload_n hx hb d_GrantServer_key_7 rfl (lv_at hl 0 rfl) ?_
    refine hm_get X hK hM hh fl_GrantServer_33 (v := .ref (ad 7)) rfl d_GrantServer_key_8 ?_
    refine lv_iload_n hx hb d_GrantServer_key_11 rfl (lv_at hl 1 rfl) ?_
    refine hm_calli hS hM hA (va_runV (As := [.int y]) (rest := []) X (c_Text_add l D k f (ad 7) (ad 17) n x y ht0 ha0 hn hy H.size) (hm_cwV hts me_Text_add wl_GrantServer_207 rfl rfl ⟨Nat.le_of_ble_eq_true rfl, Nat.le_of_ble_eq_true rfl⟩) (hm_preV hM hK ht0 rfl) rfl rfl hl.1 rfl (lv_room (Nat.le_of_ble_eq_true rfl)) d_GrantServer_key_12 ⟨Nat.le_of_ble_eq_true rfl, Nat.le_of_ble_eq_true rfl⟩) (fun r7 f5 H locs p6 hM hS => ?_)
    obtain ⟨rfl, g8, g9, hfr10⟩ := p6
    refine lv_if_eq (tgt := 22) hx hb d_GrantServer_key_15 (by decide) (fun h11 => ?_) (fun h11 => ?_)
    · exact absurd h11 (by decide)
    · refine lv_iconst (v := 1) hx hb d_GrantServer_key_18 (by decide) ?_
      refine lv_goto (tgt := 23) hx hb d_GrantServer_key_19 (by decide) ?_
      exact hm_zret X hQ hr hlk hK hM hS rfl d_GrantServer_key_23 ⟨rfl, g8, g9, (fun q x n0 n1 hq => by have t0 := hq; have t1 := hfr10 _ _ n0 n1 t0; exact t1)⟩
set_option maxHeartbeats 4000000 in
set_option maxRecDepth 100000 in
theorem c_alter_no (l : Launch) (D : va_G) (k : Nat → ClassId) (f : hm) (h : Nat) (u : Nat → Int32) (ad : Nat → Nat) (i : Int32) (y : Int32) (hz : z_text y = 0) : hm_Mi l D vwCl (tyL k) y_GrantServer_alter (Cond.code y_GrantServer_alter b_GrantServer_alter 3 (some .boolean) :: TB) ({ frames := 1, cells := 0, slots := 0, locals := 20 }) [.ref h, .int i, .int y] f (fun (r : Int32) (f1 : hm) => 0 = r ∧ f = f1) 0 0 := by
  refine hm_enter (Qc := fun sz => va_Qi _ (hm_R D vwCl (tyL k) f sz) (hm_A f sz)) (by decide) rfl (Nat.le_of_ble_eq_true rfl) ?_
  intro p e s m below meth cd ls X0 hr hlk hin hK hM hS hA hl Q hQ
  have X : CallFix p m cd b_GrantServer_alter 3 s ([.ref h, .int i, .int y] : List Value).toArray TB R_GrantServer := ⟨X0.1, X0.2.1, X0.2.2.1, X0.2.2.2.1, fun w h => X0.2.2.2.2 w (List.mem_cons_of_mem _ h)⟩
  have hx := X.1; have hb := X.2.1; have hml := X.2.2.1; have hown := X.2.2.2.1; have hts := X.2.2.2.2
  have hl : lv_has ls 3 [(0, .ref h), (1, .int i), (2, .int y)] := hl
  refine lv_iload_n hx hb d_GrantServer_alter_0 rfl (lv_at hl 2 rfl) ?_
  refine hm_calli hS hM hA (va_runS (As := [.int y]) (rest := []) X (c_isWritable l D k f y   s.heap.size) (hm_cwS hts me_GrantServer_isWritable wl_GrantServer_203 rfl rfl ⟨Nat.le_of_ble_eq_true rfl, Nat.le_of_ble_eq_true rfl⟩) (hm_preS hM hK) rfl rfl hl.1 rfl (lv_room (Nat.le_of_ble_eq_true rfl)) d_GrantServer_alter_1 ⟨Nat.le_of_ble_eq_true rfl, Nat.le_of_ble_eq_true rfl⟩) (fun r3 f1 H locs p2 hM hS => ?_)
  obtain ⟨rfl, rfl⟩ := p2
  refine lv_if_eq (tgt := 23) hx hb d_GrantServer_alter_4 (by decide) (fun h4 => ?_) (fun h4 => ?_)
  · refine lv_iconst (v := 0) hx hb d_GrantServer_alter_23 (by decide) ?_
    exact hm_zret X hQ hr hlk hK hM hS rfl d_GrantServer_alter_24 ⟨rfl, rfl⟩
  · exact absurd hz h4
set_option maxHeartbeats 4000000 in
set_option maxRecDepth 100000 in
theorem c_alter_out (l : Launch) (D : va_G) (k : Nat → ClassId) (f : hm) (h : Nat) (u : Nat → Int32) (ad : Nat → Nat) (n : Nat) (x : Nat → Int32) (i : Int32) (y : Int32) (hh : f h = some (.inr (0, gsV u ad))) (ht0 : f (ad 7) = some (.inr (5, [.ref (ad 17), .int (nI n)]))) (ha0 : f (ad 17) = some (.inl (k 2, 120, .inl x))) (hi : i < 0 ∨ nI n ≤ i) : hm_Mi l D vwCl (tyL k) y_GrantServer_alter (Cond.code y_GrantServer_alter b_GrantServer_alter 3 (some .boolean) :: TB) ({ frames := 1, cells := 0, slots := 0, locals := 22 }) [.ref h, .int i, .int y] f (fun (r : Int32) (f1 : hm) => 0 = r ∧ f = f1) 0 0 := by
  refine hm_enter (Qc := fun sz => va_Qi _ (hm_R D vwCl (tyL k) f sz) (hm_A f sz)) (by decide) rfl (Nat.le_of_ble_eq_true rfl) ?_
  intro p e s m below meth cd ls X0 hr hlk hin hK hM hS hA hl Q hQ
  have X : CallFix p m cd b_GrantServer_alter 3 s ([.ref h, .int i, .int y] : List Value).toArray TB R_GrantServer := ⟨X0.1, X0.2.1, X0.2.2.1, X0.2.2.2.1, fun w h => X0.2.2.2.2 w (List.mem_cons_of_mem _ h)⟩
  have hx := X.1; have hb := X.2.1; have hml := X.2.2.1; have hown := X.2.2.2.1; have hts := X.2.2.2.2
  have hl : lv_has ls 3 [(0, .ref h), (1, .int i), (2, .int y)] := hl
  refine lv_iload_n hx hb d_GrantServer_alter_0 rfl (lv_at hl 2 rfl) ?_
  refine hm_calli hS hM hA (va_runS (As := [.int y]) (rest := []) X (c_isWritable l D k f y   s.heap.size) (hm_cwS hts me_GrantServer_isWritable wl_GrantServer_203 rfl rfl ⟨Nat.le_of_ble_eq_true rfl, Nat.le_of_ble_eq_true rfl⟩) (hm_preS hM hK) rfl rfl hl.1 rfl (lv_room (Nat.le_of_ble_eq_true rfl)) d_GrantServer_alter_1 ⟨Nat.le_of_ble_eq_true rfl, Nat.le_of_ble_eq_true rfl⟩) (fun r3 f1 H locs p2 hM hS => ?_)
  obtain ⟨rfl, rfl⟩ := p2
  refine lv_if_eq (tgt := 23) hx hb d_GrantServer_alter_4 (by decide) (fun h4 => ?_) (fun h4 => ?_)
  · refine lv_iconst (v := 0) hx hb d_GrantServer_alter_23 (by decide) ?_
    exact hm_zret X hQ hr hlk hK hM hS rfl d_GrantServer_alter_24 ⟨rfl, rfl⟩
  · refine lv_aload_n hx hb d_GrantServer_alter_7 rfl (lv_at hl 0 rfl) ?_
    refine hm_get X hK hM hh fl_GrantServer_33 (v := .ref (ad 7)) rfl d_GrantServer_alter_8 ?_
    refine lv_iload_n hx hb d_GrantServer_alter_11 rfl (lv_at hl 1 rfl) ?_
    refine lv_iload_n hx hb d_GrantServer_alter_12 rfl (lv_at hl 2 rfl) ?_
    refine hm_calli hS hM hA (va_runV (As := [.int i, .int y]) (rest := []) X (c_Text_putF l D k f (ad 7) (ad 17) n i y ht0 hi H.size) (hm_cwV hts me_Text_put wl_GrantServer_210 rfl rfl ⟨Nat.le_of_ble_eq_true rfl, Nat.le_of_ble_eq_true rfl⟩) (hm_preV hM hK ht0 rfl) rfl rfl hl.1 rfl (lv_room (Nat.le_of_ble_eq_true rfl)) d_GrantServer_alter_13 ⟨Nat.le_of_ble_eq_true rfl, Nat.le_of_ble_eq_true rfl⟩) (fun r7 f5 H locs p6 hM hS => ?_)
    obtain ⟨rfl, rfl⟩ := p6
    refine lv_if_eq (tgt := 23) hx hb d_GrantServer_alter_16 (by decide) (fun h8 => ?_) (fun h8 => ?_)
    · refine lv_iconst (v := 0) hx hb d_GrantServer_alter_23 (by decide) ?_
      exact hm_zret X hQ hr hlk hK hM hS rfl d_GrantServer_alter_24 ⟨rfl, rfl⟩
    · exact absurd h8 (by decide)
set_option maxHeartbeats 4000000 in
set_option maxRecDepth 100000 in
theorem c_alter (l : Launch) (D : va_G) (k : Nat → ClassId) (f : hm) (h : Nat) (u : Nat → Int32) (ad : Nat → Nat) (n : Nat) (x : Nat → Int32) (j : Nat) (y : Int32) (hh : f h = some (.inr (0, gsV u ad))) (ht0 : f (ad 7) = some (.inr (5, [.ref (ad 17), .int (nI n)]))) (ha0 : f (ad 17) = some (.inl (k 2, 120, .inl x))) (hz : ¬ z_text y = 0) (hn : n ≤ 120) (hj : j < n) (hy : vp_nar .char y = y) : hm_Mi l D vwCl (tyL k) y_GrantServer_alter (Cond.code y_GrantServer_alter b_GrantServer_alter 3 (some .boolean) :: TB) ({ frames := 1, cells := 0, slots := 0, locals := 22 }) [.ref h, .int (nI j), .int y] f (fun (r : Int32) (f1 : hm) => 1 = r ∧ f1 (ad 7) = some (.inr (5, [.ref (ad 17), .int (nI n)])) ∧ f1 (ad 17) = some (.inl (k 2, 120, .inl (upd x j y))) ∧ ∀ (q : Nat) (x : va_E), q ≠ (ad 7) → q ≠ (ad 17) → f q = some x → f1 q = some x) 0 0 := by
  refine hm_enter (Qc := fun sz => va_Qi _ (hm_R D vwCl (tyL k) f sz) (hm_A f sz)) (by decide) rfl (Nat.le_of_ble_eq_true rfl) ?_
  intro p e s m below meth cd ls X0 hr hlk hin hK hM hS hA hl Q hQ
  have X : CallFix p m cd b_GrantServer_alter 3 s ([.ref h, .int (nI j), .int y] : List Value).toArray TB R_GrantServer := ⟨X0.1, X0.2.1, X0.2.2.1, X0.2.2.2.1, fun w h => X0.2.2.2.2 w (List.mem_cons_of_mem _ h)⟩
  have hx := X.1; have hb := X.2.1; have hml := X.2.2.1; have hown := X.2.2.2.1; have hts := X.2.2.2.2
  have hl : lv_has ls 3 [(0, .ref h), (1, .int (nI j)), (2, .int y)] := hl
  refine lv_iload_n hx hb d_GrantServer_alter_0 rfl (lv_at hl 2 rfl) ?_
  refine hm_calli hS hM hA (va_runS (As := [.int y]) (rest := []) X (c_isWritable l D k f y   s.heap.size) (hm_cwS hts me_GrantServer_isWritable wl_GrantServer_203 rfl rfl ⟨Nat.le_of_ble_eq_true rfl, Nat.le_of_ble_eq_true rfl⟩) (hm_preS hM hK) rfl rfl hl.1 rfl (lv_room (Nat.le_of_ble_eq_true rfl)) d_GrantServer_alter_1 ⟨Nat.le_of_ble_eq_true rfl, Nat.le_of_ble_eq_true rfl⟩) (fun r3 f1 H locs p2 hM hS => ?_)
  obtain ⟨rfl, rfl⟩ := p2
  refine lv_if_eq (tgt := 23) hx hb d_GrantServer_alter_4 (by decide) (fun h4 => ?_) (fun h4 => ?_)
  · exact absurd h4 hz
  · refine lv_aload_n hx hb d_GrantServer_alter_7 rfl (lv_at hl 0 rfl) ?_
    refine hm_get X hK hM hh fl_GrantServer_33 (v := .ref (ad 7)) rfl d_GrantServer_alter_8 ?_
    refine lv_iload_n hx hb d_GrantServer_alter_11 rfl (lv_at hl 1 rfl) ?_
    refine lv_iload_n hx hb d_GrantServer_alter_12 rfl (lv_at hl 2 rfl) ?_
    refine hm_calli hS hM hA (va_runV (As := [.int (nI j), .int y]) (rest := []) X (c_Text_put l D k f (ad 7) (ad 17) n x j y ht0 ha0 hn hj hy H.size) (hm_cwV hts me_Text_put wl_GrantServer_210 rfl rfl ⟨Nat.le_of_ble_eq_true rfl, Nat.le_of_ble_eq_true rfl⟩) (hm_preV hM hK ht0 rfl) rfl rfl hl.1 rfl (lv_room (Nat.le_of_ble_eq_true rfl)) d_GrantServer_alter_13 ⟨Nat.le_of_ble_eq_true rfl, Nat.le_of_ble_eq_true rfl⟩) (fun r7 f5 H locs p6 hM hS => ?_)
    obtain ⟨rfl, g8, g9, hfr10⟩ := p6
    refine lv_if_eq (tgt := 23) hx hb d_GrantServer_alter_16 (by decide) (fun h11 => ?_) (fun h11 => ?_)
    · exact absurd h11 (by decide)
    · refine lv_iconst (v := 1) hx hb d_GrantServer_alter_19 (by decide) ?_
      refine lv_goto (tgt := 24) hx hb d_GrantServer_alter_20 (by decide) ?_
      exact hm_zret X hQ hr hlk hK hM hS rfl d_GrantServer_alter_24 ⟨rfl, g8, g9, (fun q x n0 n1 hq => by have t0 := hq; have t1 := hfr10 _ _ n0 n1 t0; exact t1)⟩
set_option maxHeartbeats 4000000 in
set_option maxRecDepth 100000 in
theorem c_letter_in (l : Launch) (D : va_G) (k : Nat → ClassId) (f : hm) (h : Nat) (u : Nat → Int32) (ad : Nat → Nat) (n : Nat) (w : Nat → Int32) (x : Int32) (i : Int32) (hh : f h = some (.inr (0, gsV u ad))) (ht0 : f (ad 7) = some (.inr (5, [.ref (ad 17), .int (nI n)]))) (ha0 : f (ad 17) = some (.inl (k 2, 120, .inl w))) (hx9 : x = 0) (hn : n ≤ 120) : hm_Mi l D vwCl (tyL k) y_GrantServer_letter (Cond.code y_GrantServer_letter b_GrantServer_letter 3 (some .int) :: TB) ({ frames := 1, cells := 0, slots := 0, locals := 21 }) [.ref h, .int x, .int i] f (fun (r : Int32) (f1 : hm) => z_at n w i = r ∧ f = f1) 0 0 := by
  refine hm_enter (Qc := fun sz => va_Qi _ (hm_R D vwCl (tyL k) f sz) (hm_A f sz)) (by decide) rfl (Nat.le_of_ble_eq_true rfl) ?_
  intro p e s m below meth cd ls X0 hr hlk hin hK hM hS hA hl Q hQ
  have X : CallFix p m cd b_GrantServer_letter 3 s ([.ref h, .int x, .int i] : List Value).toArray TB R_GrantServer := ⟨X0.1, X0.2.1, X0.2.2.1, X0.2.2.2.1, fun w h => X0.2.2.2.2 w (List.mem_cons_of_mem _ h)⟩
  have hx := X.1; have hb := X.2.1; have hml := X.2.2.1; have hown := X.2.2.2.1; have hts := X.2.2.2.2
  have hl : lv_has ls 3 [(0, .ref h), (1, .int x), (2, .int i)] := hl
  refine lv_iload_n hx hb d_GrantServer_letter_0 rfl (lv_at hl 1 rfl) ?_
  refine lv_if_eq (tgt := 15) hx hb d_GrantServer_letter_1 (by decide) (fun h1 => ?_) (fun h1 => ?_)
  · refine lv_aload_n hx hb d_GrantServer_letter_15 rfl (lv_at hl 0 rfl) ?_
    refine hm_get X hK hM hh fl_GrantServer_33 (v := .ref (ad 7)) rfl d_GrantServer_letter_16 ?_
    refine lv_iload_n hx hb d_GrantServer_letter_19 rfl (lv_at hl 2 rfl) ?_
    refine hm_calli hS hM hA (va_runV (As := [.int i]) (rest := []) X (c_Text_codeAt l D k f (ad 7) (ad 17) n w i ht0 ha0 hn s.heap.size) (hm_cwV hts me_Text_codeAt wl_GrantServer_224 rfl rfl ⟨Nat.le_of_ble_eq_true rfl, Nat.le_of_ble_eq_true rfl⟩) (hm_preV hM hK ht0 rfl) rfl rfl hl.1 rfl (lv_room (Nat.le_of_ble_eq_true rfl)) d_GrantServer_letter_20 ⟨Nat.le_of_ble_eq_true rfl, Nat.le_of_ble_eq_true rfl⟩) (fun r4 f2 H locs p3 hM hS => ?_)
    obtain ⟨rfl, rfl⟩ := p3
    exact hm_iret X hQ hr hlk hK hM hS d_GrantServer_letter_23 ⟨rfl, rfl⟩
  · exact absurd hx9 h1
set_option maxHeartbeats 4000000 in
set_option maxRecDepth 100000 in
theorem c_letter_out (l : Launch) (D : va_G) (k : Nat → ClassId) (f : hm) (h : Nat) (u : Nat → Int32) (ad : Nat → Nat) (n : Nat) (w : Nat → Int32) (x : Int32) (i : Int32) (hh : f h = some (.inr (0, gsV u ad))) (ht1 : f (ad 8) = some (.inr (5, [.ref (ad 18), .int (nI n)]))) (ha1 : f (ad 18) = some (.inl (k 2, 120, .inl w))) (hx9 : ¬ x = 0) (hn : n ≤ 120) : hm_Mi l D vwCl (tyL k) y_GrantServer_letter (Cond.code y_GrantServer_letter b_GrantServer_letter 3 (some .int) :: TB) ({ frames := 1, cells := 0, slots := 0, locals := 21 }) [.ref h, .int x, .int i] f (fun (r : Int32) (f1 : hm) => z_at n w i = r ∧ f = f1) 0 0 := by
  refine hm_enter (Qc := fun sz => va_Qi _ (hm_R D vwCl (tyL k) f sz) (hm_A f sz)) (by decide) rfl (Nat.le_of_ble_eq_true rfl) ?_
  intro p e s m below meth cd ls X0 hr hlk hin hK hM hS hA hl Q hQ
  have X : CallFix p m cd b_GrantServer_letter 3 s ([.ref h, .int x, .int i] : List Value).toArray TB R_GrantServer := ⟨X0.1, X0.2.1, X0.2.2.1, X0.2.2.2.1, fun w h => X0.2.2.2.2 w (List.mem_cons_of_mem _ h)⟩
  have hx := X.1; have hb := X.2.1; have hml := X.2.2.1; have hown := X.2.2.2.1; have hts := X.2.2.2.2
  have hl : lv_has ls 3 [(0, .ref h), (1, .int x), (2, .int i)] := hl
  refine lv_iload_n hx hb d_GrantServer_letter_0 rfl (lv_at hl 1 rfl) ?_
  refine lv_if_eq (tgt := 15) hx hb d_GrantServer_letter_1 (by decide) (fun h1 => ?_) (fun h1 => ?_)
  · exact absurd h1 hx9
  · refine lv_aload_n hx hb d_GrantServer_letter_4 rfl (lv_at hl 0 rfl) ?_
    refine hm_get X hK hM hh fl_GrantServer_37 (v := .ref (ad 8)) rfl d_GrantServer_letter_5 ?_
    refine lv_iload_n hx hb d_GrantServer_letter_8 rfl (lv_at hl 2 rfl) ?_
    refine hm_calli hS hM hA (va_runV (As := [.int i]) (rest := []) X (c_Text_codeAt l D k f (ad 8) (ad 18) n w i ht1 ha1 hn s.heap.size) (hm_cwV hts me_Text_codeAt wl_GrantServer_224 rfl rfl ⟨Nat.le_of_ble_eq_true rfl, Nat.le_of_ble_eq_true rfl⟩) (hm_preV hM hK ht1 rfl) rfl rfl hl.1 rfl (lv_room (Nat.le_of_ble_eq_true rfl)) d_GrantServer_letter_9 ⟨Nat.le_of_ble_eq_true rfl, Nat.le_of_ble_eq_true rfl⟩) (fun r4 f2 H locs p3 hM hS => ?_)
    obtain ⟨rfl, rfl⟩ := p3
    refine lv_goto (tgt := 23) hx hb d_GrantServer_letter_12 (by decide) ?_
    exact hm_iret X hQ hr hlk hK hM hS d_GrantServer_letter_23 ⟨rfl, rfl⟩
end
section
theorem d_GrantServerModel_client_0 : decode b_GrantServerModel_client 0 = .ok (.aload_n 0, 1) := by decide +kernel
theorem d_GrantServerModel_client_1 : decode b_GrantServerModel_client 1 = .ok (.getfield 86, 3) := by decide +kernel
theorem d_GrantServerModel_client_4 : decode b_GrantServerModel_client 4 = .ok (.iconst 4, 1) := by decide +kernel
theorem d_GrantServerModel_client_5 : decode b_GrantServerModel_client 5 = .ok (.if_icmp .eq 14, 3) := by decide +kernel
theorem d_GrantServerModel_client_8 : decode b_GrantServerModel_client 8 = .ok (.iload_n 3, 1) := by decide +kernel
theorem d_GrantServerModel_client_9 : decode b_GrantServerModel_client 9 = .ok (.iconst 1, 1) := by decide +kernel
theorem d_GrantServerModel_client_10 : decode b_GrantServerModel_client 10 = .ok (.if_icmp .lt 9, 3) := by decide +kernel
theorem d_GrantServerModel_client_13 : decode b_GrantServerModel_client 13 = .ok (.iload_n 3, 1) := by decide +kernel
theorem d_GrantServerModel_client_14 : decode b_GrantServerModel_client 14 = .ok (.bipush 15, 2) := by decide +kernel
theorem d_GrantServerModel_client_16 : decode b_GrantServerModel_client 16 = .ok (.if_icmp .le 5, 3) := by decide +kernel
theorem d_GrantServerModel_client_19 : decode b_GrantServerModel_client 19 = .ok (.iconst (-1), 1) := by decide +kernel
theorem d_GrantServerModel_client_20 : decode b_GrantServerModel_client 20 = .ok (.ireturn, 1) := by decide +kernel
theorem d_GrantServerModel_client_21 : decode b_GrantServerModel_client 21 = .ok (.aload_n 0, 1) := by decide +kernel
theorem d_GrantServerModel_client_22 : decode b_GrantServerModel_client 22 = .ok (.getfield 7, 3) := by decide +kernel
theorem d_GrantServerModel_client_25 : decode b_GrantServerModel_client 25 = .ok (.aload_n 0, 1) := by decide +kernel
theorem d_GrantServerModel_client_26 : decode b_GrantServerModel_client 26 = .ok (.getfield 86, 3) := by decide +kernel
theorem d_GrantServerModel_client_29 : decode b_GrantServerModel_client 29 = .ok (.iload_n 1, 1) := by decide +kernel
theorem d_GrantServerModel_client_30 : decode b_GrantServerModel_client 30 = .ok (.iastore, 1) := by decide +kernel
theorem d_GrantServerModel_client_31 : decode b_GrantServerModel_client 31 = .ok (.aload_n 0, 1) := by decide +kernel
theorem d_GrantServerModel_client_32 : decode b_GrantServerModel_client 32 = .ok (.getfield 13, 3) := by decide +kernel
theorem d_GrantServerModel_client_35 : decode b_GrantServerModel_client 35 = .ok (.aload_n 0, 1) := by decide +kernel
theorem d_GrantServerModel_client_36 : decode b_GrantServerModel_client 36 = .ok (.getfield 86, 3) := by decide +kernel
theorem d_GrantServerModel_client_39 : decode b_GrantServerModel_client 39 = .ok (.iload_n 2, 1) := by decide +kernel
theorem d_GrantServerModel_client_40 : decode b_GrantServerModel_client 40 = .ok (.iastore, 1) := by decide +kernel
theorem d_GrantServerModel_client_41 : decode b_GrantServerModel_client 41 = .ok (.aload_n 0, 1) := by decide +kernel
theorem d_GrantServerModel_client_42 : decode b_GrantServerModel_client 42 = .ok (.getfield 16, 3) := by decide +kernel
theorem d_GrantServerModel_client_45 : decode b_GrantServerModel_client 45 = .ok (.aload_n 0, 1) := by decide +kernel
theorem d_GrantServerModel_client_46 : decode b_GrantServerModel_client 46 = .ok (.getfield 86, 3) := by decide +kernel
theorem d_GrantServerModel_client_49 : decode b_GrantServerModel_client 49 = .ok (.iload_n 3, 1) := by decide +kernel
theorem d_GrantServerModel_client_50 : decode b_GrantServerModel_client 50 = .ok (.iastore, 1) := by decide +kernel
theorem d_GrantServerModel_client_51 : decode b_GrantServerModel_client 51 = .ok (.aload_n 0, 1) := by decide +kernel
theorem d_GrantServerModel_client_52 : decode b_GrantServerModel_client 52 = .ok (.dup, 1) := by decide +kernel
theorem d_GrantServerModel_client_53 : decode b_GrantServerModel_client 53 = .ok (.getfield 86, 3) := by decide +kernel
theorem d_GrantServerModel_client_56 : decode b_GrantServerModel_client 56 = .ok (.iconst 1, 1) := by decide +kernel
theorem d_GrantServerModel_client_57 : decode b_GrantServerModel_client 57 = .ok (.iadd, 1) := by decide +kernel
theorem d_GrantServerModel_client_58 : decode b_GrantServerModel_client 58 = .ok (.putfield 86, 3) := by decide +kernel
theorem d_GrantServerModel_client_61 : decode b_GrantServerModel_client 61 = .ok (.aload_n 0, 1) := by decide +kernel
theorem d_GrantServerModel_client_62 : decode b_GrantServerModel_client 62 = .ok (.getfield 86, 3) := by decide +kernel
theorem d_GrantServerModel_client_65 : decode b_GrantServerModel_client 65 = .ok (.iconst 1, 1) := by decide +kernel
theorem d_GrantServerModel_client_66 : decode b_GrantServerModel_client 66 = .ok (.isub, 1) := by decide +kernel
theorem d_GrantServerModel_client_67 : decode b_GrantServerModel_client 67 = .ok (.ireturn, 1) := by decide +kernel
theorem d_GrantServerModel_login_0 : decode b_GrantServerModel_login 0 = .ok (.aload_n 0, 1) := by decide +kernel
theorem d_GrantServerModel_login_1 : decode b_GrantServerModel_login 1 = .ok (.aload_n 0, 1) := by decide +kernel
theorem d_GrantServerModel_login_2 : decode b_GrantServerModel_login 2 = .ok (.iload_n 1, 1) := by decide +kernel
theorem d_GrantServerModel_login_3 : decode b_GrantServerModel_login 3 = .ok (.invokevirtual 89, 3) := by decide +kernel
theorem d_GrantServerModel_login_6 : decode b_GrantServerModel_login 6 = .ok (.ifCond .eq 17, 3) := by decide +kernel
theorem d_GrantServerModel_login_9 : decode b_GrantServerModel_login 9 = .ok (.aload_n 0, 1) := by decide +kernel
theorem d_GrantServerModel_login_10 : decode b_GrantServerModel_login 10 = .ok (.getfield 7, 3) := by decide +kernel
theorem d_GrantServerModel_login_13 : decode b_GrantServerModel_login 13 = .ok (.iload_n 1, 1) := by decide +kernel
theorem d_GrantServerModel_login_14 : decode b_GrantServerModel_login 14 = .ok (.iaload, 1) := by decide +kernel
theorem d_GrantServerModel_login_15 : decode b_GrantServerModel_login 15 = .ok (.iload_n 2, 1) := by decide +kernel
theorem d_GrantServerModel_login_16 : decode b_GrantServerModel_login 16 = .ok (.if_icmp .ne 7, 3) := by decide +kernel
theorem d_GrantServerModel_login_19 : decode b_GrantServerModel_login 19 = .ok (.iload_n 1, 1) := by decide +kernel
theorem d_GrantServerModel_login_20 : decode b_GrantServerModel_login 20 = .ok (.goto 4, 3) := by decide +kernel
theorem d_GrantServerModel_login_23 : decode b_GrantServerModel_login 23 = .ok (.iconst (-1), 1) := by decide +kernel
theorem d_GrantServerModel_login_24 : decode b_GrantServerModel_login 24 = .ok (.putfield 19, 3) := by decide +kernel
theorem d_GrantServerModel_login_27 : decode b_GrantServerModel_login 27 = .ok (.aload_n 0, 1) := by decide +kernel
theorem d_GrantServerModel_login_28 : decode b_GrantServerModel_login 28 = .ok (.getfield 19, 3) := by decide +kernel
theorem d_GrantServerModel_login_31 : decode b_GrantServerModel_login 31 = .ok (.ifCond .lt 7, 3) := by decide +kernel
theorem d_GrantServerModel_login_34 : decode b_GrantServerModel_login 34 = .ok (.iconst 1, 1) := by decide +kernel
theorem d_GrantServerModel_login_35 : decode b_GrantServerModel_login 35 = .ok (.goto 4, 3) := by decide +kernel
theorem d_GrantServerModel_login_38 : decode b_GrantServerModel_login 38 = .ok (.iconst 0, 1) := by decide +kernel
theorem d_GrantServerModel_login_39 : decode b_GrantServerModel_login 39 = .ok (.ireturn, 1) := by decide +kernel
theorem d_GrantServerModel_isFree_0 : decode b_GrantServerModel_isFree 0 = .ok (.iload_n 1, 1) := by decide +kernel
theorem d_GrantServerModel_isFree_1 : decode b_GrantServerModel_isFree 1 = .ok (.iconst 1, 1) := by decide +kernel
theorem d_GrantServerModel_isFree_2 : decode b_GrantServerModel_isFree 2 = .ok (.if_icmp .lt 31, 3) := by decide +kernel
theorem d_GrantServerModel_isFree_5 : decode b_GrantServerModel_isFree 5 = .ok (.iload_n 1, 1) := by decide +kernel
theorem d_GrantServerModel_isFree_6 : decode b_GrantServerModel_isFree 6 = .ok (.ldc 99, 2) := by decide +kernel
theorem d_GrantServerModel_isFree_8 : decode b_GrantServerModel_isFree 8 = .ok (.if_icmp .gt 25, 3) := by decide +kernel
theorem d_GrantServerModel_isFree_11 : decode b_GrantServerModel_isFree 11 = .ok (.aload_n 0, 1) := by decide +kernel
theorem d_GrantServerModel_isFree_12 : decode b_GrantServerModel_isFree 12 = .ok (.iconst 0, 1) := by decide +kernel
theorem d_GrantServerModel_isFree_13 : decode b_GrantServerModel_isFree 13 = .ok (.iload_n 1, 1) := by decide +kernel
theorem d_GrantServerModel_isFree_14 : decode b_GrantServerModel_isFree 14 = .ok (.invokevirtual 100, 3) := by decide +kernel
theorem d_GrantServerModel_isFree_17 : decode b_GrantServerModel_isFree 17 = .ok (.ifCond .ge 16, 3) := by decide +kernel
theorem d_GrantServerModel_isFree_20 : decode b_GrantServerModel_isFree 20 = .ok (.aload_n 0, 1) := by decide +kernel
theorem d_GrantServerModel_isFree_21 : decode b_GrantServerModel_isFree 21 = .ok (.iconst 1, 1) := by decide +kernel
theorem d_GrantServerModel_isFree_22 : decode b_GrantServerModel_isFree 22 = .ok (.iload_n 1, 1) := by decide +kernel
theorem d_GrantServerModel_isFree_23 : decode b_GrantServerModel_isFree 23 = .ok (.invokevirtual 100, 3) := by decide +kernel
theorem d_GrantServerModel_isFree_26 : decode b_GrantServerModel_isFree 26 = .ok (.ifCond .ge 7, 3) := by decide +kernel
theorem d_GrantServerModel_isFree_29 : decode b_GrantServerModel_isFree 29 = .ok (.iconst 1, 1) := by decide +kernel
theorem d_GrantServerModel_isFree_30 : decode b_GrantServerModel_isFree 30 = .ok (.goto 4, 3) := by decide +kernel
theorem d_GrantServerModel_isFree_33 : decode b_GrantServerModel_isFree 33 = .ok (.iconst 0, 1) := by decide +kernel
theorem d_GrantServerModel_isFree_34 : decode b_GrantServerModel_isFree 34 = .ok (.ireturn, 1) := by decide +kernel
theorem d_GrantServerModel_key_0 : decode b_GrantServerModel_key 0 = .ok (.iload_n 1, 1) := by decide +kernel
theorem d_GrantServerModel_key_1 : decode b_GrantServerModel_key 1 = .ok (.invokestatic 178, 3) := by decide +kernel
theorem d_GrantServerModel_key_4 : decode b_GrantServerModel_key 4 = .ok (.ifCond .eq 12, 3) := by decide +kernel
theorem d_GrantServerModel_key_7 : decode b_GrantServerModel_key 7 = .ok (.aload_n 0, 1) := by decide +kernel
theorem d_GrantServerModel_key_8 : decode b_GrantServerModel_key 8 = .ok (.getfield 175, 3) := by decide +kernel
theorem d_GrantServerModel_key_11 : decode b_GrantServerModel_key 11 = .ok (.bipush 120, 2) := by decide +kernel
theorem d_GrantServerModel_key_13 : decode b_GrantServerModel_key 13 = .ok (.if_icmp .ne 5, 3) := by decide +kernel
theorem d_GrantServerModel_key_16 : decode b_GrantServerModel_key 16 = .ok (.iconst 0, 1) := by decide +kernel
theorem d_GrantServerModel_key_17 : decode b_GrantServerModel_key 17 = .ok (.ireturn, 1) := by decide +kernel
theorem d_GrantServerModel_key_18 : decode b_GrantServerModel_key 18 = .ok (.aload_n 0, 1) := by decide +kernel
theorem d_GrantServerModel_key_19 : decode b_GrantServerModel_key 19 = .ok (.getfield 57, 3) := by decide +kernel
theorem d_GrantServerModel_key_22 : decode b_GrantServerModel_key 22 = .ok (.aload_n 0, 1) := by decide +kernel
theorem d_GrantServerModel_key_23 : decode b_GrantServerModel_key 23 = .ok (.getfield 175, 3) := by decide +kernel
theorem d_GrantServerModel_key_26 : decode b_GrantServerModel_key 26 = .ok (.iload_n 1, 1) := by decide +kernel
theorem d_GrantServerModel_key_27 : decode b_GrantServerModel_key 27 = .ok (.iastore, 1) := by decide +kernel
theorem d_GrantServerModel_key_28 : decode b_GrantServerModel_key 28 = .ok (.aload_n 0, 1) := by decide +kernel
theorem d_GrantServerModel_key_29 : decode b_GrantServerModel_key 29 = .ok (.dup, 1) := by decide +kernel
theorem d_GrantServerModel_key_30 : decode b_GrantServerModel_key 30 = .ok (.getfield 175, 3) := by decide +kernel
theorem d_GrantServerModel_key_33 : decode b_GrantServerModel_key 33 = .ok (.iconst 1, 1) := by decide +kernel
theorem d_GrantServerModel_key_34 : decode b_GrantServerModel_key 34 = .ok (.iadd, 1) := by decide +kernel
theorem d_GrantServerModel_key_35 : decode b_GrantServerModel_key 35 = .ok (.putfield 175, 3) := by decide +kernel
theorem d_GrantServerModel_key_38 : decode b_GrantServerModel_key 38 = .ok (.iconst 1, 1) := by decide +kernel
theorem d_GrantServerModel_key_39 : decode b_GrantServerModel_key 39 = .ok (.ireturn, 1) := by decide +kernel
theorem d_GrantServerModel_alter_0 : decode b_GrantServerModel_alter 0 = .ok (.iload_n 1, 1) := by decide +kernel
theorem d_GrantServerModel_alter_1 : decode b_GrantServerModel_alter 1 = .ok (.ifCond .lt 18, 3) := by decide +kernel
theorem d_GrantServerModel_alter_4 : decode b_GrantServerModel_alter 4 = .ok (.iload_n 1, 1) := by decide +kernel
theorem d_GrantServerModel_alter_5 : decode b_GrantServerModel_alter 5 = .ok (.aload_n 0, 1) := by decide +kernel
theorem d_GrantServerModel_alter_6 : decode b_GrantServerModel_alter 6 = .ok (.getfield 175, 3) := by decide +kernel
theorem d_GrantServerModel_alter_9 : decode b_GrantServerModel_alter 9 = .ok (.if_icmp .ge 10, 3) := by decide +kernel
theorem d_GrantServerModel_alter_12 : decode b_GrantServerModel_alter 12 = .ok (.iload_n 2, 1) := by decide +kernel
theorem d_GrantServerModel_alter_13 : decode b_GrantServerModel_alter 13 = .ok (.invokestatic 178, 3) := by decide +kernel
theorem d_GrantServerModel_alter_16 : decode b_GrantServerModel_alter 16 = .ok (.ifCond .ne 5, 3) := by decide +kernel
theorem d_GrantServerModel_alter_19 : decode b_GrantServerModel_alter 19 = .ok (.iconst 0, 1) := by decide +kernel
theorem d_GrantServerModel_alter_20 : decode b_GrantServerModel_alter 20 = .ok (.ireturn, 1) := by decide +kernel
theorem d_GrantServerModel_alter_21 : decode b_GrantServerModel_alter 21 = .ok (.aload_n 0, 1) := by decide +kernel
theorem d_GrantServerModel_alter_22 : decode b_GrantServerModel_alter 22 = .ok (.getfield 57, 3) := by decide +kernel
theorem d_GrantServerModel_alter_25 : decode b_GrantServerModel_alter 25 = .ok (.iload_n 1, 1) := by decide +kernel
theorem d_GrantServerModel_alter_26 : decode b_GrantServerModel_alter 26 = .ok (.iload_n 2, 1) := by decide +kernel
theorem d_GrantServerModel_alter_27 : decode b_GrantServerModel_alter 27 = .ok (.iastore, 1) := by decide +kernel
theorem d_GrantServerModel_alter_28 : decode b_GrantServerModel_alter 28 = .ok (.iconst 1, 1) := by decide +kernel
theorem d_GrantServerModel_alter_29 : decode b_GrantServerModel_alter 29 = .ok (.ireturn, 1) := by decide +kernel
theorem d_GrantServerModel_take_0 : decode b_GrantServerModel_take 0 = .ok (.aload_n 0, 1) := by decide +kernel
theorem d_GrantServerModel_take_1 : decode b_GrantServerModel_take 1 = .ok (.iload_n 1, 1) := by decide +kernel
theorem d_GrantServerModel_take_2 : decode b_GrantServerModel_take 2 = .ok (.ifCond .eq 10, 3) := by decide +kernel
theorem d_GrantServerModel_take_5 : decode b_GrantServerModel_take 5 = .ok (.aload_n 0, 1) := by decide +kernel
theorem d_GrantServerModel_take_6 : decode b_GrantServerModel_take 6 = .ok (.getfield 160, 3) := by decide +kernel
theorem d_GrantServerModel_take_9 : decode b_GrantServerModel_take 9 = .ok (.goto 4, 3) := by decide +kernel
theorem d_GrantServerModel_take_12 : decode b_GrantServerModel_take 12 = .ok (.iconst 0, 1) := by decide +kernel
theorem d_GrantServerModel_take_13 : decode b_GrantServerModel_take 13 = .ok (.putfield 175, 3) := by decide +kernel
theorem d_GrantServerModel_take_16 : decode b_GrantServerModel_take 16 = .ok (.iconst 0, 1) := by decide +kernel
theorem d_GrantServerModel_take_17 : decode b_GrantServerModel_take 17 = .ok (.istore_n 2, 1) := by decide +kernel
theorem d_GrantServerModel_take_18 : decode b_GrantServerModel_take 18 = .ok (.iload_n 2, 1) := by decide +kernel
theorem d_GrantServerModel_take_19 : decode b_GrantServerModel_take 19 = .ok (.aload_n 0, 1) := by decide +kernel
theorem d_GrantServerModel_take_20 : decode b_GrantServerModel_take 20 = .ok (.getfield 175, 3) := by decide +kernel
theorem d_GrantServerModel_take_23 : decode b_GrantServerModel_take 23 = .ok (.if_icmp .ge 21, 3) := by decide +kernel
theorem d_GrantServerModel_take_26 : decode b_GrantServerModel_take 26 = .ok (.aload_n 0, 1) := by decide +kernel
theorem d_GrantServerModel_take_27 : decode b_GrantServerModel_take 27 = .ok (.getfield 57, 3) := by decide +kernel
theorem d_GrantServerModel_take_30 : decode b_GrantServerModel_take 30 = .ok (.iload_n 2, 1) := by decide +kernel
theorem d_GrantServerModel_take_31 : decode b_GrantServerModel_take 31 = .ok (.aload_n 0, 1) := by decide +kernel
theorem d_GrantServerModel_take_32 : decode b_GrantServerModel_take 32 = .ok (.getfield 60, 3) := by decide +kernel
theorem d_GrantServerModel_take_35 : decode b_GrantServerModel_take 35 = .ok (.iload_n 2, 1) := by decide +kernel
theorem d_GrantServerModel_take_36 : decode b_GrantServerModel_take 36 = .ok (.iaload, 1) := by decide +kernel
theorem d_GrantServerModel_take_37 : decode b_GrantServerModel_take 37 = .ok (.iastore, 1) := by decide +kernel
theorem d_GrantServerModel_take_38 : decode b_GrantServerModel_take 38 = .ok (.iinc 2 1, 3) := by decide +kernel
theorem d_GrantServerModel_take_41 : decode b_GrantServerModel_take 41 = .ok (.goto (-23), 3) := by decide +kernel
theorem d_GrantServerModel_take_44 : decode b_GrantServerModel_take 44 = .ok (.aload_n 0, 1) := by decide +kernel
theorem d_GrantServerModel_take_45 : decode b_GrantServerModel_take 45 = .ok (.getfield 175, 3) := by decide +kernel
theorem d_GrantServerModel_take_48 : decode b_GrantServerModel_take 48 = .ok (.ireturn, 1) := by decide +kernel
theorem d_GrantServerModel_letter_0 : decode b_GrantServerModel_letter 0 = .ok (.iload_n 2, 1) := by decide +kernel
theorem d_GrantServerModel_letter_1 : decode b_GrantServerModel_letter 1 = .ok (.ifCond .lt 22, 3) := by decide +kernel
theorem d_GrantServerModel_letter_4 : decode b_GrantServerModel_letter 4 = .ok (.iload_n 2, 1) := by decide +kernel
theorem d_GrantServerModel_letter_5 : decode b_GrantServerModel_letter 5 = .ok (.iload_n 1, 1) := by decide +kernel
theorem d_GrantServerModel_letter_6 : decode b_GrantServerModel_letter 6 = .ok (.ifCond .eq 10, 3) := by decide +kernel
theorem d_GrantServerModel_letter_9 : decode b_GrantServerModel_letter 9 = .ok (.aload_n 0, 1) := by decide +kernel
theorem d_GrantServerModel_letter_10 : decode b_GrantServerModel_letter 10 = .ok (.getfield 160, 3) := by decide +kernel
theorem d_GrantServerModel_letter_13 : decode b_GrantServerModel_letter 13 = .ok (.goto 7, 3) := by decide +kernel
theorem d_GrantServerModel_letter_16 : decode b_GrantServerModel_letter 16 = .ok (.aload_n 0, 1) := by decide +kernel
theorem d_GrantServerModel_letter_17 : decode b_GrantServerModel_letter 17 = .ok (.getfield 175, 3) := by decide +kernel
theorem d_GrantServerModel_letter_20 : decode b_GrantServerModel_letter 20 = .ok (.if_icmp .lt 5, 3) := by decide +kernel
theorem d_GrantServerModel_letter_23 : decode b_GrantServerModel_letter 23 = .ok (.iconst (-1), 1) := by decide +kernel
theorem d_GrantServerModel_letter_24 : decode b_GrantServerModel_letter 24 = .ok (.ireturn, 1) := by decide +kernel
theorem d_GrantServerModel_letter_25 : decode b_GrantServerModel_letter 25 = .ok (.iload_n 1, 1) := by decide +kernel
theorem d_GrantServerModel_letter_26 : decode b_GrantServerModel_letter 26 = .ok (.ifCond .eq 12, 3) := by decide +kernel
theorem d_GrantServerModel_letter_29 : decode b_GrantServerModel_letter 29 = .ok (.aload_n 0, 1) := by decide +kernel
theorem d_GrantServerModel_letter_30 : decode b_GrantServerModel_letter 30 = .ok (.getfield 60, 3) := by decide +kernel
theorem d_GrantServerModel_letter_33 : decode b_GrantServerModel_letter 33 = .ok (.iload_n 2, 1) := by decide +kernel
theorem d_GrantServerModel_letter_34 : decode b_GrantServerModel_letter 34 = .ok (.iaload, 1) := by decide +kernel
theorem d_GrantServerModel_letter_35 : decode b_GrantServerModel_letter 35 = .ok (.goto 9, 3) := by decide +kernel
theorem d_GrantServerModel_letter_38 : decode b_GrantServerModel_letter 38 = .ok (.aload_n 0, 1) := by decide +kernel
theorem d_GrantServerModel_letter_39 : decode b_GrantServerModel_letter 39 = .ok (.getfield 57, 3) := by decide +kernel
theorem d_GrantServerModel_letter_42 : decode b_GrantServerModel_letter 42 = .ok (.iload_n 2, 1) := by decide +kernel
theorem d_GrantServerModel_letter_43 : decode b_GrantServerModel_letter 43 = .ok (.iaload, 1) := by decide +kernel
theorem d_GrantServerModel_letter_44 : decode b_GrantServerModel_letter 44 = .ok (.ireturn, 1) := by decide +kernel
theorem d_GrantServerModel_challenge_0 : decode b_GrantServerModel_challenge 0 = .ok (.aload_n 0, 1) := by decide +kernel
theorem d_GrantServerModel_challenge_1 : decode b_GrantServerModel_challenge 1 = .ok (.getfield 175, 3) := by decide +kernel
theorem d_GrantServerModel_challenge_4 : decode b_GrantServerModel_challenge 4 = .ok (.i2l, 1) := by decide +kernel
theorem d_GrantServerModel_challenge_5 : decode b_GrantServerModel_challenge 5 = .ok (.lstore_n 1, 1) := by decide +kernel
theorem d_GrantServerModel_challenge_6 : decode b_GrantServerModel_challenge 6 = .ok (.iconst 0, 1) := by decide +kernel
theorem d_GrantServerModel_challenge_7 : decode b_GrantServerModel_challenge 7 = .ok (.istore_n 3, 1) := by decide +kernel
theorem d_GrantServerModel_challenge_8 : decode b_GrantServerModel_challenge 8 = .ok (.iload_n 3, 1) := by decide +kernel
theorem d_GrantServerModel_challenge_9 : decode b_GrantServerModel_challenge 9 = .ok (.aload_n 0, 1) := by decide +kernel
theorem d_GrantServerModel_challenge_10 : decode b_GrantServerModel_challenge 10 = .ok (.getfield 175, 3) := by decide +kernel
theorem d_GrantServerModel_challenge_13 : decode b_GrantServerModel_challenge 13 = .ok (.if_icmp .ge 27, 3) := by decide +kernel
theorem d_GrantServerModel_challenge_16 : decode b_GrantServerModel_challenge 16 = .ok (.lload_n 1, 1) := by decide +kernel
theorem d_GrantServerModel_challenge_17 : decode b_GrantServerModel_challenge 17 = .ok (.ldc2_w 181, 3) := by decide +kernel
theorem d_GrantServerModel_challenge_20 : decode b_GrantServerModel_challenge 20 = .ok (.lmul, 1) := by decide +kernel
theorem d_GrantServerModel_challenge_21 : decode b_GrantServerModel_challenge 21 = .ok (.aload_n 0, 1) := by decide +kernel
theorem d_GrantServerModel_challenge_22 : decode b_GrantServerModel_challenge 22 = .ok (.getfield 57, 3) := by decide +kernel
theorem d_GrantServerModel_challenge_25 : decode b_GrantServerModel_challenge 25 = .ok (.iload_n 3, 1) := by decide +kernel
theorem d_GrantServerModel_challenge_26 : decode b_GrantServerModel_challenge 26 = .ok (.iaload, 1) := by decide +kernel
theorem d_GrantServerModel_challenge_27 : decode b_GrantServerModel_challenge 27 = .ok (.i2l, 1) := by decide +kernel
theorem d_GrantServerModel_challenge_28 : decode b_GrantServerModel_challenge 28 = .ok (.ladd, 1) := by decide +kernel
theorem d_GrantServerModel_challenge_29 : decode b_GrantServerModel_challenge 29 = .ok (.ldc2_w 183, 3) := by decide +kernel
theorem d_GrantServerModel_challenge_32 : decode b_GrantServerModel_challenge 32 = .ok (.land, 1) := by decide +kernel
theorem d_GrantServerModel_challenge_33 : decode b_GrantServerModel_challenge 33 = .ok (.lstore_n 1, 1) := by decide +kernel
theorem d_GrantServerModel_challenge_34 : decode b_GrantServerModel_challenge 34 = .ok (.iinc 3 1, 3) := by decide +kernel
theorem d_GrantServerModel_challenge_37 : decode b_GrantServerModel_challenge 37 = .ok (.goto (-29), 3) := by decide +kernel
theorem d_GrantServerModel_challenge_40 : decode b_GrantServerModel_challenge 40 = .ok (.lload_n 1, 1) := by decide +kernel
theorem d_GrantServerModel_challenge_41 : decode b_GrantServerModel_challenge 41 = .ok (.l2i, 1) := by decide +kernel
theorem d_GrantServerModel_challenge_42 : decode b_GrantServerModel_challenge 42 = .ok (.ireturn, 1) := by decide +kernel
set_option maxRecDepth 20000 in
theorem fl_GrantServerModel_13 : hm_fl vwCl TB R_GrantServerModel 13 8 6 true (.array .int) := ⟨_, _, _, _, cl_GrantServerModel, by decide, (TBm 698 (by decide +kernel) rfl), rfl, rfl⟩
set_option maxRecDepth 20000 in
theorem fl_GrantServerModel_16 : hm_fl vwCl TB R_GrantServerModel 16 8 7 true (.array .int) := ⟨_, _, _, _, cl_GrantServerModel, by decide, (TBm 699 (by decide +kernel) rfl), rfl, rfl⟩
set_option maxRecDepth 20000 in
theorem fl_GrantServerModel_160 : hm_fl vwCl TB R_GrantServerModel 160 8 26 false .int := ⟨_, _, _, _, cl_GrantServerModel, by decide, (TBm 718 (by decide +kernel) rfl), rfl, rfl⟩
set_option maxRecDepth 20000 in
theorem fl_GrantServerModel_175 : hm_fl vwCl TB R_GrantServerModel 175 8 24 false .int := ⟨_, _, _, _, cl_GrantServerModel, by decide, (TBm 716 (by decide +kernel) rfl), rfl, rfl⟩
set_option maxRecDepth 20000 in
theorem fl_GrantServerModel_57 : hm_fl vwCl TB R_GrantServerModel 57 8 23 true (.array .int) := ⟨_, _, _, _, cl_GrantServerModel, by decide, (TBm 715 (by decide +kernel) rfl), rfl, rfl⟩
set_option maxRecDepth 20000 in
theorem fl_GrantServerModel_60 : hm_fl vwCl TB R_GrantServerModel 60 8 25 true (.array .int) := ⟨_, _, _, _, cl_GrantServerModel, by decide, (TBm 717 (by decide +kernel) rfl), rfl, rfl⟩
set_option maxRecDepth 20000 in
theorem fl_GrantServerModel_7 : hm_fl vwCl TB R_GrantServerModel 7 8 5 true (.array .int) := ⟨_, _, _, _, cl_GrantServerModel, by decide, (TBm 697 (by decide +kernel) rfl), rfl, rfl⟩
set_option maxRecDepth 20000 in
theorem me_GrantServerModel_find : hm_meV y_GrantServerModel_find b_GrantServerModel_find 4 (some .int) 2 := ⟨⟨(TBm 811 rfl rfl), (TBm 47 (by decide +kernel) rfl), by decide +kernel⟩, (TBm 810 (by decide +kernel) rfl), (TBm 19 (by decide +kernel) rfl)⟩
set_option maxRecDepth 20000 in
theorem me_GrantServerModel_isClient : hm_meV y_GrantServerModel_isClient b_GrantServerModel_isClient 2 (some .boolean) 1 := ⟨⟨(TBm 797 rfl rfl), (TBm 47 (by decide +kernel) rfl), by decide +kernel⟩, (TBm 796 (by decide +kernel) rfl), (TBm 17 (by decide +kernel) rfl)⟩
set_option maxRecDepth 20000 in
theorem me_GrantServerModel_isText : hm_meS y_GrantServerModel_isText b_GrantServerModel_isText 1 (some .boolean) 1 := ⟨⟨(TBm 913 rfl rfl), (TBm 47 (by decide +kernel) rfl), by decide +kernel⟩, (TBm 912 (by decide +kernel) rfl)⟩
set_option maxRecDepth 20000 in
theorem wc_GrantServerModel_181 : Cond.constantLong R_GrantServerModel 181 1000003 ∈ TB := TBm 834 (by decide +kernel) rfl
set_option maxRecDepth 20000 in
theorem wc_GrantServerModel_183 : Cond.constantLong R_GrantServerModel 183 1073741823 ∈ TB := TBm 835 (by decide +kernel) rfl
set_option maxRecDepth 20000 in
theorem wc_GrantServerModel_99 : Cond.constant R_GrantServerModel 99 65535 ∈ TB := TBm 807 (by decide +kernel) rfl
set_option maxRecDepth 20000 in
theorem wl_GrantServerModel_100 : Cond.methodLink R_GrantServerModel 100 y_GrantServerModel_find ∈ TB := TBm 808 (by decide +kernel) rfl
set_option maxRecDepth 20000 in
theorem wl_GrantServerModel_178 : Cond.methodLink R_GrantServerModel 178 y_GrantServerModel_isText ∈ TB := TBm 911 (by decide +kernel) rfl
set_option maxRecDepth 20000 in
theorem wl_GrantServerModel_89 : Cond.methodLink R_GrantServerModel 89 y_GrantServerModel_isClient ∈ TB := TBm 794 (by decide +kernel) rfl
set_option maxHeartbeats 4000000 in
set_option maxRecDepth 100000 in
theorem m_c_client_no (l : Launch) (D : va_G) (k : Nat → ClassId) (f : hm) (h : Nat) (ad : Nat → Nat) (sk : Int64) (v : Nat → Int32) (c : Nat → Nat → Int32) (a : Int32) (b : Int32) (d : Int32) (n : Nat) (hmo : mo k f h ad sk v c) (hn : v 8 = nI n) (hn4 : n ≤ 4) (hx9 : n = 4 ∨ z_some d = 0) : hm_Mi l D vwCl (tyL k) y_GrantServerModel_client (Cond.code y_GrantServerModel_client b_GrantServerModel_client 4 (some .int) :: TB) ({ frames := 0, cells := 0, slots := 0, locals := 0 }) [.ref h, .int a, .int b, .int d] f (fun (r : Int32) (f1 : hm) => (-1) = r ∧ f = f1) 0 0 := by
  refine hm_enter (Qc := fun sz => va_Qi _ (hm_R D vwCl (tyL k) f sz) (hm_A f sz)) (by decide) rfl (Nat.le_of_ble_eq_true rfl) ?_
  intro p e s m below meth cd ls X0 hr hlk hin hK hM hS hA hl Q hQ
  have X : CallFix p m cd b_GrantServerModel_client 4 s ([.ref h, .int a, .int b, .int d] : List Value).toArray TB R_GrantServerModel := ⟨X0.1, X0.2.1, X0.2.2.1, X0.2.2.2.1, fun w h => X0.2.2.2.2 w (List.mem_cons_of_mem _ h)⟩
  have hx := X.1; have hb := X.2.1; have hml := X.2.2.1; have hown := X.2.2.2.1; have hts := X.2.2.2.2
  have hl : lv_has ls 4 [(0, .ref h), (1, .int a), (2, .int b), (3, .int d)] := hl
  have hfr : mo_fr h ad f f := mo_fr.rf
  refine lv_aload_n hx hb d_GrantServerModel_client_0 rfl (lv_at hl 0 rfl) ?_
  refine hm_get X hK hM hmo.1 fl_GrantServerModel_86 (v := .int (v 8)) rfl d_GrantServerModel_client_1 ?_
  refine lv_iconst (v := 4) hx hb d_GrantServerModel_client_4 (by decide) ?_
  refine lv_icmp_eq (tgt := 19) hx hb d_GrantServerModel_client_5 (by decide) (fun h1 => ?_) (fun h1 => ?_)
  · refine lv_iconst (v := (-1)) hx hb d_GrantServerModel_client_19 (by decide) ?_
    exact hm_iret X hQ hr hlk hK hM hS d_GrantServerModel_client_20 ⟨rfl, rfl⟩
  · refine lv_iload_n hx hb d_GrantServerModel_client_8 rfl (lv_at hl 3 rfl) ?_
    refine lv_iconst (v := 1) hx hb d_GrantServerModel_client_9 (by decide) ?_
    refine lv_icmp_lt (tgt := 19) hx hb d_GrantServerModel_client_10 (by decide) (fun h2 => ?_) (fun h2 => ?_)
    · refine lv_iconst (v := (-1)) hx hb d_GrantServerModel_client_19 (by decide) ?_
      exact hm_iret X hQ hr hlk hK hM hS d_GrantServerModel_client_20 ⟨rfl, rfl⟩
    · refine lv_iload_n hx hb d_GrantServerModel_client_13 rfl (lv_at hl 3 rfl) ?_
      refine lv_bipush (v := 15) hx hb d_GrantServerModel_client_14 (by decide) ?_
      refine lv_icmp_le (tgt := 21) hx hb d_GrantServerModel_client_16 (by decide) (fun h3 => ?_) (fun h3 => ?_)
      · exact hx9.elim (fun z => absurd (by rw [hn, z]; rfl) h1) (fun z => absurd z (by simp [z_some, h2, Int32.not_lt.mpr h3]))
      · refine lv_iconst (v := (-1)) hx hb d_GrantServerModel_client_19 (by decide) ?_
        exact hm_iret X hQ hr hlk hK hM hS d_GrantServerModel_client_20 ⟨rfl, rfl⟩
set_option maxHeartbeats 4000000 in
set_option maxRecDepth 100000 in
theorem m_c_client (l : Launch) (D : va_G) (k : Nat → ClassId) (f : hm) (h : Nat) (ad : Nat → Nat) (sk : Int64) (v : Nat → Int32) (c : Nat → Nat → Int32) (a : Int32) (b : Int32) (d : Int32) (n : Nat) (hmo : mo k f h ad sk v c) (hn : v 8 = nI n) (hn4 : n < 4) (hz : ¬ z_some d = 0) : hm_Mi l D vwCl (tyL k) y_GrantServerModel_client (Cond.code y_GrantServerModel_client b_GrantServerModel_client 4 (some .int) :: TB) ({ frames := 0, cells := 0, slots := 0, locals := 0 }) [.ref h, .int a, .int b, .int d] f (fun (r : Int32) (f1 : hm) => nI n = r ∧ mo k f1 h ad sk (upd v 8 (nI (n + 1))) (va_up (va_up (va_up c 5 (upd (c 5) n a)) 6 (upd (c 6) n b)) 7 (upd (c 7) n d)) ∧ mo_fr h ad f f1) 0 0 := by
  refine hm_enter (Qc := fun sz => va_Qi _ (hm_R D vwCl (tyL k) f sz) (hm_A f sz)) (by decide) rfl (Nat.le_of_ble_eq_true rfl) ?_
  intro p e s m below meth cd ls X0 hr hlk hin hK hM hS hA hl Q hQ
  have X : CallFix p m cd b_GrantServerModel_client 4 s ([.ref h, .int a, .int b, .int d] : List Value).toArray TB R_GrantServerModel := ⟨X0.1, X0.2.1, X0.2.2.1, X0.2.2.2.1, fun w h => X0.2.2.2.2 w (List.mem_cons_of_mem _ h)⟩
  have hx := X.1; have hb := X.2.1; have hml := X.2.2.1; have hown := X.2.2.2.1; have hts := X.2.2.2.2
  have hl : lv_has ls 4 [(0, .ref h), (1, .int a), (2, .int b), (3, .int d)] := hl
  have hfr : mo_fr h ad f f := mo_fr.rf
  refine lv_aload_n hx hb d_GrantServerModel_client_0 rfl (lv_at hl 0 rfl) ?_
  refine hm_get X hK hM hmo.1 fl_GrantServerModel_86 (v := .int (v 8)) rfl d_GrantServerModel_client_1 ?_
  refine lv_iconst (v := 4) hx hb d_GrantServerModel_client_4 (by decide) ?_
  refine lv_icmp_eq (tgt := 19) hx hb d_GrantServerModel_client_5 (by decide) (fun h1 => ?_) (fun h1 => ?_)
  · exact absurd (hn.symm.trans h1) (fun z => absurd ((nI_eq (b := 4) (by omega) (by decide)).mp z) (by omega))
  · refine lv_iload_n hx hb d_GrantServerModel_client_8 rfl (lv_at hl 3 rfl) ?_
    refine lv_iconst (v := 1) hx hb d_GrantServerModel_client_9 (by decide) ?_
    refine lv_icmp_lt (tgt := 19) hx hb d_GrantServerModel_client_10 (by decide) (fun h2 => ?_) (fun h2 => ?_)
    · exact absurd (by simp [z_some, h2]) hz
    · refine lv_iload_n hx hb d_GrantServerModel_client_13 rfl (lv_at hl 3 rfl) ?_
      refine lv_bipush (v := 15) hx hb d_GrantServerModel_client_14 (by decide) ?_
      refine lv_icmp_le (tgt := 21) hx hb d_GrantServerModel_client_16 (by decide) (fun h3 => ?_) (fun h3 => ?_)
      · refine lv_aload_n hx hb d_GrantServerModel_client_21 rfl (lv_at hl 0 rfl) ?_
        refine hm_get X hK hM hmo.1 fl_GrantServerModel_7 (v := .ref (ad 5)) rfl d_GrantServerModel_client_22 ?_
        refine lv_aload_n hx hb d_GrantServerModel_client_25 rfl (lv_at hl 0 rfl) ?_
        refine hm_get X hK hM hmo.1 fl_GrantServerModel_86 (v := .int (v 8)) rfl d_GrantServerModel_client_26 ?_
        refine lv_iload_n hx hb d_GrantServerModel_client_29 rfl (lv_at hl 1 rfl) ?_
        have g4 : f (ad 5) = some (.inl (k 0, 4, .inl (c 5))) := hmo.arr 5 (by decide) (by decide)
        refine hm_iast X hK hM hS g4 0 rfl n hn (by omega) (by decide) d_GrantServerModel_client_30 (fun f5 H locs e6 hM hS => ?_)
        have hfr := hfr.ast 5 (by decide) (by decide) e6; have hmo : mo k f5 h ad sk v (va_up c 5 (upd (c 5) n a)) := hmo.ast 5 (by decide) (by decide) e6
        refine lv_aload_n hx hb d_GrantServerModel_client_31 rfl (lv_at hl 0 rfl) ?_
        refine hm_get X hK hM hmo.1 fl_GrantServerModel_13 (v := .ref (ad 6)) rfl d_GrantServerModel_client_32 ?_
        refine lv_aload_n hx hb d_GrantServerModel_client_35 rfl (lv_at hl 0 rfl) ?_
        refine hm_get X hK hM hmo.1 fl_GrantServerModel_86 (v := .int (v 8)) rfl d_GrantServerModel_client_36 ?_
        refine lv_iload_n hx hb d_GrantServerModel_client_39 rfl (lv_at hl 2 rfl) ?_
        have g7 : f5 (ad 6) = some (.inl (k 0, 4, .inl (c 6))) := hmo.arr 6 (by decide) (by decide)
        refine hm_iast X hK hM hS g7 0 rfl n hn (by omega) (by decide) d_GrantServerModel_client_40 (fun f8 H locs e9 hM hS => ?_)
        have hfr := hfr.ast 6 (by decide) (by decide) e9; have hmo : mo k f8 h ad sk v (va_up (va_up c 5 (upd (c 5) n a)) 6 (upd (c 6) n b)) := hmo.ast 6 (by decide) (by decide) e9
        refine lv_aload_n hx hb d_GrantServerModel_client_41 rfl (lv_at hl 0 rfl) ?_
        refine hm_get X hK hM hmo.1 fl_GrantServerModel_16 (v := .ref (ad 7)) rfl d_GrantServerModel_client_42 ?_
        refine lv_aload_n hx hb d_GrantServerModel_client_45 rfl (lv_at hl 0 rfl) ?_
        refine hm_get X hK hM hmo.1 fl_GrantServerModel_86 (v := .int (v 8)) rfl d_GrantServerModel_client_46 ?_
        refine lv_iload_n hx hb d_GrantServerModel_client_49 rfl (lv_at hl 3 rfl) ?_
        have g10 : f8 (ad 7) = some (.inl (k 0, 4, .inl (c 7))) := hmo.arr 7 (by decide) (by decide)
        refine hm_iast X hK hM hS g10 0 rfl n hn (by omega) (by decide) d_GrantServerModel_client_50 (fun f11 H locs e12 hM hS => ?_)
        have hfr := hfr.ast 7 (by decide) (by decide) e12; have hmo : mo k f11 h ad sk v (va_up (va_up (va_up c 5 (upd (c 5) n a)) 6 (upd (c 6) n b)) 7 (upd (c 7) n d)) := hmo.ast 7 (by decide) (by decide) e12
        refine lv_aload_n hx hb d_GrantServerModel_client_51 rfl (lv_at hl 0 rfl) ?_
        refine lv_dup hx hb d_GrantServerModel_client_52 rfl ?_
        refine hm_get X hK hM hmo.1 fl_GrantServerModel_86 (v := .int (v 8)) rfl d_GrantServerModel_client_53 ?_
        refine lv_iconst (v := 1) hx hb d_GrantServerModel_client_56 (by decide) ?_
        refine lv_iadd hx hb d_GrantServerModel_client_57 ?_
        refine hm_top (z := nI (n + 1)) (by rw [hn]; exact nI_1 n) ?_
        refine hm_put X hK hM hS (fs' := moV sk (upd v 8 (nI (n + 1))) ad) hmo.1 fl_GrantServerModel_86 rfl rfl (Nat.le_of_ble_eq_true rfl) rfl d_GrantServerModel_client_58 (fun f13 H locs e14 hM hS => ?_)
        have hfr := hfr.put e14; have hmo : mo k f13 h ad sk (upd v 8 (nI (n + 1))) (va_up (va_up (va_up c 5 (upd (c 5) n a)) 6 (upd (c 6) n b)) 7 (upd (c 7) n d)) := hmo.put e14
        refine lv_aload_n hx hb d_GrantServerModel_client_61 rfl (lv_at hl 0 rfl) ?_
        refine hm_get X hK hM hmo.1 fl_GrantServerModel_86 (v := .int (nI (n + 1))) rfl d_GrantServerModel_client_62 ?_
        refine lv_iconst (v := 1) hx hb d_GrantServerModel_client_65 (by decide) ?_
        refine lv_isub hx hb d_GrantServerModel_client_66 ?_
        refine hm_top (z := nI n) (nI_pred n) ?_
        exact hm_iret X hQ hr hlk hK hM hS d_GrantServerModel_client_67 ⟨rfl, hmo, hfr⟩
      · exact absurd (by simp [z_some, Int32.not_le.mp h3]) hz
set_option maxHeartbeats 4000000 in
set_option maxRecDepth 100000 in
theorem m_c_login_no (l : Launch) (D : va_G) (k : Nat → ClassId) (f : hm) (h : Nat) (ad : Nat → Nat) (sk : Int64) (v : Nat → Int32) (c : Nat → Nat → Int32) (x : Int32) (y : Int32) (hmo : mo k f h ad sk v c) (hz : m_isC (v 8) x = 0) : hm_Mi l D vwCl (tyL k) y_GrantServerModel_login (Cond.code y_GrantServerModel_login b_GrantServerModel_login 3 (some .boolean) :: TB) ({ frames := 1, cells := 0, slots := 0, locals := 21 }) [.ref h, .int x, .int y] f (fun (r : Int32) (f1 : hm) => 0 = r ∧ mo k f1 h ad sk (upd v 9 (-1)) c ∧ mo_fr h ad f f1) 0 0 := by
  refine hm_enter (Qc := fun sz => va_Qi _ (hm_R D vwCl (tyL k) f sz) (hm_A f sz)) (by decide) rfl (Nat.le_of_ble_eq_true rfl) ?_
  intro p e s m below meth cd ls X0 hr hlk hin hK hM hS hA hl Q hQ
  have X : CallFix p m cd b_GrantServerModel_login 3 s ([.ref h, .int x, .int y] : List Value).toArray TB R_GrantServerModel := ⟨X0.1, X0.2.1, X0.2.2.1, X0.2.2.2.1, fun w h => X0.2.2.2.2 w (List.mem_cons_of_mem _ h)⟩
  have hx := X.1; have hb := X.2.1; have hml := X.2.2.1; have hown := X.2.2.2.1; have hts := X.2.2.2.2
  have hl : lv_has ls 3 [(0, .ref h), (1, .int x), (2, .int y)] := hl
  have hfr : mo_fr h ad f f := mo_fr.rf
  refine lv_aload_n hx hb d_GrantServerModel_login_0 rfl (lv_at hl 0 rfl) ?_
  refine lv_aload_n hx hb d_GrantServerModel_login_1 rfl (lv_at hl 0 rfl) ?_
  refine lv_iload_n hx hb d_GrantServerModel_login_2 rfl (lv_at hl 1 rfl) ?_
  refine hm_calli hS hM hA (va_runV (As := [.int x]) (rest := [.ref h]) X (m_c_isClient l D k f h ad sk v c x hmo  s.heap.size) (hm_cwV hts me_GrantServerModel_isClient wl_GrantServerModel_89 rfl rfl ⟨Nat.le_of_ble_eq_true rfl, Nat.le_of_ble_eq_true rfl⟩) (hm_preV hM hK hmo.1 rfl) rfl rfl hl.1 rfl (lv_room (Nat.le_of_ble_eq_true rfl)) d_GrantServerModel_login_3 ⟨Nat.le_of_ble_eq_true rfl, Nat.le_of_ble_eq_true rfl⟩) (fun r3 f1 H locs p2 hM hS => ?_)
  obtain ⟨rfl, rfl⟩ := p2
  refine lv_if_eq (tgt := 23) hx hb d_GrantServerModel_login_6 (by decide) (fun h4 => ?_) (fun h4 => ?_)
  · refine lv_iconst (v := (-1)) hx hb d_GrantServerModel_login_23 (by decide) ?_
    refine hm_put X hK hM hS (fs' := moV sk (upd v 9 (-1)) ad) hmo.1 fl_GrantServerModel_19 rfl rfl (Nat.le_of_ble_eq_true rfl) rfl d_GrantServerModel_login_24 (fun f5 H locs e6 hM hS => ?_)
    have hfr := hfr.put e6; have hmo : mo k f5 h ad sk (upd v 9 (-1)) c := hmo.put e6
    refine lv_aload_n hx hb d_GrantServerModel_login_27 rfl (lv_at hl 0 rfl) ?_
    refine hm_get X hK hM hmo.1 fl_GrantServerModel_19 (v := .int (-1)) rfl d_GrantServerModel_login_28 ?_
    refine lv_if_lt (tgt := 38) hx hb d_GrantServerModel_login_31 (by decide) (fun h7 => ?_) (fun h7 => ?_)
    · refine lv_iconst (v := 0) hx hb d_GrantServerModel_login_38 (by decide) ?_
      exact hm_zret X hQ hr hlk hK hM hS rfl d_GrantServerModel_login_39 ⟨rfl, hmo, hfr⟩
    · exact absurd h7 (by decide)
  · exact absurd hz h4
set_option maxHeartbeats 4000000 in
set_option maxRecDepth 100000 in
theorem m_c_login (l : Launch) (D : va_G) (k : Nat → ClassId) (f : hm) (h : Nat) (ad : Nat → Nat) (sk : Int64) (v : Nat → Int32) (c : Nat → Nat → Int32) (j : Nat) (y : Int32) (hmo : mo k f h ad sk v c) (hz : ¬ m_isC (v 8) (nI j) = 0) (hj : j < 4) (hs : c 5 j = y) : hm_Mi l D vwCl (tyL k) y_GrantServerModel_login (Cond.code y_GrantServerModel_login b_GrantServerModel_login 3 (some .boolean) :: TB) ({ frames := 1, cells := 0, slots := 0, locals := 21 }) [.ref h, .int (nI j), .int y] f (fun (r : Int32) (f1 : hm) => 1 = r ∧ mo k f1 h ad sk (upd v 9 (nI j)) c ∧ mo_fr h ad f f1) 0 0 := by
  refine hm_enter (Qc := fun sz => va_Qi _ (hm_R D vwCl (tyL k) f sz) (hm_A f sz)) (by decide) rfl (Nat.le_of_ble_eq_true rfl) ?_
  intro p e s m below meth cd ls X0 hr hlk hin hK hM hS hA hl Q hQ
  have X : CallFix p m cd b_GrantServerModel_login 3 s ([.ref h, .int (nI j), .int y] : List Value).toArray TB R_GrantServerModel := ⟨X0.1, X0.2.1, X0.2.2.1, X0.2.2.2.1, fun w h => X0.2.2.2.2 w (List.mem_cons_of_mem _ h)⟩
  have hx := X.1; have hb := X.2.1; have hml := X.2.2.1; have hown := X.2.2.2.1; have hts := X.2.2.2.2
  have hl : lv_has ls 3 [(0, .ref h), (1, .int (nI j)), (2, .int y)] := hl
  have hfr : mo_fr h ad f f := mo_fr.rf
  refine lv_aload_n hx hb d_GrantServerModel_login_0 rfl (lv_at hl 0 rfl) ?_
  refine lv_aload_n hx hb d_GrantServerModel_login_1 rfl (lv_at hl 0 rfl) ?_
  refine lv_iload_n hx hb d_GrantServerModel_login_2 rfl (lv_at hl 1 rfl) ?_
  refine hm_calli hS hM hA (va_runV (As := [.int (nI j)]) (rest := [.ref h]) X (m_c_isClient l D k f h ad sk v c (nI j) hmo  s.heap.size) (hm_cwV hts me_GrantServerModel_isClient wl_GrantServerModel_89 rfl rfl ⟨Nat.le_of_ble_eq_true rfl, Nat.le_of_ble_eq_true rfl⟩) (hm_preV hM hK hmo.1 rfl) rfl rfl hl.1 rfl (lv_room (Nat.le_of_ble_eq_true rfl)) d_GrantServerModel_login_3 ⟨Nat.le_of_ble_eq_true rfl, Nat.le_of_ble_eq_true rfl⟩) (fun r3 f1 H locs p2 hM hS => ?_)
  obtain ⟨rfl, rfl⟩ := p2
  refine lv_if_eq (tgt := 23) hx hb d_GrantServerModel_login_6 (by decide) (fun h4 => ?_) (fun h4 => ?_)
  · exact absurd h4 hz
  · refine lv_aload_n hx hb d_GrantServerModel_login_9 rfl (lv_at hl 0 rfl) ?_
    refine hm_get X hK hM hmo.1 fl_GrantServerModel_7 (v := .ref (ad 5)) rfl d_GrantServerModel_login_10 ?_
    refine lv_iload_n hx hb d_GrantServerModel_login_13 rfl (lv_at hl 1 rfl) ?_
    have g5 : f (ad 5) = some (.inl (k 0, 4, .inl (c 5))) := hmo.arr 5 (by decide) (by decide)
    refine hm_iald X hK hM g5 0 rfl j rfl (by omega) (by decide) d_GrantServerModel_login_14 ?_
    refine lv_iload_n hx hb d_GrantServerModel_login_15 rfl (lv_at hl 2 rfl) ?_
    refine lv_icmp_ne (tgt := 23) hx hb d_GrantServerModel_login_16 (by decide) (fun h6 => ?_) (fun h6 => ?_)
    · exact absurd hs h6
    · refine lv_iload_n hx hb d_GrantServerModel_login_19 rfl (lv_at hl 1 rfl) ?_
      refine lv_goto (tgt := 24) hx hb d_GrantServerModel_login_20 (by decide) ?_
      refine hm_put X hK hM hS (fs' := moV sk (upd v 9 (nI j)) ad) hmo.1 fl_GrantServerModel_19 rfl rfl (Nat.le_of_ble_eq_true rfl) rfl d_GrantServerModel_login_24 (fun f7 H locs e8 hM hS => ?_)
      have hfr := hfr.put e8; have hmo : mo k f7 h ad sk (upd v 9 (nI j)) c := hmo.put e8
      refine lv_aload_n hx hb d_GrantServerModel_login_27 rfl (lv_at hl 0 rfl) ?_
      refine hm_get X hK hM hmo.1 fl_GrantServerModel_19 (v := .int (nI j)) rfl d_GrantServerModel_login_28 ?_
      refine lv_if_lt (tgt := 38) hx hb d_GrantServerModel_login_31 (by decide) (fun h9 => ?_) (fun h9 => ?_)
      · exact absurd h9 (nI_pos (by omega))
      · refine lv_iconst (v := 1) hx hb d_GrantServerModel_login_34 (by decide) ?_
        refine lv_goto (tgt := 39) hx hb d_GrantServerModel_login_35 (by decide) ?_
        exact hm_zret X hQ hr hlk hK hM hS rfl d_GrantServerModel_login_39 ⟨rfl, hmo, hfr⟩
set_option maxHeartbeats 4000000 in
set_option maxRecDepth 100000 in
theorem m_c_login_bad (l : Launch) (D : va_G) (k : Nat → ClassId) (f : hm) (h : Nat) (ad : Nat → Nat) (sk : Int64) (v : Nat → Int32) (c : Nat → Nat → Int32) (j : Nat) (y : Int32) (hmo : mo k f h ad sk v c) (hz : ¬ m_isC (v 8) (nI j) = 0) (hj : j < 4) (hs : ¬ c 5 j = y) : hm_Mi l D vwCl (tyL k) y_GrantServerModel_login (Cond.code y_GrantServerModel_login b_GrantServerModel_login 3 (some .boolean) :: TB) ({ frames := 1, cells := 0, slots := 0, locals := 21 }) [.ref h, .int (nI j), .int y] f (fun (r : Int32) (f1 : hm) => 0 = r ∧ mo k f1 h ad sk (upd v 9 (-1)) c ∧ mo_fr h ad f f1) 0 0 := by
  refine hm_enter (Qc := fun sz => va_Qi _ (hm_R D vwCl (tyL k) f sz) (hm_A f sz)) (by decide) rfl (Nat.le_of_ble_eq_true rfl) ?_
  intro p e s m below meth cd ls X0 hr hlk hin hK hM hS hA hl Q hQ
  have X : CallFix p m cd b_GrantServerModel_login 3 s ([.ref h, .int (nI j), .int y] : List Value).toArray TB R_GrantServerModel := ⟨X0.1, X0.2.1, X0.2.2.1, X0.2.2.2.1, fun w h => X0.2.2.2.2 w (List.mem_cons_of_mem _ h)⟩
  have hx := X.1; have hb := X.2.1; have hml := X.2.2.1; have hown := X.2.2.2.1; have hts := X.2.2.2.2
  have hl : lv_has ls 3 [(0, .ref h), (1, .int (nI j)), (2, .int y)] := hl
  have hfr : mo_fr h ad f f := mo_fr.rf
  refine lv_aload_n hx hb d_GrantServerModel_login_0 rfl (lv_at hl 0 rfl) ?_
  refine lv_aload_n hx hb d_GrantServerModel_login_1 rfl (lv_at hl 0 rfl) ?_
  refine lv_iload_n hx hb d_GrantServerModel_login_2 rfl (lv_at hl 1 rfl) ?_
  refine hm_calli hS hM hA (va_runV (As := [.int (nI j)]) (rest := [.ref h]) X (m_c_isClient l D k f h ad sk v c (nI j) hmo  s.heap.size) (hm_cwV hts me_GrantServerModel_isClient wl_GrantServerModel_89 rfl rfl ⟨Nat.le_of_ble_eq_true rfl, Nat.le_of_ble_eq_true rfl⟩) (hm_preV hM hK hmo.1 rfl) rfl rfl hl.1 rfl (lv_room (Nat.le_of_ble_eq_true rfl)) d_GrantServerModel_login_3 ⟨Nat.le_of_ble_eq_true rfl, Nat.le_of_ble_eq_true rfl⟩) (fun r3 f1 H locs p2 hM hS => ?_)
  obtain ⟨rfl, rfl⟩ := p2
  refine lv_if_eq (tgt := 23) hx hb d_GrantServerModel_login_6 (by decide) (fun h4 => ?_) (fun h4 => ?_)
  · exact absurd h4 hz
  · refine lv_aload_n hx hb d_GrantServerModel_login_9 rfl (lv_at hl 0 rfl) ?_
    refine hm_get X hK hM hmo.1 fl_GrantServerModel_7 (v := .ref (ad 5)) rfl d_GrantServerModel_login_10 ?_
    refine lv_iload_n hx hb d_GrantServerModel_login_13 rfl (lv_at hl 1 rfl) ?_
    have g5 : f (ad 5) = some (.inl (k 0, 4, .inl (c 5))) := hmo.arr 5 (by decide) (by decide)
    refine hm_iald X hK hM g5 0 rfl j rfl (by omega) (by decide) d_GrantServerModel_login_14 ?_
    refine lv_iload_n hx hb d_GrantServerModel_login_15 rfl (lv_at hl 2 rfl) ?_
    refine lv_icmp_ne (tgt := 23) hx hb d_GrantServerModel_login_16 (by decide) (fun h6 => ?_) (fun h6 => ?_)
    · refine lv_iconst (v := (-1)) hx hb d_GrantServerModel_login_23 (by decide) ?_
      refine hm_put X hK hM hS (fs' := moV sk (upd v 9 (-1)) ad) hmo.1 fl_GrantServerModel_19 rfl rfl (Nat.le_of_ble_eq_true rfl) rfl d_GrantServerModel_login_24 (fun f7 H locs e8 hM hS => ?_)
      have hfr := hfr.put e8; have hmo : mo k f7 h ad sk (upd v 9 (-1)) c := hmo.put e8
      refine lv_aload_n hx hb d_GrantServerModel_login_27 rfl (lv_at hl 0 rfl) ?_
      refine hm_get X hK hM hmo.1 fl_GrantServerModel_19 (v := .int (-1)) rfl d_GrantServerModel_login_28 ?_
      refine lv_if_lt (tgt := 38) hx hb d_GrantServerModel_login_31 (by decide) (fun h9 => ?_) (fun h9 => ?_)
      · refine lv_iconst (v := 0) hx hb d_GrantServerModel_login_38 (by decide) ?_
        exact hm_zret X hQ hr hlk hK hM hS rfl d_GrantServerModel_login_39 ⟨rfl, hmo, hfr⟩
      · exact absurd h9 (by decide)
    · exact absurd h6 hs
set_option maxHeartbeats 4000000 in
set_option maxRecDepth 100000 in
theorem m_c_isFree (l : Launch) (D : va_G) (k : Nat → ClassId) (f : hm) (h : Nat) (ad : Nat → Nat) (sk : Int64) (v : Nat → Int32) (c : Nat → Nat → Int32) (x : Int32) (hmo : mo k f h ad sk v c) : hm_Mi l D vwCl (tyL k) y_GrantServerModel_isFree (Cond.code y_GrantServerModel_isFree b_GrantServerModel_isFree 2 (some .boolean) :: TB) ({ frames := 2, cells := 0, slots := 0, locals := 43 }) [.ref h, .int x] f (fun (r : Int32) (f1 : hm) => m_free (c 10) x = r ∧ f = f1) 0 0 := by
  refine hm_enter (Qc := fun sz => va_Qi _ (hm_R D vwCl (tyL k) f sz) (hm_A f sz)) (by decide) rfl (Nat.le_of_ble_eq_true rfl) ?_
  intro p e s m below meth cd ls X0 hr hlk hin hK hM hS hA hl Q hQ
  have X : CallFix p m cd b_GrantServerModel_isFree 2 s ([.ref h, .int x] : List Value).toArray TB R_GrantServerModel := ⟨X0.1, X0.2.1, X0.2.2.1, X0.2.2.2.1, fun w h => X0.2.2.2.2 w (List.mem_cons_of_mem _ h)⟩
  have hx := X.1; have hb := X.2.1; have hml := X.2.2.1; have hown := X.2.2.2.1; have hts := X.2.2.2.2
  have hl : lv_has ls 2 [(0, .ref h), (1, .int x)] := hl
  have hfr : mo_fr h ad f f := mo_fr.rf
  refine lv_iload_n hx hb d_GrantServerModel_isFree_0 rfl (lv_at hl 1 rfl) ?_
  refine lv_iconst (v := 1) hx hb d_GrantServerModel_isFree_1 (by decide) ?_
  refine lv_icmp_lt (tgt := 33) hx hb d_GrantServerModel_isFree_2 (by decide) (fun h1 => ?_) (fun h1 => ?_)
  · refine lv_iconst (v := 0) hx hb d_GrantServerModel_isFree_33 (by decide) ?_
    exact hm_zret X hQ hr hlk hK hM hS rfl d_GrantServerModel_isFree_34 ⟨(by simp [m_free, h1, Int32.not_le.mpr h1]), rfl⟩
  · refine lv_iload_n hx hb d_GrantServerModel_isFree_5 rfl (lv_at hl 1 rfl) ?_
    refine lv_ldc (v := 65535) hx hb hown (hts _ wc_GrantServerModel_99) d_GrantServerModel_isFree_6 ?_
    refine lv_icmp_gt (tgt := 33) hx hb d_GrantServerModel_isFree_8 (by decide) (fun h2 => ?_) (fun h2 => ?_)
    · refine lv_iconst (v := 0) hx hb d_GrantServerModel_isFree_33 (by decide) ?_
      exact hm_zret X hQ hr hlk hK hM hS rfl d_GrantServerModel_isFree_34 ⟨(by simp [m_free, h1, Int32.not_lt.mp h1, h2, Int32.not_le.mpr h2]), rfl⟩
    · refine lv_aload_n hx hb d_GrantServerModel_isFree_11 rfl (lv_at hl 0 rfl) ?_
      refine lv_iconst (v := 0) hx hb d_GrantServerModel_isFree_12 (by decide) ?_
      refine lv_iload_n hx hb d_GrantServerModel_isFree_13 rfl (lv_at hl 1 rfl) ?_
      refine hm_calli hS hM hA (va_runV (As := [.int 0, .int x]) (rest := []) X (m_c_find l D k f h ad sk v c 0 x hmo  s.heap.size) (hm_cwV hts me_GrantServerModel_find wl_GrantServerModel_100 rfl rfl ⟨Nat.le_of_ble_eq_true rfl, Nat.le_of_ble_eq_true rfl⟩) (hm_preV hM hK hmo.1 rfl) rfl rfl hl.1 rfl (lv_room (Nat.le_of_ble_eq_true rfl)) d_GrantServerModel_isFree_14 ⟨Nat.le_of_ble_eq_true rfl, Nat.le_of_ble_eq_true rfl⟩) (fun r5 f3 H locs p4 hM hS => ?_)
      obtain ⟨rfl, rfl⟩ := p4
      refine hm_top (z := m_findF (c 10) x 16 0) (by simp [m_toN, m_fromN]) ?_
      refine lv_if_ge (tgt := 33) hx hb d_GrantServerModel_isFree_17 (by decide) (fun h6 => ?_) (fun h6 => ?_)
      · refine lv_iconst (v := 0) hx hb d_GrantServerModel_isFree_33 (by decide) ?_
        exact hm_zret X hQ hr hlk hK hM hS rfl d_GrantServerModel_isFree_34 ⟨(by simp [m_free, h1, Int32.not_lt.mp h1, h2, Int32.not_lt.mp h2, h6, Int32.not_lt.mpr h6]), rfl⟩
      · refine lv_aload_n hx hb d_GrantServerModel_isFree_20 rfl (lv_at hl 0 rfl) ?_
        refine lv_iconst (v := 1) hx hb d_GrantServerModel_isFree_21 (by decide) ?_
        refine lv_iload_n hx hb d_GrantServerModel_isFree_22 rfl (lv_at hl 1 rfl) ?_
        refine hm_calli hS hM hA (va_runV (As := [.int 1, .int x]) (rest := []) X (m_c_find l D k f h ad sk v c 1 x hmo  H.size) (hm_cwV hts me_GrantServerModel_find wl_GrantServerModel_100 rfl rfl ⟨Nat.le_of_ble_eq_true rfl, Nat.le_of_ble_eq_true rfl⟩) (hm_preV hM hK hmo.1 rfl) rfl rfl hl.1 rfl (lv_room (Nat.le_of_ble_eq_true rfl)) d_GrantServerModel_isFree_23 ⟨Nat.le_of_ble_eq_true rfl, Nat.le_of_ble_eq_true rfl⟩) (fun r9 f7 H locs p8 hM hS => ?_)
        obtain ⟨rfl, rfl⟩ := p8
        refine hm_top (z := m_findF (c 10) x 24 16) (by simp [m_toN, m_fromN]) ?_
        refine lv_if_ge (tgt := 33) hx hb d_GrantServerModel_isFree_26 (by decide) (fun h10 => ?_) (fun h10 => ?_)
        · refine lv_iconst (v := 0) hx hb d_GrantServerModel_isFree_33 (by decide) ?_
          exact hm_zret X hQ hr hlk hK hM hS rfl d_GrantServerModel_isFree_34 ⟨(by simp [m_free, h1, Int32.not_lt.mp h1, h2, Int32.not_lt.mp h2, h6, Int32.not_le.mp h6, h10, Int32.not_lt.mpr h10]), rfl⟩
        · refine lv_iconst (v := 1) hx hb d_GrantServerModel_isFree_29 (by decide) ?_
          refine lv_goto (tgt := 34) hx hb d_GrantServerModel_isFree_30 (by decide) ?_
          exact hm_zret X hQ hr hlk hK hM hS rfl d_GrantServerModel_isFree_34 ⟨(by simp [m_free, h1, Int32.not_lt.mp h1, h2, Int32.not_lt.mp h2, h6, Int32.not_le.mp h6, h10, Int32.not_le.mp h10]), rfl⟩
set_option maxHeartbeats 4000000 in
set_option maxRecDepth 100000 in
theorem m_c_key_no (l : Launch) (D : va_G) (k : Nat → ClassId) (f : hm) (h : Nat) (ad : Nat → Nat) (sk : Int64) (v : Nat → Int32) (c : Nat → Nat → Int32) (y : Int32) (n : Nat) (hmo : mo k f h ad sk v c) (hn : v 24 = nI n) (hn9 : n ≤ 120) (hz : z_text y = 0 ∨ ¬ n < 120) : hm_Mi l D vwCl (tyL k) y_GrantServerModel_key (Cond.code y_GrantServerModel_key b_GrantServerModel_key 2 (some .boolean) :: TB) ({ frames := 1, cells := 0, slots := 0, locals := 20 }) [.ref h, .int y] f (fun (r : Int32) (f1 : hm) => 0 = r ∧ f = f1) 0 0 := by
  refine hm_enter (Qc := fun sz => va_Qi _ (hm_R D vwCl (tyL k) f sz) (hm_A f sz)) (by decide) rfl (Nat.le_of_ble_eq_true rfl) ?_
  intro p e s m below meth cd ls X0 hr hlk hin hK hM hS hA hl Q hQ
  have X : CallFix p m cd b_GrantServerModel_key 2 s ([.ref h, .int y] : List Value).toArray TB R_GrantServerModel := ⟨X0.1, X0.2.1, X0.2.2.1, X0.2.2.2.1, fun w h => X0.2.2.2.2 w (List.mem_cons_of_mem _ h)⟩
  have hx := X.1; have hb := X.2.1; have hml := X.2.2.1; have hown := X.2.2.2.1; have hts := X.2.2.2.2
  have hl : lv_has ls 2 [(0, .ref h), (1, .int y)] := hl
  have hfr : mo_fr h ad f f := mo_fr.rf
  refine lv_iload_n hx hb d_GrantServerModel_key_0 rfl (lv_at hl 1 rfl) ?_
  refine hm_calli hS hM hA (va_runS (As := [.int y]) (rest := []) X (m_c_isText l D k f y  s.heap.size) (hm_cwS hts me_GrantServerModel_isText wl_GrantServerModel_178 rfl rfl ⟨Nat.le_of_ble_eq_true rfl, Nat.le_of_ble_eq_true rfl⟩) (hm_preS hM hK) rfl rfl hl.1 rfl (lv_room (Nat.le_of_ble_eq_true rfl)) d_GrantServerModel_key_1 ⟨Nat.le_of_ble_eq_true rfl, Nat.le_of_ble_eq_true rfl⟩) (fun r3 f1 H locs p2 hM hS => ?_)
  obtain ⟨rfl, rfl⟩ := p2
  refine lv_if_eq (tgt := 16) hx hb d_GrantServerModel_key_4 (by decide) (fun h4 => ?_) (fun h4 => ?_)
  · refine lv_iconst (v := 0) hx hb d_GrantServerModel_key_16 (by decide) ?_
    exact hm_zret X hQ hr hlk hK hM hS rfl d_GrantServerModel_key_17 ⟨rfl, rfl⟩
  · refine lv_aload_n hx hb d_GrantServerModel_key_7 rfl (lv_at hl 0 rfl) ?_
    refine hm_get X hK hM hmo.1 fl_GrantServerModel_175 (v := .int (v 24)) rfl d_GrantServerModel_key_8 ?_
    refine lv_bipush (v := 120) hx hb d_GrantServerModel_key_11 (by decide) ?_
    refine lv_icmp_ne (tgt := 18) hx hb d_GrantServerModel_key_13 (by decide) (fun h5 => ?_) (fun h5 => ?_)
    · exact hz.elim (fun z => absurd z h4) (fun z => absurd (by rw [hn, show n = 120 by omega]; rfl) h5)
    · refine lv_iconst (v := 0) hx hb d_GrantServerModel_key_16 (by decide) ?_
      exact hm_zret X hQ hr hlk hK hM hS rfl d_GrantServerModel_key_17 ⟨rfl, rfl⟩
set_option maxHeartbeats 4000000 in
set_option maxRecDepth 100000 in
theorem m_c_key (l : Launch) (D : va_G) (k : Nat → ClassId) (f : hm) (h : Nat) (ad : Nat → Nat) (sk : Int64) (v : Nat → Int32) (c : Nat → Nat → Int32) (y : Int32) (n : Nat) (hmo : mo k f h ad sk v c) (hn : v 24 = nI n) (hn9 : n < 120) (hz : ¬ z_text y = 0) : hm_Mi l D vwCl (tyL k) y_GrantServerModel_key (Cond.code y_GrantServerModel_key b_GrantServerModel_key 2 (some .boolean) :: TB) ({ frames := 1, cells := 0, slots := 0, locals := 20 }) [.ref h, .int y] f (fun (r : Int32) (f1 : hm) => 1 = r ∧ mo k f1 h ad sk (upd v 24 (nI (n + 1))) (va_up c 23 (upd (c 23) n y)) ∧ mo_fr h ad f f1) 0 0 := by
  refine hm_enter (Qc := fun sz => va_Qi _ (hm_R D vwCl (tyL k) f sz) (hm_A f sz)) (by decide) rfl (Nat.le_of_ble_eq_true rfl) ?_
  intro p e s m below meth cd ls X0 hr hlk hin hK hM hS hA hl Q hQ
  have X : CallFix p m cd b_GrantServerModel_key 2 s ([.ref h, .int y] : List Value).toArray TB R_GrantServerModel := ⟨X0.1, X0.2.1, X0.2.2.1, X0.2.2.2.1, fun w h => X0.2.2.2.2 w (List.mem_cons_of_mem _ h)⟩
  have hx := X.1; have hb := X.2.1; have hml := X.2.2.1; have hown := X.2.2.2.1; have hts := X.2.2.2.2
  have hl : lv_has ls 2 [(0, .ref h), (1, .int y)] := hl
  have hfr : mo_fr h ad f f := mo_fr.rf
  refine lv_iload_n hx hb d_GrantServerModel_key_0 rfl (lv_at hl 1 rfl) ?_
  refine hm_calli hS hM hA (va_runS (As := [.int y]) (rest := []) X (m_c_isText l D k f y  s.heap.size) (hm_cwS hts me_GrantServerModel_isText wl_GrantServerModel_178 rfl rfl ⟨Nat.le_of_ble_eq_true rfl, Nat.le_of_ble_eq_true rfl⟩) (hm_preS hM hK) rfl rfl hl.1 rfl (lv_room (Nat.le_of_ble_eq_true rfl)) d_GrantServerModel_key_1 ⟨Nat.le_of_ble_eq_true rfl, Nat.le_of_ble_eq_true rfl⟩) (fun r3 f1 H locs p2 hM hS => ?_)
  obtain ⟨rfl, rfl⟩ := p2
  refine lv_if_eq (tgt := 16) hx hb d_GrantServerModel_key_4 (by decide) (fun h4 => ?_) (fun h4 => ?_)
  · exact absurd h4 hz
  · refine lv_aload_n hx hb d_GrantServerModel_key_7 rfl (lv_at hl 0 rfl) ?_
    refine hm_get X hK hM hmo.1 fl_GrantServerModel_175 (v := .int (v 24)) rfl d_GrantServerModel_key_8 ?_
    refine lv_bipush (v := 120) hx hb d_GrantServerModel_key_11 (by decide) ?_
    refine lv_icmp_ne (tgt := 18) hx hb d_GrantServerModel_key_13 (by decide) (fun h5 => ?_) (fun h5 => ?_)
    · refine lv_aload_n hx hb d_GrantServerModel_key_18 rfl (lv_at hl 0 rfl) ?_
      refine hm_get X hK hM hmo.1 fl_GrantServerModel_57 (v := .ref (ad 23)) rfl d_GrantServerModel_key_19 ?_
      refine lv_aload_n hx hb d_GrantServerModel_key_22 rfl (lv_at hl 0 rfl) ?_
      refine hm_get X hK hM hmo.1 fl_GrantServerModel_175 (v := .int (v 24)) rfl d_GrantServerModel_key_23 ?_
      refine lv_iload_n hx hb d_GrantServerModel_key_26 rfl (lv_at hl 1 rfl) ?_
      have g6 : f (ad 23) = some (.inl (k 0, 120, .inl (c 23))) := hmo.arr 23 (by decide) (by decide)
      refine hm_iast X hK hM hS g6 0 rfl n hn (by omega) (by decide) d_GrantServerModel_key_27 (fun f7 H locs e8 hM hS => ?_)
      have hfr := hfr.ast 23 (by decide) (by decide) e8; have hmo : mo k f7 h ad sk v (va_up c 23 (upd (c 23) n y)) := hmo.ast 23 (by decide) (by decide) e8
      refine lv_aload_n hx hb d_GrantServerModel_key_28 rfl (lv_at hl 0 rfl) ?_
      refine lv_dup hx hb d_GrantServerModel_key_29 rfl ?_
      refine hm_get X hK hM hmo.1 fl_GrantServerModel_175 (v := .int (v 24)) rfl d_GrantServerModel_key_30 ?_
      refine lv_iconst (v := 1) hx hb d_GrantServerModel_key_33 (by decide) ?_
      refine lv_iadd hx hb d_GrantServerModel_key_34 ?_
      refine hm_top (z := nI (n + 1)) (by rw [hn]; exact nI_1 n) ?_
      refine hm_put X hK hM hS (fs' := moV sk (upd v 24 (nI (n + 1))) ad) hmo.1 fl_GrantServerModel_175 rfl rfl (Nat.le_of_ble_eq_true rfl) rfl d_GrantServerModel_key_35 (fun f9 H locs e10 hM hS => ?_)
      have hfr := hfr.put e10; have hmo : mo k f9 h ad sk (upd v 24 (nI (n + 1))) (va_up c 23 (upd (c 23) n y)) := hmo.put e10
      refine lv_iconst (v := 1) hx hb d_GrantServerModel_key_38 (by decide) ?_
      exact hm_zret X hQ hr hlk hK hM hS rfl d_GrantServerModel_key_39 ⟨rfl, hmo, hfr⟩
    · exact absurd (hn.symm.trans h5) (fun z => absurd ((nI_eq (b := 120) (by omega) (by decide)).mp z) (by omega))
set_option maxHeartbeats 4000000 in
set_option maxRecDepth 100000 in
theorem m_c_alter_no (l : Launch) (D : va_G) (k : Nat → ClassId) (f : hm) (h : Nat) (ad : Nat → Nat) (sk : Int64) (v : Nat → Int32) (c : Nat → Nat → Int32) (x : Int32) (y : Int32) (n : Nat) (hmo : mo k f h ad sk v c) (hn : v 24 = nI n) (hz : z_text y = 0 ∨ x < 0 ∨ nI n ≤ x) : hm_Mi l D vwCl (tyL k) y_GrantServerModel_alter (Cond.code y_GrantServerModel_alter b_GrantServerModel_alter 3 (some .boolean) :: TB) ({ frames := 1, cells := 0, slots := 0, locals := 20 }) [.ref h, .int x, .int y] f (fun (r : Int32) (f1 : hm) => 0 = r ∧ f = f1) 0 0 := by
  refine hm_enter (Qc := fun sz => va_Qi _ (hm_R D vwCl (tyL k) f sz) (hm_A f sz)) (by decide) rfl (Nat.le_of_ble_eq_true rfl) ?_
  intro p e s m below meth cd ls X0 hr hlk hin hK hM hS hA hl Q hQ
  have X : CallFix p m cd b_GrantServerModel_alter 3 s ([.ref h, .int x, .int y] : List Value).toArray TB R_GrantServerModel := ⟨X0.1, X0.2.1, X0.2.2.1, X0.2.2.2.1, fun w h => X0.2.2.2.2 w (List.mem_cons_of_mem _ h)⟩
  have hx := X.1; have hb := X.2.1; have hml := X.2.2.1; have hown := X.2.2.2.1; have hts := X.2.2.2.2
  have hl : lv_has ls 3 [(0, .ref h), (1, .int x), (2, .int y)] := hl
  have hfr : mo_fr h ad f f := mo_fr.rf
  refine lv_iload_n hx hb d_GrantServerModel_alter_0 rfl (lv_at hl 1 rfl) ?_
  refine lv_if_lt (tgt := 19) hx hb d_GrantServerModel_alter_1 (by decide) (fun h1 => ?_) (fun h1 => ?_)
  · refine lv_iconst (v := 0) hx hb d_GrantServerModel_alter_19 (by decide) ?_
    exact hm_zret X hQ hr hlk hK hM hS rfl d_GrantServerModel_alter_20 ⟨rfl, rfl⟩
  · refine lv_iload_n hx hb d_GrantServerModel_alter_4 rfl (lv_at hl 1 rfl) ?_
    refine lv_aload_n hx hb d_GrantServerModel_alter_5 rfl (lv_at hl 0 rfl) ?_
    refine hm_get X hK hM hmo.1 fl_GrantServerModel_175 (v := .int (v 24)) rfl d_GrantServerModel_alter_6 ?_
    refine lv_icmp_ge (tgt := 19) hx hb d_GrantServerModel_alter_9 (by decide) (fun h2 => ?_) (fun h2 => ?_)
    · refine lv_iconst (v := 0) hx hb d_GrantServerModel_alter_19 (by decide) ?_
      exact hm_zret X hQ hr hlk hK hM hS rfl d_GrantServerModel_alter_20 ⟨rfl, rfl⟩
    · refine lv_iload_n hx hb d_GrantServerModel_alter_12 rfl (lv_at hl 2 rfl) ?_
      refine hm_calli hS hM hA (va_runS (As := [.int y]) (rest := []) X (m_c_isText l D k f y  s.heap.size) (hm_cwS hts me_GrantServerModel_isText wl_GrantServerModel_178 rfl rfl ⟨Nat.le_of_ble_eq_true rfl, Nat.le_of_ble_eq_true rfl⟩) (hm_preS hM hK) rfl rfl hl.1 rfl (lv_room (Nat.le_of_ble_eq_true rfl)) d_GrantServerModel_alter_13 ⟨Nat.le_of_ble_eq_true rfl, Nat.le_of_ble_eq_true rfl⟩) (fun r5 f3 H locs p4 hM hS => ?_)
      obtain ⟨rfl, rfl⟩ := p4
      refine lv_if_ne (tgt := 21) hx hb d_GrantServerModel_alter_16 (by decide) (fun h6 => ?_) (fun h6 => ?_)
      · exact absurd hz (by simp [h6, h1, hn ▸ h2])
      · refine lv_iconst (v := 0) hx hb d_GrantServerModel_alter_19 (by decide) ?_
        exact hm_zret X hQ hr hlk hK hM hS rfl d_GrantServerModel_alter_20 ⟨rfl, rfl⟩
set_option maxHeartbeats 4000000 in
set_option maxRecDepth 100000 in
theorem m_c_alter (l : Launch) (D : va_G) (k : Nat → ClassId) (f : hm) (h : Nat) (ad : Nat → Nat) (sk : Int64) (v : Nat → Int32) (c : Nat → Nat → Int32) (j : Nat) (y : Int32) (n : Nat) (hmo : mo k f h ad sk v c) (hn : v 24 = nI n) (hn9 : n ≤ 120) (hj : j < n) (hz : ¬ z_text y = 0) : hm_Mi l D vwCl (tyL k) y_GrantServerModel_alter (Cond.code y_GrantServerModel_alter b_GrantServerModel_alter 3 (some .boolean) :: TB) ({ frames := 1, cells := 0, slots := 0, locals := 20 }) [.ref h, .int (nI j), .int y] f (fun (r : Int32) (f1 : hm) => 1 = r ∧ mo k f1 h ad sk v (va_up c 23 (upd (c 23) j y)) ∧ mo_fr h ad f f1) 0 0 := by
  refine hm_enter (Qc := fun sz => va_Qi _ (hm_R D vwCl (tyL k) f sz) (hm_A f sz)) (by decide) rfl (Nat.le_of_ble_eq_true rfl) ?_
  intro p e s m below meth cd ls X0 hr hlk hin hK hM hS hA hl Q hQ
  have X : CallFix p m cd b_GrantServerModel_alter 3 s ([.ref h, .int (nI j), .int y] : List Value).toArray TB R_GrantServerModel := ⟨X0.1, X0.2.1, X0.2.2.1, X0.2.2.2.1, fun w h => X0.2.2.2.2 w (List.mem_cons_of_mem _ h)⟩
  have hx := X.1; have hb := X.2.1; have hml := X.2.2.1; have hown := X.2.2.2.1; have hts := X.2.2.2.2
  have hl : lv_has ls 3 [(0, .ref h), (1, .int (nI j)), (2, .int y)] := hl
  have hfr : mo_fr h ad f f := mo_fr.rf
  refine lv_iload_n hx hb d_GrantServerModel_alter_0 rfl (lv_at hl 1 rfl) ?_
  refine lv_if_lt (tgt := 19) hx hb d_GrantServerModel_alter_1 (by decide) (fun h1 => ?_) (fun h1 => ?_)
  · exact absurd h1 (nI_pos (by omega))
  · refine lv_iload_n hx hb d_GrantServerModel_alter_4 rfl (lv_at hl 1 rfl) ?_
    refine lv_aload_n hx hb d_GrantServerModel_alter_5 rfl (lv_at hl 0 rfl) ?_
    refine hm_get X hK hM hmo.1 fl_GrantServerModel_175 (v := .int (v 24)) rfl d_GrantServerModel_alter_6 ?_
    refine lv_icmp_ge (tgt := 19) hx hb d_GrantServerModel_alter_9 (by decide) (fun h2 => ?_) (fun h2 => ?_)
    · exact absurd (hn ▸ h2) (nI_ge hj (by omega))
    · refine lv_iload_n hx hb d_GrantServerModel_alter_12 rfl (lv_at hl 2 rfl) ?_
      refine hm_calli hS hM hA (va_runS (As := [.int y]) (rest := []) X (m_c_isText l D k f y  s.heap.size) (hm_cwS hts me_GrantServerModel_isText wl_GrantServerModel_178 rfl rfl ⟨Nat.le_of_ble_eq_true rfl, Nat.le_of_ble_eq_true rfl⟩) (hm_preS hM hK) rfl rfl hl.1 rfl (lv_room (Nat.le_of_ble_eq_true rfl)) d_GrantServerModel_alter_13 ⟨Nat.le_of_ble_eq_true rfl, Nat.le_of_ble_eq_true rfl⟩) (fun r5 f3 H locs p4 hM hS => ?_)
      obtain ⟨rfl, rfl⟩ := p4
      refine lv_if_ne (tgt := 21) hx hb d_GrantServerModel_alter_16 (by decide) (fun h6 => ?_) (fun h6 => ?_)
      · refine lv_aload_n hx hb d_GrantServerModel_alter_21 rfl (lv_at hl 0 rfl) ?_
        refine hm_get X hK hM hmo.1 fl_GrantServerModel_57 (v := .ref (ad 23)) rfl d_GrantServerModel_alter_22 ?_
        refine lv_iload_n hx hb d_GrantServerModel_alter_25 rfl (lv_at hl 1 rfl) ?_
        refine lv_iload_n hx hb d_GrantServerModel_alter_26 rfl (lv_at hl 2 rfl) ?_
        have g7 : f (ad 23) = some (.inl (k 0, 120, .inl (c 23))) := hmo.arr 23 (by decide) (by decide)
        refine hm_iast X hK hM hS g7 0 rfl j rfl (by omega) (by decide) d_GrantServerModel_alter_27 (fun f8 H locs e9 hM hS => ?_)
        have hfr := hfr.ast 23 (by decide) (by decide) e9; have hmo : mo k f8 h ad sk v (va_up c 23 (upd (c 23) j y)) := hmo.ast 23 (by decide) (by decide) e9
        refine lv_iconst (v := 1) hx hb d_GrantServerModel_alter_28 (by decide) ?_
        exact hm_zret X hQ hr hlk hK hM hS rfl d_GrantServerModel_alter_29 ⟨rfl, hmo, hfr⟩
      · exact absurd h6 hz
set_option maxHeartbeats 4000000 in
set_option maxRecDepth 100000 in
theorem m_c_take (l : Launch) (D : va_G) (k : Nat → ClassId) (f : hm) (h : Nat) (ad : Nat → Nat) (sk : Int64) (v : Nat → Int32) (c : Nat → Nat → Int32) (x : Int32) (n : Nat) (hmo : mo k f h ad sk v c) (hx9 : ¬ x = 0) (hn : v 26 = nI n) (hn9 : n ≤ 120) : hm_Mi l D vwCl (tyL k) y_GrantServerModel_take (Cond.code y_GrantServerModel_take b_GrantServerModel_take 3 (some .int) :: TB) ({ frames := 0, cells := 0, slots := 0, locals := 0 }) [.ref h, .int x] f (fun (r : Int32) (f1 : hm) => ∃ (g : Nat → Int32), nI n = r ∧ (∀ i, i < n → g i = c 25 i) ∧ mo k f1 h ad sk (upd v 24 (nI n)) (va_up c 23 g) ∧ mo_fr h ad f f1) 0 0 := by
  refine hm_enter (Qc := fun sz => va_Qi _ (hm_R D vwCl (tyL k) f sz) (hm_A f sz)) (by decide) rfl (Nat.le_of_ble_eq_true rfl) ?_
  intro p e s m below meth cd ls X0 hr hlk hin hK hM hS hA hl Q hQ
  have X : CallFix p m cd b_GrantServerModel_take 3 s ([.ref h, .int x] : List Value).toArray TB R_GrantServerModel := ⟨X0.1, X0.2.1, X0.2.2.1, X0.2.2.2.1, fun w h => X0.2.2.2.2 w (List.mem_cons_of_mem _ h)⟩
  have hx := X.1; have hb := X.2.1; have hml := X.2.2.1; have hown := X.2.2.2.1; have hts := X.2.2.2.2
  have hl : lv_has ls 3 [(0, .ref h), (1, .int x)] := hl
  have hfr : mo_fr h ad f f := mo_fr.rf
  refine lv_aload_n hx hb d_GrantServerModel_take_0 rfl (lv_at hl 0 rfl) ?_
  refine lv_iload_n hx hb d_GrantServerModel_take_1 rfl (lv_at hl 1 rfl) ?_
  refine lv_if_eq (tgt := 12) hx hb d_GrantServerModel_take_2 (by decide) (fun h1 => ?_) (fun h1 => ?_)
  · exact absurd h1 hx9
  · refine lv_aload_n hx hb d_GrantServerModel_take_5 rfl (lv_at hl 0 rfl) ?_
    refine hm_get X hK hM hmo.1 fl_GrantServerModel_160 (v := .int (v 26)) rfl d_GrantServerModel_take_6 ?_
    refine lv_goto (tgt := 13) hx hb d_GrantServerModel_take_9 (by decide) ?_
    refine hm_top (z := nI n) hn ?_
    refine hm_put X hK hM hS (fs' := moV sk (upd v 24 (nI n)) ad) hmo.1 fl_GrantServerModel_175 rfl rfl (Nat.le_of_ble_eq_true rfl) rfl d_GrantServerModel_take_13 (fun f2 H locs e3 hM hS => ?_)
    have hfr := hfr.put e3; have hmo : mo k f2 h ad sk (upd v 24 (nI n)) c := hmo.put e3
    refine lv_iconst (v := 0) hx hb d_GrantServerModel_take_16 (by decide) ?_
    refine lv_istore_n (lv' := [(2, .int 0), (0, .ref h), (1, .int x)]) hx hb d_GrantServerModel_take_17 rfl hl (by decide) rfl (fun ls hl => ?_)
    have loop18 : ∀ (fu : Nat) (j : Nat) (g : Nat → Int32) (fL : hm) (H : Heap) (locs : List Loc) (ls : Array Slot) (hmu : n - j < fu) (hj : j ≤ n) (hg : ∀ i, i < j → g i = c 25 i) (hmo : mo k fL h ad sk (upd v 24 (nI n)) (va_up c 23 g)) (hfr : mo_fr h ad f fL) (hM : hm_W D vwCl (hm_A f s.heap.size) fL H) (hS : va_S (hm_A f s.heap.size) s.heap H locs) (hl : lv_has ls 3 [(0, .ref h), (1, .int x), (2, .int (nI j))]), W p l e ({ frames := 0, cells := 0, slots := 0, locals := 0 }) s m ([.ref h, .int x] : List Value).toArray below meth cd H locs 0 0 Q (F0 m 18 ls []) := by
      intro fu
      induction fu with
      | zero => intro j g fL H locs ls hmu; exact absurd hmu (Nat.not_lt_zero _)
      | succ fu ih =>
        intro j g fL H locs ls hmu hj hg  hmo hfr hM hS hl
        refine lv_iload_n hx hb d_GrantServerModel_take_18 rfl (lv_at hl 2 rfl) ?_
        refine lv_aload_n hx hb d_GrantServerModel_take_19 rfl (lv_at hl 0 rfl) ?_
        refine hm_get X hK hM hmo.1 fl_GrantServerModel_175 (v := .int (nI n)) rfl d_GrantServerModel_take_20 ?_
        refine lv_icmp_ge (tgt := 44) hx hb d_GrantServerModel_take_23 (by decide) (fun h4 => ?_) (fun h4 => ?_)
        · have hge : n ≤ j := by have z := h4; rw [nI_leI (by omega) (by omega)] at z; omega
          refine lv_aload_n hx hb d_GrantServerModel_take_44 rfl (lv_at hl 0 rfl) ?_
          refine hm_get X hK hM hmo.1 fl_GrantServerModel_175 (v := .int (nI n)) rfl d_GrantServerModel_take_45 ?_
          exact hm_iret X hQ hr hlk hK hM hS d_GrantServerModel_take_48 ⟨g, rfl, (fun i hi => hg i (by omega)), hmo, hfr⟩
        · have hlt : j < n := by have z := h4; rw [nI_leI (by omega) (by omega)] at z; omega
          refine lv_aload_n hx hb d_GrantServerModel_take_26 rfl (lv_at hl 0 rfl) ?_
          refine hm_get X hK hM hmo.1 fl_GrantServerModel_57 (v := .ref (ad 23)) rfl d_GrantServerModel_take_27 ?_
          refine lv_iload_n hx hb d_GrantServerModel_take_30 rfl (lv_at hl 2 rfl) ?_
          refine lv_aload_n hx hb d_GrantServerModel_take_31 rfl (lv_at hl 0 rfl) ?_
          refine hm_get X hK hM hmo.1 fl_GrantServerModel_60 (v := .ref (ad 25)) rfl d_GrantServerModel_take_32 ?_
          refine lv_iload_n hx hb d_GrantServerModel_take_35 rfl (lv_at hl 2 rfl) ?_
          have g5 : fL (ad 25) = some (.inl (k 0, 120, .inl (c 25))) := hmo.arr 25 (by decide) (by decide)
          refine hm_iald X hK hM g5 0 rfl j rfl (by omega) (by decide) d_GrantServerModel_take_36 ?_
          have g6 : fL (ad 23) = some (.inl (k 0, 120, .inl g)) := hmo.arr 23 (by decide) (by decide)
          refine hm_iast X hK hM hS g6 0 rfl j rfl (by omega) (by decide) d_GrantServerModel_take_37 (fun f7 H locs e8 hM hS => ?_)
          have hfr := hfr.ast 23 (by decide) (by decide) e8; have hmo : mo k f7 h ad sk (upd v 24 (nI n)) (va_up (va_up c 23 g) 23 (upd g j ((c 25) j))) := hmo.ast 23 (by decide) (by decide) e8
          refine lv_iinc (lv' := [(2, .int (nI (j + 1))), (0, .ref h), (1, .int x)]) hx hb d_GrantServerModel_take_38 hl (k := 2) rfl (hm_inc _) (by decide) rfl (fun ls hl => ?_)
          refine lv_goto (tgt := 18) hx hb d_GrantServerModel_take_41 (by decide) ?_
          exact ih (j + 1) (upd g j (c 25 j)) f7 H locs ls (by omega) (by omega) (fun i hi => by by_cases e : i = j <;> simp [upd, e]; exact hg i (by omega))  (hmo.cv rfl (bx_uu _ _ _ _).symm) hfr hM hS (lv_sub hl [1, 2, 0] rfl)
    exact loop18 _ 0 (c 23) f2 H locs ls (Nat.lt_succ_self _) (Nat.zero_le _) (fun i h => absurd h (Nat.not_lt_zero _))  (hmo.cv rfl (va_up_id _ _)) hfr hM hS (lv_sub hl [1, 2, 0] rfl)
set_option maxHeartbeats 4000000 in
set_option maxRecDepth 100000 in
theorem m_c_take_no (l : Launch) (D : va_G) (k : Nat → ClassId) (f : hm) (h : Nat) (ad : Nat → Nat) (sk : Int64) (v : Nat → Int32) (c : Nat → Nat → Int32) (x : Int32) (n : Nat) (hmo : mo k f h ad sk v c) (hx9 : x = 0) (hn : n = 0) (hn9 : n ≤ 120) : hm_Mi l D vwCl (tyL k) y_GrantServerModel_take (Cond.code y_GrantServerModel_take b_GrantServerModel_take 3 (some .int) :: TB) ({ frames := 0, cells := 0, slots := 0, locals := 0 }) [.ref h, .int x] f (fun (r : Int32) (f1 : hm) => ∃ (g : Nat → Int32), nI n = r ∧ (∀ i, i < n → g i = c 25 i) ∧ mo k f1 h ad sk (upd v 24 (nI n)) (va_up c 23 g) ∧ mo_fr h ad f f1) 0 0 := by
  refine hm_enter (Qc := fun sz => va_Qi _ (hm_R D vwCl (tyL k) f sz) (hm_A f sz)) (by decide) rfl (Nat.le_of_ble_eq_true rfl) ?_
  intro p e s m below meth cd ls X0 hr hlk hin hK hM hS hA hl Q hQ
  have X : CallFix p m cd b_GrantServerModel_take 3 s ([.ref h, .int x] : List Value).toArray TB R_GrantServerModel := ⟨X0.1, X0.2.1, X0.2.2.1, X0.2.2.2.1, fun w h => X0.2.2.2.2 w (List.mem_cons_of_mem _ h)⟩
  have hx := X.1; have hb := X.2.1; have hml := X.2.2.1; have hown := X.2.2.2.1; have hts := X.2.2.2.2
  have hl : lv_has ls 3 [(0, .ref h), (1, .int x)] := hl
  have hfr : mo_fr h ad f f := mo_fr.rf
  refine lv_aload_n hx hb d_GrantServerModel_take_0 rfl (lv_at hl 0 rfl) ?_
  refine lv_iload_n hx hb d_GrantServerModel_take_1 rfl (lv_at hl 1 rfl) ?_
  refine lv_if_eq (tgt := 12) hx hb d_GrantServerModel_take_2 (by decide) (fun h1 => ?_) (fun h1 => ?_)
  · refine lv_iconst (v := 0) hx hb d_GrantServerModel_take_12 (by decide) ?_
    refine hm_top (z := nI n) (by rw [hn]; rfl) ?_
    refine hm_put X hK hM hS (fs' := moV sk (upd v 24 (nI n)) ad) hmo.1 fl_GrantServerModel_175 rfl rfl (Nat.le_of_ble_eq_true rfl) rfl d_GrantServerModel_take_13 (fun f2 H locs e3 hM hS => ?_)
    have hfr := hfr.put e3; have hmo : mo k f2 h ad sk (upd v 24 (nI n)) c := hmo.put e3
    refine lv_iconst (v := 0) hx hb d_GrantServerModel_take_16 (by decide) ?_
    refine lv_istore_n (lv' := [(2, .int 0), (0, .ref h), (1, .int x)]) hx hb d_GrantServerModel_take_17 rfl hl (by decide) rfl (fun ls hl => ?_)
    have loop18 : ∀ (fu : Nat) (j : Nat) (g : Nat → Int32) (fL : hm) (H : Heap) (locs : List Loc) (ls : Array Slot) (hmu : n - j < fu) (hj : j ≤ n) (hg : ∀ i, i < j → g i = c 25 i) (hmo : mo k fL h ad sk (upd v 24 (nI n)) (va_up c 23 g)) (hfr : mo_fr h ad f fL) (hM : hm_W D vwCl (hm_A f s.heap.size) fL H) (hS : va_S (hm_A f s.heap.size) s.heap H locs) (hl : lv_has ls 3 [(0, .ref h), (1, .int x), (2, .int (nI j))]), W p l e ({ frames := 0, cells := 0, slots := 0, locals := 0 }) s m ([.ref h, .int x] : List Value).toArray below meth cd H locs 0 0 Q (F0 m 18 ls []) := by
      intro fu
      induction fu with
      | zero => intro j g fL H locs ls hmu; exact absurd hmu (Nat.not_lt_zero _)
      | succ fu ih =>
        intro j g fL H locs ls hmu hj hg  hmo hfr hM hS hl
        refine lv_iload_n hx hb d_GrantServerModel_take_18 rfl (lv_at hl 2 rfl) ?_
        refine lv_aload_n hx hb d_GrantServerModel_take_19 rfl (lv_at hl 0 rfl) ?_
        refine hm_get X hK hM hmo.1 fl_GrantServerModel_175 (v := .int (nI n)) rfl d_GrantServerModel_take_20 ?_
        refine lv_icmp_ge (tgt := 44) hx hb d_GrantServerModel_take_23 (by decide) (fun h4 => ?_) (fun h4 => ?_)
        · have hge : n ≤ j := by have z := h4; rw [nI_leI (by omega) (by omega)] at z; omega
          refine lv_aload_n hx hb d_GrantServerModel_take_44 rfl (lv_at hl 0 rfl) ?_
          refine hm_get X hK hM hmo.1 fl_GrantServerModel_175 (v := .int (nI n)) rfl d_GrantServerModel_take_45 ?_
          exact hm_iret X hQ hr hlk hK hM hS d_GrantServerModel_take_48 ⟨g, rfl, (fun i hi => hg i (by omega)), hmo, hfr⟩
        · have hlt : j < n := by have z := h4; rw [nI_leI (by omega) (by omega)] at z; omega
          refine lv_aload_n hx hb d_GrantServerModel_take_26 rfl (lv_at hl 0 rfl) ?_
          refine hm_get X hK hM hmo.1 fl_GrantServerModel_57 (v := .ref (ad 23)) rfl d_GrantServerModel_take_27 ?_
          refine lv_iload_n hx hb d_GrantServerModel_take_30 rfl (lv_at hl 2 rfl) ?_
          refine lv_aload_n hx hb d_GrantServerModel_take_31 rfl (lv_at hl 0 rfl) ?_
          refine hm_get X hK hM hmo.1 fl_GrantServerModel_60 (v := .ref (ad 25)) rfl d_GrantServerModel_take_32 ?_
          refine lv_iload_n hx hb d_GrantServerModel_take_35 rfl (lv_at hl 2 rfl) ?_
          have g5 : fL (ad 25) = some (.inl (k 0, 120, .inl (c 25))) := hmo.arr 25 (by decide) (by decide)
          refine hm_iald X hK hM g5 0 rfl j rfl (by omega) (by decide) d_GrantServerModel_take_36 ?_
          have g6 : fL (ad 23) = some (.inl (k 0, 120, .inl g)) := hmo.arr 23 (by decide) (by decide)
          refine hm_iast X hK hM hS g6 0 rfl j rfl (by omega) (by decide) d_GrantServerModel_take_37 (fun f7 H locs e8 hM hS => ?_)
          have hfr := hfr.ast 23 (by decide) (by decide) e8; have hmo : mo k f7 h ad sk (upd v 24 (nI n)) (va_up (va_up c 23 g) 23 (upd g j ((c 25) j))) := hmo.ast 23 (by decide) (by decide) e8
          refine lv_iinc (lv' := [(2, .int (nI (j + 1))), (0, .ref h), (1, .int x)]) hx hb d_GrantServerModel_take_38 hl (k := 2) rfl (hm_inc _) (by decide) rfl (fun ls hl => ?_)
          refine lv_goto (tgt := 18) hx hb d_GrantServerModel_take_41 (by decide) ?_
          exact ih (j + 1) (upd g j (c 25 j)) f7 H locs ls (by omega) (by omega) (fun i hi => by by_cases e : i = j <;> simp [upd, e]; exact hg i (by omega))  (hmo.cv rfl (bx_uu _ _ _ _).symm) hfr hM hS (lv_sub hl [1, 2, 0] rfl)
    exact loop18 _ 0 (c 23) f2 H locs ls (Nat.lt_succ_self _) (Nat.zero_le _) (fun i h => absurd h (Nat.not_lt_zero _))  (hmo.cv rfl (va_up_id _ _)) hfr hM hS (lv_sub hl [1, 2, 0] rfl)
  · exact absurd hx9 h1
set_option maxHeartbeats 4000000 in
set_option maxRecDepth 100000 in
theorem m_c_letter (l : Launch) (D : va_G) (k : Nat → ClassId) (f : hm) (h : Nat) (ad : Nat → Nat) (sk : Int64) (v : Nat → Int32) (c : Nat → Nat → Int32) (x : Int32) (i : Int32) (n : Nat) (hmo : mo k f h ad sk v c) (hn : (if x = 0 then v 24 else v 26) = nI n) (hn9 : n ≤ 120) : hm_Mi l D vwCl (tyL k) y_GrantServerModel_letter (Cond.code y_GrantServerModel_letter b_GrantServerModel_letter 3 (some .int) :: TB) ({ frames := 0, cells := 0, slots := 0, locals := 0 }) [.ref h, .int x, .int i] f (fun (r : Int32) (f1 : hm) => m_letter (v 24) (v 26) (c 23) (c 25) x i = r ∧ f = f1) 0 0 := by
  refine hm_enter (Qc := fun sz => va_Qi _ (hm_R D vwCl (tyL k) f sz) (hm_A f sz)) (by decide) rfl (Nat.le_of_ble_eq_true rfl) ?_
  intro p e s m below meth cd ls X0 hr hlk hin hK hM hS hA hl Q hQ
  have X : CallFix p m cd b_GrantServerModel_letter 3 s ([.ref h, .int x, .int i] : List Value).toArray TB R_GrantServerModel := ⟨X0.1, X0.2.1, X0.2.2.1, X0.2.2.2.1, fun w h => X0.2.2.2.2 w (List.mem_cons_of_mem _ h)⟩
  have hx := X.1; have hb := X.2.1; have hml := X.2.2.1; have hown := X.2.2.2.1; have hts := X.2.2.2.2
  have hl : lv_has ls 3 [(0, .ref h), (1, .int x), (2, .int i)] := hl
  have hfr : mo_fr h ad f f := mo_fr.rf
  refine lv_iload_n hx hb d_GrantServerModel_letter_0 rfl (lv_at hl 2 rfl) ?_
  refine lv_if_lt (tgt := 23) hx hb d_GrantServerModel_letter_1 (by decide) (fun h1 => ?_) (fun h1 => ?_)
  · refine lv_iconst (v := (-1)) hx hb d_GrantServerModel_letter_23 (by decide) ?_
    exact hm_iret X hQ hr hlk hK hM hS d_GrantServerModel_letter_24 ⟨(by simp [m_letter, h1, Int32.not_le.mpr h1]), rfl⟩
  · refine lv_iload_n hx hb d_GrantServerModel_letter_4 rfl (lv_at hl 2 rfl) ?_
    refine lv_iload_n hx hb d_GrantServerModel_letter_5 rfl (lv_at hl 1 rfl) ?_
    refine lv_if_eq (tgt := 16) hx hb d_GrantServerModel_letter_6 (by decide) (fun h2 => ?_) (fun h2 => ?_)
    · refine lv_aload_n hx hb d_GrantServerModel_letter_16 rfl (lv_at hl 0 rfl) ?_
      refine hm_get X hK hM hmo.1 fl_GrantServerModel_175 (v := .int (v 24)) rfl d_GrantServerModel_letter_17 ?_
      refine lv_icmp_lt (tgt := 25) hx hb d_GrantServerModel_letter_20 (by decide) (fun h3 => ?_) (fun h3 => ?_)
      · obtain ⟨j, hj, hij⟩ := hm_ix (n := n) h1 (by rw [← hn]; simp [h2, Int32.not_le.mpr h3]) (by omega)
        refine lv_iload_n hx hb d_GrantServerModel_letter_25 rfl (lv_at hl 1 rfl) ?_
        refine lv_if_eq (tgt := 38) hx hb d_GrantServerModel_letter_26 (by decide) (fun h4 => ?_) (fun h4 => ?_)
        · refine lv_aload_n hx hb d_GrantServerModel_letter_38 rfl (lv_at hl 0 rfl) ?_
          refine hm_get X hK hM hmo.1 fl_GrantServerModel_57 (v := .ref (ad 23)) rfl d_GrantServerModel_letter_39 ?_
          refine lv_iload_n hx hb d_GrantServerModel_letter_42 rfl (lv_at hl 2 rfl) ?_
          have g5 : f (ad 23) = some (.inl (k 0, 120, .inl (c 23))) := hmo.arr 23 (by decide) (by decide)
          refine hm_iald X hK hM g5 0 rfl j hij (by omega) (by decide) d_GrantServerModel_letter_43 ?_
          exact hm_iret X hQ hr hlk hK hM hS d_GrantServerModel_letter_44 ⟨(by have hz := nI_clamp (show j < 2 ^ 31 by omega); simp [m_letter, h1, Int32.not_lt.mp h1, h2, h3, Int32.not_le.mpr h3, h4]; rw [hij, hz]), rfl⟩
        · exact absurd h2 h4
      · refine lv_iconst (v := (-1)) hx hb d_GrantServerModel_letter_23 (by decide) ?_
        exact hm_iret X hQ hr hlk hK hM hS d_GrantServerModel_letter_24 ⟨(by simp [m_letter, h1, Int32.not_lt.mp h1, h2, h3, Int32.not_lt.mp h3]), rfl⟩
    · refine lv_aload_n hx hb d_GrantServerModel_letter_9 rfl (lv_at hl 0 rfl) ?_
      refine hm_get X hK hM hmo.1 fl_GrantServerModel_160 (v := .int (v 26)) rfl d_GrantServerModel_letter_10 ?_
      refine lv_goto (tgt := 20) hx hb d_GrantServerModel_letter_13 (by decide) ?_
      refine lv_icmp_lt (tgt := 25) hx hb d_GrantServerModel_letter_20 (by decide) (fun h3 => ?_) (fun h3 => ?_)
      · obtain ⟨j, hj, hij⟩ := hm_ix (n := n) h1 (by rw [← hn]; simp [h2, Int32.not_le.mpr h3]) (by omega)
        refine lv_iload_n hx hb d_GrantServerModel_letter_25 rfl (lv_at hl 1 rfl) ?_
        refine lv_if_eq (tgt := 38) hx hb d_GrantServerModel_letter_26 (by decide) (fun h4 => ?_) (fun h4 => ?_)
        · exact absurd h4 h2
        · refine lv_aload_n hx hb d_GrantServerModel_letter_29 rfl (lv_at hl 0 rfl) ?_
          refine hm_get X hK hM hmo.1 fl_GrantServerModel_60 (v := .ref (ad 25)) rfl d_GrantServerModel_letter_30 ?_
          refine lv_iload_n hx hb d_GrantServerModel_letter_33 rfl (lv_at hl 2 rfl) ?_
          have g5 : f (ad 25) = some (.inl (k 0, 120, .inl (c 25))) := hmo.arr 25 (by decide) (by decide)
          refine hm_iald X hK hM g5 0 rfl j hij (by omega) (by decide) d_GrantServerModel_letter_34 ?_
          refine lv_goto (tgt := 44) hx hb d_GrantServerModel_letter_35 (by decide) ?_
          exact hm_iret X hQ hr hlk hK hM hS d_GrantServerModel_letter_44 ⟨(by have hz := nI_clamp (show j < 2 ^ 31 by omega); simp [m_letter, h1, Int32.not_lt.mp h1, h2, h3, Int32.not_le.mpr h3, h4]; rw [hij, hz]), rfl⟩
      · refine lv_iconst (v := (-1)) hx hb d_GrantServerModel_letter_23 (by decide) ?_
        exact hm_iret X hQ hr hlk hK hM hS d_GrantServerModel_letter_24 ⟨(by simp [m_letter, h1, Int32.not_lt.mp h1, h2, h3, Int32.not_lt.mp h3]), rfl⟩
set_option maxHeartbeats 4000000 in
set_option maxRecDepth 100000 in
theorem m_c_challenge (l : Launch) (D : va_G) (k : Nat → ClassId) (f : hm) (h : Nat) (ad : Nat → Nat) (sk : Int64) (v : Nat → Int32) (c : Nat → Nat → Int32) (n : Nat) (hmo : mo k f h ad sk v c) (hn : v 24 = nI n) (hn9 : n ≤ 120) : hm_Mi l D vwCl (tyL k) y_GrantServerModel_challenge (Cond.code y_GrantServerModel_challenge b_GrantServerModel_challenge 4 (some .int) :: TB) ({ frames := 0, cells := 0, slots := 0, locals := 0 }) [.ref h] f (fun (r : Int32) (f1 : hm) => (m_hash (c 23) n n).toInt32 = r ∧ f = f1) 0 0 := by
  refine hm_enter (Qc := fun sz => va_Qi _ (hm_R D vwCl (tyL k) f sz) (hm_A f sz)) (by decide) rfl (Nat.le_of_ble_eq_true rfl) ?_
  intro p e s m below meth cd ls X0 hr hlk hin hK hM hS hA hl Q hQ
  have X : CallFix p m cd b_GrantServerModel_challenge 4 s ([.ref h] : List Value).toArray TB R_GrantServerModel := ⟨X0.1, X0.2.1, X0.2.2.1, X0.2.2.2.1, fun w h => X0.2.2.2.2 w (List.mem_cons_of_mem _ h)⟩
  have hx := X.1; have hb := X.2.1; have hml := X.2.2.1; have hown := X.2.2.2.1; have hts := X.2.2.2.2
  have hl : lv_has ls 4 [(0, .ref h)] := hl
  have hfr : mo_fr h ad f f := mo_fr.rf
  refine lv_aload_n hx hb d_GrantServerModel_challenge_0 rfl (lv_at hl 0 rfl) ?_
  refine hm_get X hK hM hmo.1 fl_GrantServerModel_175 (v := .int (v 24)) rfl d_GrantServerModel_challenge_1 ?_
  refine hm_top hn ?_
  refine lv_i2l hx hb d_GrantServerModel_challenge_4 rfl ?_
  refine lv_lstore_n (lv' := [(1, .long ((nI n).toInt64)), (0, .ref h)]) hx hb d_GrantServerModel_challenge_5 rfl hl (by decide) rfl (fun ls hl => ?_)
  refine lv_iconst (v := 0) hx hb d_GrantServerModel_challenge_6 (by decide) ?_
  refine lv_istore_n (lv' := [(3, .int 0), (1, .long ((nI n).toInt64)), (0, .ref h)]) hx hb d_GrantServerModel_challenge_7 rfl hl (by decide) rfl (fun ls hl => ?_)
  have loop8 : ∀ (fu : Nat) (j : Nat) (H : Heap) (locs : List Loc) (ls : Array Slot) (hmu : n - j < fu) (hj : j ≤ n) (hM : hm_W D vwCl (hm_A f s.heap.size) f H) (hS : va_S (hm_A f s.heap.size) s.heap H locs) (hl : lv_has ls 4 [(0, .ref h), (1, .long (m_hash (c 23) n j)), (3, .int (nI j))]), W p l e ({ frames := 0, cells := 0, slots := 0, locals := 0 }) s m ([.ref h] : List Value).toArray below meth cd H locs 0 0 Q (F0 m 8 ls []) := by
    intro fu
    induction fu with
    | zero => intro j H locs ls hmu; exact absurd hmu (Nat.not_lt_zero _)
    | succ fu ih =>
      intro j H locs ls hmu hj  hM hS hl
      refine lv_iload_n hx hb d_GrantServerModel_challenge_8 rfl (lv_at hl 2 rfl) ?_
      refine lv_aload_n hx hb d_GrantServerModel_challenge_9 rfl (lv_at hl 0 rfl) ?_
      refine hm_get X hK hM hmo.1 fl_GrantServerModel_175 (v := .int (v 24)) rfl d_GrantServerModel_challenge_10 ?_
      refine hm_top hn ?_
      refine lv_icmp_ge (tgt := 40) hx hb d_GrantServerModel_challenge_13 (by decide) (fun h1 => ?_) (fun h1 => ?_)
      · have hge : j = n := by have z := h1; rw [nI_leI (by omega) (by omega)] at z; omega
        subst hge
        refine lv_lload_n hx hb d_GrantServerModel_challenge_40 rfl (lv_at hl 1 rfl) ?_
        refine lv_l2i hx hb d_GrantServerModel_challenge_41 rfl ?_
        exact hm_iret X hQ hr hlk hK hM hS d_GrantServerModel_challenge_42 ⟨rfl, rfl⟩
      · have hlt : j < n := by have z := h1; rw [nI_leI (by omega) (by omega)] at z; omega
        refine lv_lload_n hx hb d_GrantServerModel_challenge_16 rfl (lv_at hl 1 rfl) ?_
        refine lv_ldc2 (v := 1000003) hx hb hown (hts _ wc_GrantServerModel_181) d_GrantServerModel_challenge_17 ?_
        refine lv_lmul hx hb d_GrantServerModel_challenge_20 ?_
        refine lv_aload_n hx hb d_GrantServerModel_challenge_21 rfl (lv_at hl 0 rfl) ?_
        refine hm_get X hK hM hmo.1 fl_GrantServerModel_57 (v := .ref (ad 23)) rfl d_GrantServerModel_challenge_22 ?_
        refine lv_iload_n hx hb d_GrantServerModel_challenge_25 rfl (lv_at hl 2 rfl) ?_
        have g2 : f (ad 23) = some (.inl (k 0, 120, .inl (c 23))) := hmo.arr 23 (by decide) (by decide)
        refine hm_iald X hK hM g2 0 rfl j rfl (by omega) (by decide) d_GrantServerModel_challenge_26 ?_
        refine lv_i2l hx hb d_GrantServerModel_challenge_27 rfl ?_
        refine lv_ladd hx hb d_GrantServerModel_challenge_28 ?_
        refine lv_ldc2 (v := 1073741823) hx hb hown (hts _ wc_GrantServerModel_183) d_GrantServerModel_challenge_29 ?_
        refine lv_land hx hb d_GrantServerModel_challenge_32 ?_
        refine lv_lstore_n (lv' := [(1, .long ((((m_hash (c 23) n j) * 1000003) + (((c 23) j).toInt64)) &&& 1073741823)), (0, .ref h), (3, .int (nI j))]) hx hb d_GrantServerModel_challenge_33 rfl hl (by decide) rfl (fun ls hl => ?_)
        refine lv_iinc (lv' := [(3, .int (nI (j + 1))), (1, .long ((((m_hash (c 23) n j) * 1000003) + (((c 23) j).toInt64)) &&& 1073741823)), (0, .ref h)]) hx hb d_GrantServerModel_challenge_34 hl (k := 2) rfl (hm_inc _) (by decide) rfl (fun ls hl => ?_)
        refine lv_goto (tgt := 8) hx hb d_GrantServerModel_challenge_37 (by decide) ?_
        exact ih (j + 1)  H locs ls (by omega) (by omega)  hM hS (lv_sub hl [2, 1, 0] rfl)
  exact loop8 _ 0  s.heap [] ls (Nat.lt_succ_self _) (Nat.zero_le _)  hM hS (lv_sub hl [2, 1, 0] rfl)
end
section
section HMM
variable {p : Program} {l : Launch} {e : Env} {R : Room} {s : State} {m : MethodId} {args : Array Value} {below : List Frame} {meth : Method} {c : Code} {H : Heap} {locs : List Loc} {cells slots : Nat} {Q : State → Prop}
variable {cc : ByteArray} {pc : Nat} {ls : Array Slot} {rest : List Value} {D : va_G} {cl : List vw_C} {A : Nat → Prop} {a a0 : Nat} {tys : List (ClassId × FieldType)} {H0 : Heap} {f : hm} {nL : Nat} {Ts : List Cond} {own : String}
theorem hm_topq {o z : Option Nat} (h : o = z) (k : W p l e R s m args below meth c H locs cells slots Q (F0 m pc ls (va_rf z :: rest))) : W p l e R s m args below meth c H locs cells slots Q (F0 m pc ls (va_rf o :: rest)) := h ▸ k
theorem hm_copyc (X : CallFix p m c cc nL s args Ts own) (hK : hm_K D cl tys s) (hM : hm_W D cl A f H) (hS : va_S A H0 H locs) {cA : ClassId} {n0 n1 n : Nat} {x y : Nat → Int32} (he0 : f a0 = some (.inl (cA, n0, .inl x))) (he1 : f a = some (.inl (cA, n1, .inl y))) (t0 : Nat) (ht : tys[t0]? = some (cA, .char)) (h0 : n ≤ n0) (h1 : n ≤ n1) (h31 : n < 2 ^ 31) (hfit : ∀ i, i < n → fits .char (.int (x i)) = true)
    {index : Nat} (hlk : Cond.methodLink own index arraycopyName ∈ Ts) (hnat : Cond.native arraycopyName ∈ Ts) (hst : Cond.static arraycopyName ∈ Ts) (hini : Cond.initialized "java/lang/System" ∈ Ts) (hfr : 1 ≤ R.frames) (hlo : (rest.map fun v => v.category).sum + (nativeFrameWords "java/lang/System" "arraycopy" 5 + 11) ≤ R.locals) (hl : ls.size = nL) (hdg : decode cc pc = .ok (.invokestatic index, 3))
    (kk : ∀ (f1 : hm) (H1 : Heap) (locs1 : List Loc), f1 = hm_up f a (.inl (cA, n1, .inl (va_cpy x y 0 0 n))) → hm_W D cl A f1 H1 → va_S A H0 H1 locs1 → W p l e R s m args below meth c H1 locs1 cells slots Q (F0 m (pc + 3) ls rest)) : W p l e R s m args below meth c H locs cells slots Q (F0 m pc ls (.int (nI n) :: .int 0 :: .ref a :: .int 0 :: .ref a0 :: rest)) := by
  obtain ⟨hx, hb, hml, hown, hts⟩ := X
  obtain ⟨hK, hAO⟩ := hK
  obtain ⟨ws, hP, hD, hok⟩ := hM
  obtain ⟨q0, hq0⟩ := (hok _ _).mp he0
  obtain ⟨q1, hq1⟩ := (hok _ _).mp he1
  have z0 : (0 : Int32).toNatClampNeg = 0 := rfl
  have zn : (nI n).toNatClampNeg = n := nI_clamp h31
  refine va_copyi hx hb (hml.trans hl.symm) hown (hts _ hlk) (hts _ hnat) (hts _ hst) (hts _ hini) hK hP hD hS q0 q1 t0 t0 hq0 hq1 ht ht rfl (by decide) (by decide) (nI_pos h31) (by rw [z0, zn]; omega) (by rw [z0, zn]; omega) (by rw [zn, z0]; intro i hi; rw [Nat.zero_add]; exact hfit i hi) hfr hlo hdg (fun H1 locs1 hP1 hD1 hS1 => ?_)
  rw [z0, zn] at hP1 hD1
  exact kk _ H1 locs1 rfl ⟨_, hP1, hD1, hok.set _ hD hq1⟩ hS1
end HMM
/-- the first row, from j on, of t rows, whose number is x -/
def z_fi (w : Nat → Nat → Int32) (x : Int32) : Nat → Nat → Option Nat
  | 0, _ => none
  | t + 1, j => if w j 0 = x then some j else z_fi w x t (j + 1)
theorem z_fi_some {w : Nat → Nat → Int32} {x : Int32} : ∀ {t j i : Nat}, z_fi w x t j = some i → j ≤ i ∧ i < j + t ∧ w i 0 = x := by
  intro t
  induction t with
  | zero => intro j i h; simp [z_fi] at h
  | succ t ih =>
    intro j i h
    unfold z_fi at h
    split at h
    · cases h
      refine ⟨Nat.le_refl _, by omega, by assumption⟩
    · obtain ⟨a, b, d⟩ := ih h
      exact ⟨by omega, by omega, d⟩
/-- how many of the first j rows are active at time t -/
def z_cn (w : Nat → Nat → Int32) (m1 : Nat → Option Nat) (fv : Nat → Int32) (t : Int32) : Nat → Nat
  | 0 => 0
  | j + 1 => z_cn w m1 fv t j + (if z_act (w j) (m1 j) (fv j) t = 0 then 0 else 1)
theorem z_act_01 (w : Nat → Int32) (m1 : Option Nat) (fv x : Int32) : z_act w m1 fv x = 0 ∨ z_act w m1 fv x = 1 := by
  unfold z_act
  split
  · exact Or.inl rfl
  · exact Or.inr rfl
theorem z_act_b {w : Nat → Int32} {m1 : Option Nat} {fv x : Int32} (h : ¬ z_act w m1 fv x = 0) : z_act w m1 fv x = 1 := (z_act_01 w m1 fv x).resolve_left h
def z_shelf (ad : Nat → Nat) (x : Int32) : Option Nat := if x = 0 then some (ad 4) else if x = 1 then some (ad 5) else if x = 2 then some (ad 6) else none
theorem hm_sw3 {x : Int32} (h0 : ¬ x = 0) (h1 : ¬ x = 1) (h2 : ¬ x = 2) : x.toInt < 0 ∨ 2 < x.toInt := by
  have a0 := lv_neT (k := 0) (a := 0) h0 rfl
  have a1 := lv_neT (k := 1) (a := 1) h1 rfl
  have a2 := lv_neT (k := 2) (a := 2) h2 rfl
  omega
end
section
theorem d_GrantServer_authorize_0 : decode b_GrantServer_authorize 0 = .ok (.aload_n 0, 1) := by decide +kernel
theorem d_GrantServer_authorize_1 : decode b_GrantServer_authorize 1 = .ok (.iload_n 1, 1) := by decide +kernel
theorem d_GrantServer_authorize_2 : decode b_GrantServer_authorize 2 = .ok (.invokevirtual 90, 3) := by decide +kernel
theorem d_GrantServer_authorize_5 : decode b_GrantServer_authorize 5 = .ok (.astore 6, 2) := by decide +kernel
theorem d_GrantServer_authorize_7 : decode b_GrantServer_authorize 7 = .ok (.aload 6, 2) := by decide +kernel
theorem d_GrantServer_authorize_9 : decode b_GrantServer_authorize 9 = .ok (.ifnull 15, 3) := by decide +kernel
theorem d_GrantServer_authorize_12 : decode b_GrantServer_authorize 12 = .ok (.iload 4, 2) := by decide +kernel
theorem d_GrantServer_authorize_14 : decode b_GrantServer_authorize 14 = .ok (.ifCond .lt 10, 3) := by decide +kernel
theorem d_GrantServer_authorize_17 : decode b_GrantServer_authorize 17 = .ok (.iload 4, 2) := by decide +kernel
theorem d_GrantServer_authorize_19 : decode b_GrantServer_authorize 19 = .ok (.ldc 97, 2) := by decide +kernel
theorem d_GrantServer_authorize_21 : decode b_GrantServer_authorize 21 = .ok (.if_icmp .le 5, 3) := by decide +kernel
theorem d_GrantServer_authorize_24 : decode b_GrantServer_authorize 24 = .ok (.iconst (-1), 1) := by decide +kernel
theorem d_GrantServer_authorize_25 : decode b_GrantServer_authorize 25 = .ok (.ireturn, 1) := by decide +kernel
theorem d_GrantServer_authorize_26 : decode b_GrantServer_authorize 26 = .ok (.aload 6, 2) := by decide +kernel
theorem d_GrantServer_authorize_28 : decode b_GrantServer_authorize 28 = .ok (.getfield 98, 3) := by decide +kernel
theorem d_GrantServer_authorize_31 : decode b_GrantServer_authorize 31 = .ok (.iload_n 2, 1) := by decide +kernel
theorem d_GrantServer_authorize_32 : decode b_GrantServer_authorize 32 = .ok (.if_icmp .eq 6, 3) := by decide +kernel
theorem d_GrantServer_authorize_35 : decode b_GrantServer_authorize 35 = .ok (.bipush (-13), 2) := by decide +kernel
theorem d_GrantServer_authorize_37 : decode b_GrantServer_authorize 37 = .ok (.ireturn, 1) := by decide +kernel
theorem d_GrantServer_authorize_38 : decode b_GrantServer_authorize 38 = .ok (.iload_n 3, 1) := by decide +kernel
theorem d_GrantServer_authorize_39 : decode b_GrantServer_authorize 39 = .ok (.invokestatic 83, 3) := by decide +kernel
theorem d_GrantServer_authorize_42 : decode b_GrantServer_authorize 42 = .ok (.ifCond .eq 15, 3) := by decide +kernel
theorem d_GrantServer_authorize_45 : decode b_GrantServer_authorize 45 = .ok (.iload_n 3, 1) := by decide +kernel
theorem d_GrantServer_authorize_46 : decode b_GrantServer_authorize 46 = .ok (.aload 6, 2) := by decide +kernel
theorem d_GrantServer_authorize_48 : decode b_GrantServer_authorize 48 = .ok (.getfield 101, 3) := by decide +kernel
theorem d_GrantServer_authorize_51 : decode b_GrantServer_authorize 51 = .ok (.invokestatic 104, 3) := by decide +kernel
theorem d_GrantServer_authorize_54 : decode b_GrantServer_authorize 54 = .ok (.ifCond .ne 6, 3) := by decide +kernel
theorem d_GrantServer_authorize_57 : decode b_GrantServer_authorize 57 = .ok (.bipush (-4), 2) := by decide +kernel
theorem d_GrantServer_authorize_59 : decode b_GrantServer_authorize 59 = .ok (.ireturn, 1) := by decide +kernel
theorem d_GrantServer_authorize_60 : decode b_GrantServer_authorize 60 = .ok (.aload_n 0, 1) := by decide +kernel
theorem d_GrantServer_authorize_61 : decode b_GrantServer_authorize 61 = .ok (.iload 5, 2) := by decide +kernel
theorem d_GrantServer_authorize_63 : decode b_GrantServer_authorize 63 = .ok (.invokevirtual 108, 3) := by decide +kernel
theorem d_GrantServer_authorize_66 : decode b_GrantServer_authorize 66 = .ok (.ifCond .ne 6, 3) := by decide +kernel
theorem d_GrantServer_authorize_69 : decode b_GrantServer_authorize 69 = .ok (.bipush (-5), 2) := by decide +kernel
theorem d_GrantServer_authorize_71 : decode b_GrantServer_authorize 71 = .ok (.ireturn, 1) := by decide +kernel
theorem d_GrantServer_authorize_72 : decode b_GrantServer_authorize 72 = .ok (.aload_n 0, 1) := by decide +kernel
theorem d_GrantServer_authorize_73 : decode b_GrantServer_authorize 73 = .ok (.getfield 20, 3) := by decide +kernel
theorem d_GrantServer_authorize_76 : decode b_GrantServer_authorize 76 = .ok (.invokevirtual 111, 3) := by decide +kernel
theorem d_GrantServer_authorize_79 : decode b_GrantServer_authorize 79 = .ok (.ifCond .eq 6, 3) := by decide +kernel
theorem d_GrantServer_authorize_82 : decode b_GrantServer_authorize 82 = .ok (.bipush (-6), 2) := by decide +kernel
theorem d_GrantServer_authorize_84 : decode b_GrantServer_authorize 84 = .ok (.ireturn, 1) := by decide +kernel
theorem d_GrantServer_authorize_85 : decode b_GrantServer_authorize 85 = .ok (.aload_n 0, 1) := by decide +kernel
theorem d_GrantServer_authorize_86 : decode b_GrantServer_authorize 86 = .ok (.getfield 20, 3) := by decide +kernel
theorem d_GrantServer_authorize_89 : decode b_GrantServer_authorize 89 = .ok (.invokevirtual 115, 3) := by decide +kernel
theorem d_GrantServer_authorize_92 : decode b_GrantServer_authorize 92 = .ok (.astore 7, 2) := by decide +kernel
theorem d_GrantServer_authorize_94 : decode b_GrantServer_authorize 94 = .ok (.aload 7, 2) := by decide +kernel
theorem d_GrantServer_authorize_96 : decode b_GrantServer_authorize 96 = .ok (.iload 5, 2) := by decide +kernel
theorem d_GrantServer_authorize_98 : decode b_GrantServer_authorize 98 = .ok (.iload_n 1, 1) := by decide +kernel
theorem d_GrantServer_authorize_99 : decode b_GrantServer_authorize 99 = .ok (.iload_n 3, 1) := by decide +kernel
theorem d_GrantServer_authorize_100 : decode b_GrantServer_authorize 100 = .ok (.aload_n 0, 1) := by decide +kernel
theorem d_GrantServer_authorize_101 : decode b_GrantServer_authorize 101 = .ok (.getfield 60, 3) := by decide +kernel
theorem d_GrantServer_authorize_104 : decode b_GrantServer_authorize 104 = .ok (.aload_n 0, 1) := by decide +kernel
theorem d_GrantServer_authorize_105 : decode b_GrantServer_authorize 105 = .ok (.getfield 74, 3) := by decide +kernel
theorem d_GrantServer_authorize_108 : decode b_GrantServer_authorize 108 = .ok (.iadd, 1) := by decide +kernel
theorem d_GrantServer_authorize_109 : decode b_GrantServer_authorize 109 = .ok (.aconst_null, 1) := by decide +kernel
theorem d_GrantServer_authorize_110 : decode b_GrantServer_authorize 110 = .ok (.invokevirtual 119, 3) := by decide +kernel
theorem d_GrantServer_authorize_113 : decode b_GrantServer_authorize 113 = .ok (.aload 7, 2) := by decide +kernel
theorem d_GrantServer_authorize_115 : decode b_GrantServer_authorize 115 = .ok (.iload_n 2, 1) := by decide +kernel
theorem d_GrantServer_authorize_116 : decode b_GrantServer_authorize 116 = .ok (.putfield 125, 3) := by decide +kernel
theorem d_GrantServer_authorize_119 : decode b_GrantServer_authorize 119 = .ok (.aload 7, 2) := by decide +kernel
theorem d_GrantServer_authorize_121 : decode b_GrantServer_authorize 121 = .ok (.iload 4, 2) := by decide +kernel
theorem d_GrantServer_authorize_123 : decode b_GrantServer_authorize 123 = .ok (.putfield 126, 3) := by decide +kernel
theorem d_GrantServer_authorize_126 : decode b_GrantServer_authorize 126 = .ok (.iconst 0, 1) := by decide +kernel
theorem d_GrantServer_authorize_127 : decode b_GrantServer_authorize 127 = .ok (.ireturn, 1) := by decide +kernel
theorem d_GrantServer_exchange_0 : decode b_GrantServer_exchange 0 = .ok (.aload_n 0, 1) := by decide +kernel
theorem d_GrantServer_exchange_1 : decode b_GrantServer_exchange 1 = .ok (.getfield 54, 3) := by decide +kernel
theorem d_GrantServer_exchange_4 : decode b_GrantServer_exchange 4 = .ok (.iconst (-1), 1) := by decide +kernel
theorem d_GrantServer_exchange_5 : decode b_GrantServer_exchange 5 = .ok (.if_icmp .ne 6, 3) := by decide +kernel
theorem d_GrantServer_exchange_8 : decode b_GrantServer_exchange 8 = .ok (.bipush (-2), 2) := by decide +kernel
theorem d_GrantServer_exchange_10 : decode b_GrantServer_exchange 10 = .ok (.ireturn, 1) := by decide +kernel
theorem d_GrantServer_exchange_11 : decode b_GrantServer_exchange 11 = .ok (.iload_n 3, 1) := by decide +kernel
theorem d_GrantServer_exchange_12 : decode b_GrantServer_exchange 12 = .ok (.ifCond .lt 8, 3) := by decide +kernel
theorem d_GrantServer_exchange_15 : decode b_GrantServer_exchange 15 = .ok (.iload_n 3, 1) := by decide +kernel
theorem d_GrantServer_exchange_16 : decode b_GrantServer_exchange 16 = .ok (.iconst 3, 1) := by decide +kernel
theorem d_GrantServer_exchange_17 : decode b_GrantServer_exchange 17 = .ok (.if_icmp .le 5, 3) := by decide +kernel
theorem d_GrantServer_exchange_20 : decode b_GrantServer_exchange 20 = .ok (.iconst (-1), 1) := by decide +kernel
theorem d_GrantServer_exchange_21 : decode b_GrantServer_exchange 21 = .ok (.ireturn, 1) := by decide +kernel
theorem d_GrantServer_exchange_22 : decode b_GrantServer_exchange 22 = .ok (.aload_n 0, 1) := by decide +kernel
theorem d_GrantServer_exchange_23 : decode b_GrantServer_exchange 23 = .ok (.getfield 20, 3) := by decide +kernel
theorem d_GrantServer_exchange_26 : decode b_GrantServer_exchange 26 = .ok (.iload_n 1, 1) := by decide +kernel
theorem d_GrantServer_exchange_27 : decode b_GrantServer_exchange 27 = .ok (.aload_n 0, 1) := by decide +kernel
theorem d_GrantServer_exchange_28 : decode b_GrantServer_exchange 28 = .ok (.getfield 54, 3) := by decide +kernel
theorem d_GrantServer_exchange_31 : decode b_GrantServer_exchange 31 = .ok (.invokevirtual 129, 3) := by decide +kernel
theorem d_GrantServer_exchange_34 : decode b_GrantServer_exchange 34 = .ok (.astore 5, 2) := by decide +kernel
theorem d_GrantServer_exchange_36 : decode b_GrantServer_exchange 36 = .ok (.aload 5, 2) := by decide +kernel
theorem d_GrantServer_exchange_38 : decode b_GrantServer_exchange 38 = .ok (.ifnonnull 6, 3) := by decide +kernel
theorem d_GrantServer_exchange_41 : decode b_GrantServer_exchange 41 = .ok (.bipush (-3), 2) := by decide +kernel
theorem d_GrantServer_exchange_43 : decode b_GrantServer_exchange 43 = .ok (.ireturn, 1) := by decide +kernel
theorem d_GrantServer_exchange_44 : decode b_GrantServer_exchange 44 = .ok (.aload 5, 2) := by decide +kernel
theorem d_GrantServer_exchange_46 : decode b_GrantServer_exchange 46 = .ok (.getfield 133, 3) := by decide +kernel
theorem d_GrantServer_exchange_49 : decode b_GrantServer_exchange 49 = .ok (.ifCond .eq 11, 3) := by decide +kernel
theorem d_GrantServer_exchange_52 : decode b_GrantServer_exchange 52 = .ok (.aload 5, 2) := by decide +kernel
theorem d_GrantServer_exchange_54 : decode b_GrantServer_exchange 54 = .ok (.invokevirtual 137, 3) := by decide +kernel
theorem d_GrantServer_exchange_57 : decode b_GrantServer_exchange 57 = .ok (.bipush (-3), 2) := by decide +kernel
theorem d_GrantServer_exchange_59 : decode b_GrantServer_exchange 59 = .ok (.ireturn, 1) := by decide +kernel
theorem d_GrantServer_exchange_60 : decode b_GrantServer_exchange 60 = .ok (.aload 5, 2) := by decide +kernel
theorem d_GrantServer_exchange_62 : decode b_GrantServer_exchange 62 = .ok (.aload_n 0, 1) := by decide +kernel
theorem d_GrantServer_exchange_63 : decode b_GrantServer_exchange 63 = .ok (.getfield 60, 3) := by decide +kernel
theorem d_GrantServer_exchange_66 : decode b_GrantServer_exchange 66 = .ok (.invokevirtual 140, 3) := by decide +kernel
theorem d_GrantServer_exchange_69 : decode b_GrantServer_exchange 69 = .ok (.ifCond .eq 27, 3) := by decide +kernel
theorem d_GrantServer_exchange_72 : decode b_GrantServer_exchange 72 = .ok (.aload 5, 2) := by decide +kernel
theorem d_GrantServer_exchange_74 : decode b_GrantServer_exchange 74 = .ok (.getfield 125, 3) := by decide +kernel
theorem d_GrantServer_exchange_77 : decode b_GrantServer_exchange 77 = .ok (.iload_n 2, 1) := by decide +kernel
theorem d_GrantServer_exchange_78 : decode b_GrantServer_exchange 78 = .ok (.if_icmp .ne 18, 3) := by decide +kernel
theorem d_GrantServer_exchange_81 : decode b_GrantServer_exchange 81 = .ok (.aload 5, 2) := by decide +kernel
theorem d_GrantServer_exchange_83 : decode b_GrantServer_exchange 83 = .ok (.getfield 126, 3) := by decide +kernel
theorem d_GrantServer_exchange_86 : decode b_GrantServer_exchange 86 = .ok (.aload_n 0, 1) := by decide +kernel
theorem d_GrantServer_exchange_87 : decode b_GrantServer_exchange 87 = .ok (.getfield 33, 3) := by decide +kernel
theorem d_GrantServer_exchange_90 : decode b_GrantServer_exchange 90 = .ok (.invokevirtual 143, 3) := by decide +kernel
theorem d_GrantServer_exchange_93 : decode b_GrantServer_exchange 93 = .ok (.if_icmp .eq 6, 3) := by decide +kernel
theorem d_GrantServer_exchange_96 : decode b_GrantServer_exchange 96 = .ok (.bipush (-3), 2) := by decide +kernel
theorem d_GrantServer_exchange_98 : decode b_GrantServer_exchange 98 = .ok (.ireturn, 1) := by decide +kernel
theorem d_GrantServer_exchange_99 : decode b_GrantServer_exchange 99 = .ok (.aload_n 0, 1) := by decide +kernel
theorem d_GrantServer_exchange_100 : decode b_GrantServer_exchange 100 = .ok (.iload 4, 2) := by decide +kernel
theorem d_GrantServer_exchange_102 : decode b_GrantServer_exchange 102 = .ok (.invokevirtual 147, 3) := by decide +kernel
theorem d_GrantServer_exchange_105 : decode b_GrantServer_exchange 105 = .ok (.istore 6, 2) := by decide +kernel
theorem d_GrantServer_exchange_107 : decode b_GrantServer_exchange 107 = .ok (.iload 6, 2) := by decide +kernel
theorem d_GrantServer_exchange_109 : decode b_GrantServer_exchange 109 = .ok (.ifCond .eq 6, 3) := by decide +kernel
theorem d_GrantServer_exchange_112 : decode b_GrantServer_exchange 112 = .ok (.iload 6, 2) := by decide +kernel
theorem d_GrantServer_exchange_114 : decode b_GrantServer_exchange 114 = .ok (.ireturn, 1) := by decide +kernel
theorem d_GrantServer_exchange_115 : decode b_GrantServer_exchange 115 = .ok (.new 150, 3) := by decide +kernel
theorem d_GrantServer_exchange_118 : decode b_GrantServer_exchange 118 = .ok (.dup, 1) := by decide +kernel
theorem d_GrantServer_exchange_119 : decode b_GrantServer_exchange 119 = .ok (.aload 5, 2) := by decide +kernel
theorem d_GrantServer_exchange_121 : decode b_GrantServer_exchange 121 = .ok (.getfield 152, 3) := by decide +kernel
theorem d_GrantServer_exchange_124 : decode b_GrantServer_exchange 124 = .ok (.iload_n 3, 1) := by decide +kernel
theorem d_GrantServer_exchange_125 : decode b_GrantServer_exchange 125 = .ok (.invokespecial 153, 3) := by decide +kernel
theorem d_GrantServer_exchange_128 : decode b_GrantServer_exchange 128 = .ok (.astore 7, 2) := by decide +kernel
theorem d_GrantServer_exchange_130 : decode b_GrantServer_exchange 130 = .ok (.aload 5, 2) := by decide +kernel
theorem d_GrantServer_exchange_132 : decode b_GrantServer_exchange 132 = .ok (.iconst 1, 1) := by decide +kernel
theorem d_GrantServer_exchange_133 : decode b_GrantServer_exchange 133 = .ok (.putfield 133, 3) := by decide +kernel
theorem d_GrantServer_exchange_136 : decode b_GrantServer_exchange 136 = .ok (.aload 5, 2) := by decide +kernel
theorem d_GrantServer_exchange_138 : decode b_GrantServer_exchange 138 = .ok (.aload 7, 2) := by decide +kernel
theorem d_GrantServer_exchange_140 : decode b_GrantServer_exchange 140 = .ok (.putfield 156, 3) := by decide +kernel
theorem d_GrantServer_exchange_143 : decode b_GrantServer_exchange 143 = .ok (.aload_n 0, 1) := by decide +kernel
theorem d_GrantServer_exchange_144 : decode b_GrantServer_exchange 144 = .ok (.aload 7, 2) := by decide +kernel
theorem d_GrantServer_exchange_146 : decode b_GrantServer_exchange 146 = .ok (.aload 5, 2) := by decide +kernel
theorem d_GrantServer_exchange_148 : decode b_GrantServer_exchange 148 = .ok (.getfield 160, 3) := by decide +kernel
theorem d_GrantServer_exchange_151 : decode b_GrantServer_exchange 151 = .ok (.aload 5, 2) := by decide +kernel
theorem d_GrantServer_exchange_153 : decode b_GrantServer_exchange 153 = .ok (.getfield 152, 3) := by decide +kernel
theorem d_GrantServer_exchange_156 : decode b_GrantServer_exchange 156 = .ok (.iload 4, 2) := by decide +kernel
theorem d_GrantServer_exchange_158 : decode b_GrantServer_exchange 158 = .ok (.invokevirtual 163, 3) := by decide +kernel
theorem d_GrantServer_exchange_161 : decode b_GrantServer_exchange 161 = .ok (.ireturn, 1) := by decide +kernel
theorem d_GrantServer_refresh_0 : decode b_GrantServer_refresh 0 = .ok (.aload_n 0, 1) := by decide +kernel
theorem d_GrantServer_refresh_1 : decode b_GrantServer_refresh 1 = .ok (.getfield 54, 3) := by decide +kernel
theorem d_GrantServer_refresh_4 : decode b_GrantServer_refresh 4 = .ok (.iconst (-1), 1) := by decide +kernel
theorem d_GrantServer_refresh_5 : decode b_GrantServer_refresh 5 = .ok (.if_icmp .ne 6, 3) := by decide +kernel
theorem d_GrantServer_refresh_8 : decode b_GrantServer_refresh 8 = .ok (.bipush (-2), 2) := by decide +kernel
theorem d_GrantServer_refresh_10 : decode b_GrantServer_refresh 10 = .ok (.ireturn, 1) := by decide +kernel
theorem d_GrantServer_refresh_11 : decode b_GrantServer_refresh 11 = .ok (.aload_n 0, 1) := by decide +kernel
theorem d_GrantServer_refresh_12 : decode b_GrantServer_refresh 12 = .ok (.getfield 24, 3) := by decide +kernel
theorem d_GrantServer_refresh_15 : decode b_GrantServer_refresh 15 = .ok (.iload_n 1, 1) := by decide +kernel
theorem d_GrantServer_refresh_16 : decode b_GrantServer_refresh 16 = .ok (.aload_n 0, 1) := by decide +kernel
theorem d_GrantServer_refresh_17 : decode b_GrantServer_refresh 17 = .ok (.getfield 54, 3) := by decide +kernel
theorem d_GrantServer_refresh_20 : decode b_GrantServer_refresh 20 = .ok (.invokevirtual 129, 3) := by decide +kernel
theorem d_GrantServer_refresh_23 : decode b_GrantServer_refresh 23 = .ok (.astore 4, 2) := by decide +kernel
theorem d_GrantServer_refresh_25 : decode b_GrantServer_refresh 25 = .ok (.aload 4, 2) := by decide +kernel
theorem d_GrantServer_refresh_27 : decode b_GrantServer_refresh 27 = .ok (.ifnonnull 6, 3) := by decide +kernel
theorem d_GrantServer_refresh_30 : decode b_GrantServer_refresh 30 = .ok (.bipush (-3), 2) := by decide +kernel
theorem d_GrantServer_refresh_32 : decode b_GrantServer_refresh 32 = .ok (.ireturn, 1) := by decide +kernel
theorem d_GrantServer_refresh_33 : decode b_GrantServer_refresh 33 = .ok (.aload 4, 2) := by decide +kernel
theorem d_GrantServer_refresh_35 : decode b_GrantServer_refresh 35 = .ok (.getfield 133, 3) := by decide +kernel
theorem d_GrantServer_refresh_38 : decode b_GrantServer_refresh 38 = .ok (.ifCond .eq 11, 3) := by decide +kernel
theorem d_GrantServer_refresh_41 : decode b_GrantServer_refresh 41 = .ok (.aload 4, 2) := by decide +kernel
theorem d_GrantServer_refresh_43 : decode b_GrantServer_refresh 43 = .ok (.invokevirtual 137, 3) := by decide +kernel
theorem d_GrantServer_refresh_46 : decode b_GrantServer_refresh 46 = .ok (.bipush (-3), 2) := by decide +kernel
theorem d_GrantServer_refresh_48 : decode b_GrantServer_refresh 48 = .ok (.ireturn, 1) := by decide +kernel
theorem d_GrantServer_refresh_49 : decode b_GrantServer_refresh 49 = .ok (.aload 4, 2) := by decide +kernel
theorem d_GrantServer_refresh_51 : decode b_GrantServer_refresh 51 = .ok (.getfield 156, 3) := by decide +kernel
theorem d_GrantServer_refresh_54 : decode b_GrantServer_refresh 54 = .ok (.astore 5, 2) := by decide +kernel
theorem d_GrantServer_refresh_56 : decode b_GrantServer_refresh 56 = .ok (.aload 5, 2) := by decide +kernel
theorem d_GrantServer_refresh_58 : decode b_GrantServer_refresh 58 = .ok (.ifnull 15, 3) := by decide +kernel
theorem d_GrantServer_refresh_61 : decode b_GrantServer_refresh 61 = .ok (.aload 4, 2) := by decide +kernel
theorem d_GrantServer_refresh_63 : decode b_GrantServer_refresh 63 = .ok (.aload_n 0, 1) := by decide +kernel
theorem d_GrantServer_refresh_64 : decode b_GrantServer_refresh 64 = .ok (.getfield 60, 3) := by decide +kernel
theorem d_GrantServer_refresh_67 : decode b_GrantServer_refresh 67 = .ok (.invokevirtual 140, 3) := by decide +kernel
theorem d_GrantServer_refresh_70 : decode b_GrantServer_refresh 70 = .ok (.ifCond .ne 6, 3) := by decide +kernel
theorem d_GrantServer_refresh_73 : decode b_GrantServer_refresh 73 = .ok (.bipush (-3), 2) := by decide +kernel
theorem d_GrantServer_refresh_75 : decode b_GrantServer_refresh 75 = .ok (.ireturn, 1) := by decide +kernel
theorem d_GrantServer_refresh_76 : decode b_GrantServer_refresh 76 = .ok (.iload_n 2, 1) := by decide +kernel
theorem d_GrantServer_refresh_77 : decode b_GrantServer_refresh 77 = .ok (.ifCond .lt 21, 3) := by decide +kernel
theorem d_GrantServer_refresh_80 : decode b_GrantServer_refresh 80 = .ok (.iload_n 2, 1) := by decide +kernel
theorem d_GrantServer_refresh_81 : decode b_GrantServer_refresh 81 = .ok (.bipush 15, 2) := by decide +kernel
theorem d_GrantServer_refresh_83 : decode b_GrantServer_refresh 83 = .ok (.if_icmp .gt 15, 3) := by decide +kernel
theorem d_GrantServer_refresh_86 : decode b_GrantServer_refresh 86 = .ok (.iload_n 2, 1) := by decide +kernel
theorem d_GrantServer_refresh_87 : decode b_GrantServer_refresh 87 = .ok (.aload 5, 2) := by decide +kernel
theorem d_GrantServer_refresh_89 : decode b_GrantServer_refresh 89 = .ok (.getfield 167, 3) := by decide +kernel
theorem d_GrantServer_refresh_92 : decode b_GrantServer_refresh 92 = .ok (.invokestatic 104, 3) := by decide +kernel
theorem d_GrantServer_refresh_95 : decode b_GrantServer_refresh 95 = .ok (.ifCond .ne 6, 3) := by decide +kernel
theorem d_GrantServer_refresh_98 : decode b_GrantServer_refresh 98 = .ok (.bipush (-4), 2) := by decide +kernel
theorem d_GrantServer_refresh_100 : decode b_GrantServer_refresh 100 = .ok (.ireturn, 1) := by decide +kernel
theorem d_GrantServer_refresh_101 : decode b_GrantServer_refresh 101 = .ok (.aload_n 0, 1) := by decide +kernel
theorem d_GrantServer_refresh_102 : decode b_GrantServer_refresh 102 = .ok (.iload_n 3, 1) := by decide +kernel
theorem d_GrantServer_refresh_103 : decode b_GrantServer_refresh 103 = .ok (.invokevirtual 147, 3) := by decide +kernel
theorem d_GrantServer_refresh_106 : decode b_GrantServer_refresh 106 = .ok (.istore 6, 2) := by decide +kernel
theorem d_GrantServer_refresh_108 : decode b_GrantServer_refresh 108 = .ok (.iload 6, 2) := by decide +kernel
theorem d_GrantServer_refresh_110 : decode b_GrantServer_refresh 110 = .ok (.ifCond .eq 6, 3) := by decide +kernel
theorem d_GrantServer_refresh_113 : decode b_GrantServer_refresh 113 = .ok (.iload 6, 2) := by decide +kernel
theorem d_GrantServer_refresh_115 : decode b_GrantServer_refresh 115 = .ok (.ireturn, 1) := by decide +kernel
theorem d_GrantServer_refresh_116 : decode b_GrantServer_refresh 116 = .ok (.aload 4, 2) := by decide +kernel
theorem d_GrantServer_refresh_118 : decode b_GrantServer_refresh 118 = .ok (.iconst 1, 1) := by decide +kernel
theorem d_GrantServer_refresh_119 : decode b_GrantServer_refresh 119 = .ok (.putfield 133, 3) := by decide +kernel
theorem d_GrantServer_refresh_122 : decode b_GrantServer_refresh 122 = .ok (.aload_n 0, 1) := by decide +kernel
theorem d_GrantServer_refresh_123 : decode b_GrantServer_refresh 123 = .ok (.aload 5, 2) := by decide +kernel
theorem d_GrantServer_refresh_125 : decode b_GrantServer_refresh 125 = .ok (.aload 4, 2) := by decide +kernel
theorem d_GrantServer_refresh_127 : decode b_GrantServer_refresh 127 = .ok (.getfield 160, 3) := by decide +kernel
theorem d_GrantServer_refresh_130 : decode b_GrantServer_refresh 130 = .ok (.iload_n 2, 1) := by decide +kernel
theorem d_GrantServer_refresh_131 : decode b_GrantServer_refresh 131 = .ok (.ifCond .ne 11, 3) := by decide +kernel
theorem d_GrantServer_refresh_134 : decode b_GrantServer_refresh 134 = .ok (.aload 5, 2) := by decide +kernel
theorem d_GrantServer_refresh_136 : decode b_GrantServer_refresh 136 = .ok (.getfield 167, 3) := by decide +kernel
theorem d_GrantServer_refresh_139 : decode b_GrantServer_refresh 139 = .ok (.goto 4, 3) := by decide +kernel
theorem d_GrantServer_refresh_142 : decode b_GrantServer_refresh 142 = .ok (.iload_n 2, 1) := by decide +kernel
theorem d_GrantServer_refresh_143 : decode b_GrantServer_refresh 143 = .ok (.iload_n 3, 1) := by decide +kernel
theorem d_GrantServer_refresh_144 : decode b_GrantServer_refresh 144 = .ok (.invokevirtual 163, 3) := by decide +kernel
theorem d_GrantServer_refresh_147 : decode b_GrantServer_refresh 147 = .ok (.ireturn, 1) := by decide +kernel
theorem d_GrantServer_revoke_0 : decode b_GrantServer_revoke 0 = .ok (.aload_n 0, 1) := by decide +kernel
theorem d_GrantServer_revoke_1 : decode b_GrantServer_revoke 1 = .ok (.getfield 54, 3) := by decide +kernel
theorem d_GrantServer_revoke_4 : decode b_GrantServer_revoke 4 = .ok (.iconst (-1), 1) := by decide +kernel
theorem d_GrantServer_revoke_5 : decode b_GrantServer_revoke 5 = .ok (.if_icmp .ne 6, 3) := by decide +kernel
theorem d_GrantServer_revoke_8 : decode b_GrantServer_revoke 8 = .ok (.bipush (-2), 2) := by decide +kernel
theorem d_GrantServer_revoke_10 : decode b_GrantServer_revoke 10 = .ok (.ireturn, 1) := by decide +kernel
theorem d_GrantServer_revoke_11 : decode b_GrantServer_revoke 11 = .ok (.iload_n 1, 1) := by decide +kernel
theorem d_GrantServer_revoke_12 : decode b_GrantServer_revoke 12 = .ok (.iconst 1, 1) := by decide +kernel
theorem d_GrantServer_revoke_13 : decode b_GrantServer_revoke 13 = .ok (.if_icmp .eq 10, 3) := by decide +kernel
theorem d_GrantServer_revoke_16 : decode b_GrantServer_revoke 16 = .ok (.iload_n 1, 1) := by decide +kernel
theorem d_GrantServer_revoke_17 : decode b_GrantServer_revoke 17 = .ok (.iconst 2, 1) := by decide +kernel
theorem d_GrantServer_revoke_18 : decode b_GrantServer_revoke 18 = .ok (.if_icmp .eq 5, 3) := by decide +kernel
theorem d_GrantServer_revoke_21 : decode b_GrantServer_revoke 21 = .ok (.iconst (-1), 1) := by decide +kernel
theorem d_GrantServer_revoke_22 : decode b_GrantServer_revoke 22 = .ok (.ireturn, 1) := by decide +kernel
theorem d_GrantServer_revoke_23 : decode b_GrantServer_revoke 23 = .ok (.aload_n 0, 1) := by decide +kernel
theorem d_GrantServer_revoke_24 : decode b_GrantServer_revoke 24 = .ok (.invokevirtual 168, 3) := by decide +kernel
theorem d_GrantServer_revoke_27 : decode b_GrantServer_revoke 27 = .ok (.istore_n 3, 1) := by decide +kernel
theorem d_GrantServer_revoke_28 : decode b_GrantServer_revoke 28 = .ok (.iload_n 1, 1) := by decide +kernel
theorem d_GrantServer_revoke_29 : decode b_GrantServer_revoke 29 = .ok (.iconst 1, 1) := by decide +kernel
theorem d_GrantServer_revoke_30 : decode b_GrantServer_revoke 30 = .ok (.if_icmp .ne 21, 3) := by decide +kernel
theorem d_GrantServer_revoke_33 : decode b_GrantServer_revoke 33 = .ok (.aload_n 0, 1) := by decide +kernel
theorem d_GrantServer_revoke_34 : decode b_GrantServer_revoke 34 = .ok (.getfield 24, 3) := by decide +kernel
theorem d_GrantServer_revoke_37 : decode b_GrantServer_revoke 37 = .ok (.iload_n 2, 1) := by decide +kernel
theorem d_GrantServer_revoke_38 : decode b_GrantServer_revoke 38 = .ok (.aload_n 0, 1) := by decide +kernel
theorem d_GrantServer_revoke_39 : decode b_GrantServer_revoke 39 = .ok (.getfield 54, 3) := by decide +kernel
theorem d_GrantServer_revoke_42 : decode b_GrantServer_revoke 42 = .ok (.invokevirtual 129, 3) := by decide +kernel
theorem d_GrantServer_revoke_45 : decode b_GrantServer_revoke 45 = .ok (.invokestatic 171, 3) := by decide +kernel
theorem d_GrantServer_revoke_48 : decode b_GrantServer_revoke 48 = .ok (.goto 18, 3) := by decide +kernel
theorem d_GrantServer_revoke_51 : decode b_GrantServer_revoke 51 = .ok (.aload_n 0, 1) := by decide +kernel
theorem d_GrantServer_revoke_52 : decode b_GrantServer_revoke 52 = .ok (.getfield 27, 3) := by decide +kernel
theorem d_GrantServer_revoke_55 : decode b_GrantServer_revoke 55 = .ok (.iload_n 2, 1) := by decide +kernel
theorem d_GrantServer_revoke_56 : decode b_GrantServer_revoke 56 = .ok (.aload_n 0, 1) := by decide +kernel
theorem d_GrantServer_revoke_57 : decode b_GrantServer_revoke 57 = .ok (.getfield 54, 3) := by decide +kernel
theorem d_GrantServer_revoke_60 : decode b_GrantServer_revoke 60 = .ok (.invokevirtual 129, 3) := by decide +kernel
theorem d_GrantServer_revoke_63 : decode b_GrantServer_revoke 63 = .ok (.invokestatic 175, 3) := by decide +kernel
theorem d_GrantServer_revoke_66 : decode b_GrantServer_revoke 66 = .ok (.iload_n 3, 1) := by decide +kernel
theorem d_GrantServer_revoke_67 : decode b_GrantServer_revoke 67 = .ok (.aload_n 0, 1) := by decide +kernel
theorem d_GrantServer_revoke_68 : decode b_GrantServer_revoke 68 = .ok (.invokevirtual 168, 3) := by decide +kernel
theorem d_GrantServer_revoke_71 : decode b_GrantServer_revoke 71 = .ok (.isub, 1) := by decide +kernel
theorem d_GrantServer_revoke_72 : decode b_GrantServer_revoke 72 = .ok (.ireturn, 1) := by decide +kernel
theorem d_GrantServer_take_0 : decode b_GrantServer_take 0 = .ok (.iload_n 1, 1) := by decide +kernel
theorem d_GrantServer_take_1 : decode b_GrantServer_take 1 = .ok (.ifCond .eq 17, 3) := by decide +kernel
theorem d_GrantServer_take_4 : decode b_GrantServer_take 4 = .ok (.aload_n 0, 1) := by decide +kernel
theorem d_GrantServer_take_5 : decode b_GrantServer_take 5 = .ok (.getfield 33, 3) := by decide +kernel
theorem d_GrantServer_take_8 : decode b_GrantServer_take 8 = .ok (.aload_n 0, 1) := by decide +kernel
theorem d_GrantServer_take_9 : decode b_GrantServer_take 9 = .ok (.getfield 37, 3) := by decide +kernel
theorem d_GrantServer_take_12 : decode b_GrantServer_take 12 = .ok (.invokevirtual 214, 3) := by decide +kernel
theorem d_GrantServer_take_15 : decode b_GrantServer_take 15 = .ok (.goto 10, 3) := by decide +kernel
theorem d_GrantServer_take_18 : decode b_GrantServer_take 18 = .ok (.aload_n 0, 1) := by decide +kernel
theorem d_GrantServer_take_19 : decode b_GrantServer_take 19 = .ok (.getfield 33, 3) := by decide +kernel
theorem d_GrantServer_take_22 : decode b_GrantServer_take 22 = .ok (.invokevirtual 218, 3) := by decide +kernel
theorem d_GrantServer_take_25 : decode b_GrantServer_take 25 = .ok (.aload_n 0, 1) := by decide +kernel
theorem d_GrantServer_take_26 : decode b_GrantServer_take 26 = .ok (.getfield 33, 3) := by decide +kernel
theorem d_GrantServer_take_29 : decode b_GrantServer_take 29 = .ok (.invokevirtual 221, 3) := by decide +kernel
theorem d_GrantServer_take_32 : decode b_GrantServer_take 32 = .ok (.ireturn, 1) := by decide +kernel
theorem d_GrantServer_challenge_0 : decode b_GrantServer_challenge 0 = .ok (.aload_n 0, 1) := by decide +kernel
theorem d_GrantServer_challenge_1 : decode b_GrantServer_challenge 1 = .ok (.getfield 33, 3) := by decide +kernel
theorem d_GrantServer_challenge_4 : decode b_GrantServer_challenge 4 = .ok (.invokevirtual 143, 3) := by decide +kernel
theorem d_GrantServer_challenge_7 : decode b_GrantServer_challenge 7 = .ok (.ireturn, 1) := by decide +kernel
theorem d_GrantServer_shelfOf_0 : decode b_GrantServer_shelfOf 0 = .ok (.iload_n 1, 1) := by decide +kernel
theorem d_GrantServer_shelfOf_1 : decode b_GrantServer_shelfOf 1 = .ok (.tableswitch 42 0 2 #[27, 32, 37], 27) := by decide +kernel
theorem d_GrantServer_shelfOf_28 : decode b_GrantServer_shelfOf 28 = .ok (.aload_n 0, 1) := by decide +kernel
theorem d_GrantServer_shelfOf_29 : decode b_GrantServer_shelfOf 29 = .ok (.getfield 20, 3) := by decide +kernel
theorem d_GrantServer_shelfOf_32 : decode b_GrantServer_shelfOf 32 = .ok (.areturn, 1) := by decide +kernel
theorem d_GrantServer_shelfOf_33 : decode b_GrantServer_shelfOf 33 = .ok (.aload_n 0, 1) := by decide +kernel
theorem d_GrantServer_shelfOf_34 : decode b_GrantServer_shelfOf 34 = .ok (.getfield 24, 3) := by decide +kernel
theorem d_GrantServer_shelfOf_37 : decode b_GrantServer_shelfOf 37 = .ok (.areturn, 1) := by decide +kernel
theorem d_GrantServer_shelfOf_38 : decode b_GrantServer_shelfOf 38 = .ok (.aload_n 0, 1) := by decide +kernel
theorem d_GrantServer_shelfOf_39 : decode b_GrantServer_shelfOf 39 = .ok (.getfield 27, 3) := by decide +kernel
theorem d_GrantServer_shelfOf_42 : decode b_GrantServer_shelfOf 42 = .ok (.areturn, 1) := by decide +kernel
theorem d_GrantServer_shelfOf_43 : decode b_GrantServer_shelfOf 43 = .ok (.aconst_null, 1) := by decide +kernel
theorem d_GrantServer_shelfOf_44 : decode b_GrantServer_shelfOf 44 = .ok (.areturn, 1) := by decide +kernel
theorem d_Shelf_find_0 : decode b_Shelf_find 0 = .ok (.iconst 0, 1) := by decide +kernel
theorem d_Shelf_find_1 : decode b_Shelf_find 1 = .ok (.istore_n 2, 1) := by decide +kernel
theorem d_Shelf_find_2 : decode b_Shelf_find 2 = .ok (.iload_n 2, 1) := by decide +kernel
theorem d_Shelf_find_3 : decode b_Shelf_find 3 = .ok (.aload_n 0, 1) := by decide +kernel
theorem d_Shelf_find_4 : decode b_Shelf_find 4 = .ok (.getfield 7, 3) := by decide +kernel
theorem d_Shelf_find_7 : decode b_Shelf_find 7 = .ok (.if_icmp .ge 29, 3) := by decide +kernel
theorem d_Shelf_find_10 : decode b_Shelf_find 10 = .ok (.aload_n 0, 1) := by decide +kernel
theorem d_Shelf_find_11 : decode b_Shelf_find 11 = .ok (.getfield 15, 3) := by decide +kernel
theorem d_Shelf_find_14 : decode b_Shelf_find 14 = .ok (.iload_n 2, 1) := by decide +kernel
theorem d_Shelf_find_15 : decode b_Shelf_find 15 = .ok (.aaload, 1) := by decide +kernel
theorem d_Shelf_find_16 : decode b_Shelf_find 16 = .ok (.getfield 24, 3) := by decide +kernel
theorem d_Shelf_find_19 : decode b_Shelf_find 19 = .ok (.iload_n 1, 1) := by decide +kernel
theorem d_Shelf_find_20 : decode b_Shelf_find 20 = .ok (.if_icmp .ne 10, 3) := by decide +kernel
theorem d_Shelf_find_23 : decode b_Shelf_find 23 = .ok (.aload_n 0, 1) := by decide +kernel
theorem d_Shelf_find_24 : decode b_Shelf_find 24 = .ok (.getfield 15, 3) := by decide +kernel
theorem d_Shelf_find_27 : decode b_Shelf_find 27 = .ok (.iload_n 2, 1) := by decide +kernel
theorem d_Shelf_find_28 : decode b_Shelf_find 28 = .ok (.aaload, 1) := by decide +kernel
theorem d_Shelf_find_29 : decode b_Shelf_find 29 = .ok (.areturn, 1) := by decide +kernel
theorem d_Shelf_find_30 : decode b_Shelf_find 30 = .ok (.iinc 2 1, 3) := by decide +kernel
theorem d_Shelf_find_33 : decode b_Shelf_find 33 = .ok (.goto (-31), 3) := by decide +kernel
theorem d_Shelf_find_36 : decode b_Shelf_find 36 = .ok (.aconst_null, 1) := by decide +kernel
theorem d_Shelf_find_37 : decode b_Shelf_find 37 = .ok (.areturn, 1) := by decide +kernel
theorem d_Shelf_findOwned_0 : decode b_Shelf_findOwned 0 = .ok (.aload_n 0, 1) := by decide +kernel
theorem d_Shelf_findOwned_1 : decode b_Shelf_findOwned 1 = .ok (.iload_n 1, 1) := by decide +kernel
theorem d_Shelf_findOwned_2 : decode b_Shelf_findOwned 2 = .ok (.invokevirtual 27, 3) := by decide +kernel
theorem d_Shelf_findOwned_5 : decode b_Shelf_findOwned 5 = .ok (.astore_n 3, 1) := by decide +kernel
theorem d_Shelf_findOwned_6 : decode b_Shelf_findOwned 6 = .ok (.aload_n 3, 1) := by decide +kernel
theorem d_Shelf_findOwned_7 : decode b_Shelf_findOwned 7 = .ok (.ifnull 15, 3) := by decide +kernel
theorem d_Shelf_findOwned_10 : decode b_Shelf_findOwned 10 = .ok (.aload_n 3, 1) := by decide +kernel
theorem d_Shelf_findOwned_11 : decode b_Shelf_findOwned 11 = .ok (.getfield 31, 3) := by decide +kernel
theorem d_Shelf_findOwned_14 : decode b_Shelf_findOwned 14 = .ok (.iload_n 2, 1) := by decide +kernel
theorem d_Shelf_findOwned_15 : decode b_Shelf_findOwned 15 = .ok (.if_icmp .ne 7, 3) := by decide +kernel
theorem d_Shelf_findOwned_18 : decode b_Shelf_findOwned 18 = .ok (.aload_n 3, 1) := by decide +kernel
theorem d_Shelf_findOwned_19 : decode b_Shelf_findOwned 19 = .ok (.goto 4, 3) := by decide +kernel
theorem d_Shelf_findOwned_22 : decode b_Shelf_findOwned 22 = .ok (.aconst_null, 1) := by decide +kernel
theorem d_Shelf_findOwned_23 : decode b_Shelf_findOwned 23 = .ok (.areturn, 1) := by decide +kernel
theorem d_Shelf_hasActive_0 : decode b_Shelf_hasActive 0 = .ok (.aload_n 0, 1) := by decide +kernel
theorem d_Shelf_hasActive_1 : decode b_Shelf_hasActive 1 = .ok (.iload_n 1, 1) := by decide +kernel
theorem d_Shelf_hasActive_2 : decode b_Shelf_hasActive 2 = .ok (.invokevirtual 27, 3) := by decide +kernel
theorem d_Shelf_hasActive_5 : decode b_Shelf_hasActive 5 = .ok (.astore_n 3, 1) := by decide +kernel
theorem d_Shelf_hasActive_6 : decode b_Shelf_hasActive 6 = .ok (.aload_n 3, 1) := by decide +kernel
theorem d_Shelf_hasActive_7 : decode b_Shelf_hasActive 7 = .ok (.ifnull 15, 3) := by decide +kernel
theorem d_Shelf_hasActive_10 : decode b_Shelf_hasActive 10 = .ok (.aload_n 3, 1) := by decide +kernel
theorem d_Shelf_hasActive_11 : decode b_Shelf_hasActive 11 = .ok (.iload_n 2, 1) := by decide +kernel
theorem d_Shelf_hasActive_12 : decode b_Shelf_hasActive 12 = .ok (.invokevirtual 34, 3) := by decide +kernel
theorem d_Shelf_hasActive_15 : decode b_Shelf_hasActive 15 = .ok (.ifCond .eq 7, 3) := by decide +kernel
theorem d_Shelf_hasActive_18 : decode b_Shelf_hasActive 18 = .ok (.iconst 1, 1) := by decide +kernel
theorem d_Shelf_hasActive_19 : decode b_Shelf_hasActive 19 = .ok (.goto 4, 3) := by decide +kernel
theorem d_Shelf_hasActive_22 : decode b_Shelf_hasActive 22 = .ok (.iconst 0, 1) := by decide +kernel
theorem d_Shelf_hasActive_23 : decode b_Shelf_hasActive 23 = .ok (.ireturn, 1) := by decide +kernel
theorem d_Shelf_activeRows_0 : decode b_Shelf_activeRows 0 = .ok (.iconst 0, 1) := by decide +kernel
theorem d_Shelf_activeRows_1 : decode b_Shelf_activeRows 1 = .ok (.istore_n 2, 1) := by decide +kernel
theorem d_Shelf_activeRows_2 : decode b_Shelf_activeRows 2 = .ok (.iconst 0, 1) := by decide +kernel
theorem d_Shelf_activeRows_3 : decode b_Shelf_activeRows 3 = .ok (.istore_n 3, 1) := by decide +kernel
theorem d_Shelf_activeRows_4 : decode b_Shelf_activeRows 4 = .ok (.iload_n 3, 1) := by decide +kernel
theorem d_Shelf_activeRows_5 : decode b_Shelf_activeRows 5 = .ok (.aload_n 0, 1) := by decide +kernel
theorem d_Shelf_activeRows_6 : decode b_Shelf_activeRows 6 = .ok (.getfield 7, 3) := by decide +kernel
theorem d_Shelf_activeRows_9 : decode b_Shelf_activeRows 9 = .ok (.if_icmp .ge 25, 3) := by decide +kernel
theorem d_Shelf_activeRows_12 : decode b_Shelf_activeRows 12 = .ok (.aload_n 0, 1) := by decide +kernel
theorem d_Shelf_activeRows_13 : decode b_Shelf_activeRows 13 = .ok (.getfield 15, 3) := by decide +kernel
theorem d_Shelf_activeRows_16 : decode b_Shelf_activeRows 16 = .ok (.iload_n 3, 1) := by decide +kernel
theorem d_Shelf_activeRows_17 : decode b_Shelf_activeRows 17 = .ok (.aaload, 1) := by decide +kernel
theorem d_Shelf_activeRows_18 : decode b_Shelf_activeRows 18 = .ok (.iload_n 1, 1) := by decide +kernel
theorem d_Shelf_activeRows_19 : decode b_Shelf_activeRows 19 = .ok (.invokevirtual 34, 3) := by decide +kernel
theorem d_Shelf_activeRows_22 : decode b_Shelf_activeRows 22 = .ok (.ifCond .eq 6, 3) := by decide +kernel
theorem d_Shelf_activeRows_25 : decode b_Shelf_activeRows 25 = .ok (.iinc 2 1, 3) := by decide +kernel
theorem d_Shelf_activeRows_28 : decode b_Shelf_activeRows 28 = .ok (.iinc 3 1, 3) := by decide +kernel
theorem d_Shelf_activeRows_31 : decode b_Shelf_activeRows 31 = .ok (.goto (-27), 3) := by decide +kernel
theorem d_Shelf_activeRows_34 : decode b_Shelf_activeRows 34 = .ok (.iload_n 2, 1) := by decide +kernel
theorem d_Shelf_activeRows_35 : decode b_Shelf_activeRows 35 = .ok (.ireturn, 1) := by decide +kernel
theorem d_Text_copyFrom_0 : decode b_Text_copyFrom 0 = .ok (.aload_n 1, 1) := by decide +kernel
theorem d_Text_copyFrom_1 : decode b_Text_copyFrom 1 = .ok (.getfield 11, 3) := by decide +kernel
theorem d_Text_copyFrom_4 : decode b_Text_copyFrom 4 = .ok (.iconst 0, 1) := by decide +kernel
theorem d_Text_copyFrom_5 : decode b_Text_copyFrom 5 = .ok (.aload_n 0, 1) := by decide +kernel
theorem d_Text_copyFrom_6 : decode b_Text_copyFrom 6 = .ok (.getfield 11, 3) := by decide +kernel
theorem d_Text_copyFrom_9 : decode b_Text_copyFrom 9 = .ok (.iconst 0, 1) := by decide +kernel
theorem d_Text_copyFrom_10 : decode b_Text_copyFrom 10 = .ok (.aload_n 1, 1) := by decide +kernel
theorem d_Text_copyFrom_11 : decode b_Text_copyFrom 11 = .ok (.getfield 15, 3) := by decide +kernel
theorem d_Text_copyFrom_14 : decode b_Text_copyFrom 14 = .ok (.invokestatic 19, 3) := by decide +kernel
theorem d_Text_copyFrom_17 : decode b_Text_copyFrom 17 = .ok (.aload_n 0, 1) := by decide +kernel
theorem d_Text_copyFrom_18 : decode b_Text_copyFrom 18 = .ok (.aload_n 1, 1) := by decide +kernel
theorem d_Text_copyFrom_19 : decode b_Text_copyFrom 19 = .ok (.getfield 15, 3) := by decide +kernel
theorem d_Text_copyFrom_22 : decode b_Text_copyFrom 22 = .ok (.putfield 15, 3) := by decide +kernel
theorem d_Text_copyFrom_25 : decode b_Text_copyFrom 25 = .ok (.return_, 1) := by decide +kernel
theorem d_Text_hash_0 : decode b_Text_hash 0 = .ok (.aload_n 0, 1) := by decide +kernel
theorem d_Text_hash_1 : decode b_Text_hash 1 = .ok (.getfield 15, 3) := by decide +kernel
theorem d_Text_hash_4 : decode b_Text_hash 4 = .ok (.istore_n 1, 1) := by decide +kernel
theorem d_Text_hash_5 : decode b_Text_hash 5 = .ok (.iconst 0, 1) := by decide +kernel
theorem d_Text_hash_6 : decode b_Text_hash 6 = .ok (.istore_n 2, 1) := by decide +kernel
theorem d_Text_hash_7 : decode b_Text_hash 7 = .ok (.iload_n 2, 1) := by decide +kernel
theorem d_Text_hash_8 : decode b_Text_hash 8 = .ok (.aload_n 0, 1) := by decide +kernel
theorem d_Text_hash_9 : decode b_Text_hash 9 = .ok (.getfield 15, 3) := by decide +kernel
theorem d_Text_hash_12 : decode b_Text_hash 12 = .ok (.if_icmp .ge 24, 3) := by decide +kernel
theorem d_Text_hash_15 : decode b_Text_hash 15 = .ok (.iload_n 1, 1) := by decide +kernel
theorem d_Text_hash_16 : decode b_Text_hash 16 = .ok (.ldc 39, 2) := by decide +kernel
theorem d_Text_hash_18 : decode b_Text_hash 18 = .ok (.imul, 1) := by decide +kernel
theorem d_Text_hash_19 : decode b_Text_hash 19 = .ok (.aload_n 0, 1) := by decide +kernel
theorem d_Text_hash_20 : decode b_Text_hash 20 = .ok (.getfield 11, 3) := by decide +kernel
theorem d_Text_hash_23 : decode b_Text_hash 23 = .ok (.iload_n 2, 1) := by decide +kernel
theorem d_Text_hash_24 : decode b_Text_hash 24 = .ok (.caload, 1) := by decide +kernel
theorem d_Text_hash_25 : decode b_Text_hash 25 = .ok (.iadd, 1) := by decide +kernel
theorem d_Text_hash_26 : decode b_Text_hash 26 = .ok (.ldc 40, 2) := by decide +kernel
theorem d_Text_hash_28 : decode b_Text_hash 28 = .ok (.iand, 1) := by decide +kernel
theorem d_Text_hash_29 : decode b_Text_hash 29 = .ok (.istore_n 1, 1) := by decide +kernel
theorem d_Text_hash_30 : decode b_Text_hash 30 = .ok (.iinc 2 1, 3) := by decide +kernel
theorem d_Text_hash_33 : decode b_Text_hash 33 = .ok (.goto (-26), 3) := by decide +kernel
theorem d_Text_hash_36 : decode b_Text_hash 36 = .ok (.iload_n 1, 1) := by decide +kernel
theorem d_Text_hash_37 : decode b_Text_hash 37 = .ok (.ireturn, 1) := by decide +kernel
set_option maxRecDepth 20000 in
theorem fl_GrantServer_20 : hm_fl vwCl TB R_GrantServer 20 0 4 true (.object "GrantServer$Shelf") := ⟨_, _, _, _, cl_GrantServer, by decide, (TBm 179 (by decide +kernel) rfl), rfl, rfl⟩
set_option maxRecDepth 20000 in
theorem fl_GrantServer_24 : hm_fl vwCl TB R_GrantServer 24 0 5 true (.object "GrantServer$Shelf") := ⟨_, _, _, _, cl_GrantServer, by decide, (TBm 180 (by decide +kernel) rfl), rfl, rfl⟩
set_option maxRecDepth 20000 in
theorem fl_GrantServer_27 : hm_fl vwCl TB R_GrantServer 27 0 6 true (.object "GrantServer$Shelf") := ⟨_, _, _, _, cl_GrantServer, by decide, (TBm 181 (by decide +kernel) rfl), rfl, rfl⟩
set_option maxRecDepth 20000 in
theorem fl_Shelf_24 : hm_fl vwCl TB R_Shelf 24 3 0 false .int := ⟨_, _, _, _, cl_Grant, by decide, (TBm 80 (by decide +kernel) rfl), rfl, rfl⟩
set_option maxRecDepth 20000 in
theorem fl_Shelf_31 : hm_fl vwCl TB R_Shelf 31 3 1 false .int := ⟨_, _, _, _, cl_Grant, by decide, (TBm 84 (by decide +kernel) rfl), rfl, rfl⟩
set_option maxRecDepth 20000 in
theorem me_Grant_isActive : hm_meV y_Grant_isActive b_Grant_isActive 2 (some .boolean) 1 := ⟨⟨(TBm 303 rfl rfl), (TBm 42 (by decide +kernel) rfl), by decide +kernel⟩, (TBm 301 (by decide +kernel) rfl), (TBm 302 (by decide +kernel) rfl)⟩
set_option maxRecDepth 20000 in
theorem me_Shelf_find : hm_meV y_Shelf_find b_Shelf_find 3 (some (.object "GrantServer$Grant")) 1 := ⟨⟨(TBm 273 rfl rfl), (TBm 41 (by decide +kernel) rfl), by decide +kernel⟩, (TBm 271 (by decide +kernel) rfl), (TBm 272 (by decide +kernel) rfl)⟩
set_option maxRecDepth 20000 in
theorem me_Text_clear : hm_meV y_Text_clear b_Text_clear 1 none 0 := ⟨⟨(TBm 344 rfl rfl), (TBm 43 (by decide +kernel) rfl), by decide +kernel⟩, (TBm 342 (by decide +kernel) rfl), (TBm 343 (by decide +kernel) rfl)⟩
set_option maxRecDepth 20000 in
theorem me_Text_copyFrom : hm_meV y_Text_copyFrom b_Text_copyFrom 2 none 1 := ⟨⟨(TBm 634 rfl rfl), (TBm 43 (by decide +kernel) rfl), by decide +kernel⟩, (TBm 632 (by decide +kernel) rfl), (TBm 633 (by decide +kernel) rfl)⟩
set_option maxRecDepth 20000 in
theorem me_Text_hash : hm_meV y_Text_hash b_Text_hash 3 (some .int) 0 := ⟨⟨(TBm 307 rfl rfl), (TBm 43 (by decide +kernel) rfl), by decide +kernel⟩, (TBm 305 (by decide +kernel) rfl), (TBm 306 (by decide +kernel) rfl)⟩
set_option maxRecDepth 20000 in
theorem me_Text_size : hm_meV y_Text_size b_Text_size 1 (some .int) 0 := ⟨⟨(TBm 422 rfl rfl), (TBm 43 (by decide +kernel) rfl), by decide +kernel⟩, (TBm 420 (by decide +kernel) rfl), (TBm 421 (by decide +kernel) rfl)⟩
set_option maxRecDepth 20000 in
theorem wc_Text_39 : Cond.constant R_Text 39 1000003 ∈ TB := TBm 308 (by decide +kernel) rfl
set_option maxRecDepth 20000 in
theorem wc_Text_40 : Cond.constant R_Text 40 1073741823 ∈ TB := TBm 309 (by decide +kernel) rfl
set_option maxRecDepth 20000 in
theorem wl_GrantServer_143 : Cond.methodLink R_GrantServer 143 y_Text_hash ∈ TB := TBm 304 (by decide +kernel) rfl
set_option maxRecDepth 20000 in
theorem wl_GrantServer_214 : Cond.methodLink R_GrantServer 214 y_Text_copyFrom ∈ TB := TBm 631 (by decide +kernel) rfl
set_option maxRecDepth 20000 in
theorem wl_GrantServer_218 : Cond.methodLink R_GrantServer 218 y_Text_clear ∈ TB := TBm 341 (by decide +kernel) rfl
set_option maxRecDepth 20000 in
theorem wl_GrantServer_221 : Cond.methodLink R_GrantServer 221 y_Text_size ∈ TB := TBm 638 (by decide +kernel) rfl
set_option maxRecDepth 20000 in
theorem wl_Shelf_27 : Cond.methodLink R_Shelf 27 y_Shelf_find ∈ TB := TBm 295 (by decide +kernel) rfl
set_option maxRecDepth 20000 in
theorem wl_Shelf_34 : Cond.methodLink R_Shelf 34 y_Grant_isActive ∈ TB := TBm 460 (by decide +kernel) rfl
set_option maxRecDepth 20000 in
theorem wl_Text_19 : Cond.methodLink R_Text 19 arraycopyName ∈ TB := TBm 635 (by decide +kernel) rfl
set_option maxRecDepth 20000 in
theorem wn_System : Cond.initialized "java/lang/System" ∈ TB := TBm 55 (by decide +kernel) rfl
set_option maxRecDepth 20000 in
theorem ws_arraycopy : Cond.static arraycopyName ∈ TB := TBm 636 (by decide +kernel) rfl
set_option maxRecDepth 20000 in
theorem wv_arraycopy : Cond.native arraycopyName ∈ TB := TBm 637 (by decide +kernel) rfl
set_option maxHeartbeats 4000000 in
set_option maxRecDepth 100000 in
theorem c_Text_copyFrom (l : Launch) (D : va_G) (k : Nat → ClassId) (f : hm) (t : Nat) (a : Nat) (n1 : Int32) (y : Nat → Int32) (t2 : Nat) (a2 : Nat) (n : Nat) (x : Nat → Int32) (ht : f t = some (.inr (5, [.ref a, .int n1]))) (ha : f a = some (.inl (k 2, 120, .inl y))) (ht2 : f t2 = some (.inr (5, [.ref a2, .int (nI n)]))) (ha2 : f a2 = some (.inl (k 2, 120, .inl x))) (htt : t2 ≠ t) (haa : a2 ≠ a) (hn : n ≤ 120) (hft : ∀ i, i < n → fits .char (.int (x i)) = true) : hm_Mv l D vwCl (tyL k) y_Text_copyFrom (Cond.code y_Text_copyFrom b_Text_copyFrom 2 none :: TB) ({ frames := 1, cells := 0, slots := 0, locals := 40 }) [.ref t, .ref t2] f (fun (f1 : hm) => f1 t = some (.inr (5, [.ref a, .int (nI n)])) ∧ f1 a = some (.inl (k 2, 120, .inl (va_cpy x y 0 0 n))) ∧ ∀ (q : Nat) (x : va_E), q ≠ t → q ≠ a → f q = some x → f1 q = some x) 0 0 := by
  refine hm_enter (Qc := fun sz => va_Qv _ (hm_R D vwCl (tyL k) f sz) (hm_A f sz)) (by decide) rfl (Nat.le_of_ble_eq_true rfl) ?_
  intro p e s m below meth cd ls X0 hr hlk hin hK hM hS hA hl Q hQ
  have X : CallFix p m cd b_Text_copyFrom 2 s ([.ref t, .ref t2] : List Value).toArray TB R_Text := ⟨X0.1, X0.2.1, X0.2.2.1, X0.2.2.2.1, fun w h => X0.2.2.2.2 w (List.mem_cons_of_mem _ h)⟩
  have hx := X.1; have hb := X.2.1; have hml := X.2.2.1; have hown := X.2.2.2.1; have hts := X.2.2.2.2
  have hl : lv_has ls 2 [(0, .ref t), (1, .ref t2)] := hl
  refine lv_aload_n hx hb d_Text_copyFrom_0 rfl (lv_at hl 1 rfl) ?_
  refine hm_get X hK hM ht2 fl_Text_11 (v := .ref a2) rfl d_Text_copyFrom_1 ?_
  refine lv_iconst (v := 0) hx hb d_Text_copyFrom_4 (by decide) ?_
  refine lv_aload_n hx hb d_Text_copyFrom_5 rfl (lv_at hl 0 rfl) ?_
  refine hm_get X hK hM ht fl_Text_11 (v := .ref a) rfl d_Text_copyFrom_6 ?_
  refine lv_iconst (v := 0) hx hb d_Text_copyFrom_9 (by decide) ?_
  refine lv_aload_n hx hb d_Text_copyFrom_10 rfl (lv_at hl 1 rfl) ?_
  refine hm_get X hK hM ht2 fl_Text_15 (v := .int (nI n)) rfl d_Text_copyFrom_11 ?_
  refine hm_copyc X hK hM hS ha2 ha 2 rfl (n := n) (by omega) (by omega) (by omega) hft wl_Text_19 wv_arraycopy ws_arraycopy wn_System (Nat.le_of_ble_eq_true rfl) (by decide) hl.1 d_Text_copyFrom_14 (fun f1 H locs e2 hM hS => ?_)
  refine lv_aload_n hx hb d_Text_copyFrom_17 rfl (lv_at hl 0 rfl) ?_
  refine lv_aload_n hx hb d_Text_copyFrom_18 rfl (lv_at hl 1 rfl) ?_
  have g3 : f1 t2 = some (.inr (5, [.ref a2, .int (nI n)])) := by rw [e2, hm_up_n (hm_neA ht2 ha)]; exact ht2
  refine hm_get X hK hM g3 fl_Text_15 (v := .int (nI n)) rfl d_Text_copyFrom_19 ?_
  have g4 : f1 t = some (.inr (5, [.ref a, .int n1])) := by rw [e2, hm_up_n (hm_neA ht ha)]; exact ht
  refine hm_put X hK hM hS (fs' := [.ref a, .int (nI n)]) g4 fl_Text_15 rfl rfl (Nat.le_of_ble_eq_true rfl) rfl d_Text_copyFrom_22 (fun f5 H locs e6 hM hS => ?_)
  have g7 : f5 t = some (.inr (5, [.ref a, .int (nI n)])) := by rw [e6, hm_up_s]
  have g8 : f1 a = some (.inl (k 2, 120, .inl (va_cpy x y 0 0 n))) := by rw [e2, hm_up_s]
  have g9 : f5 a = some (.inl (k 2, 120, .inl (va_cpy x y 0 0 n))) := by rw [e6, hm_up_n ((hm_neA g4 g8).symm)]; exact g8
  exact hm_vret X hQ hr hlk hK hM hS d_Text_copyFrom_25 ⟨g7, g9, (fun q x n0 n1 hq => by have t0 := hq; have t1 := hm_keep e2 n1 t0; have t2 := hm_keep e6 n0 t1; exact t2)⟩
set_option maxHeartbeats 4000000 in
set_option maxRecDepth 100000 in
theorem c_Text_hash (l : Launch) (D : va_G) (k : Nat → ClassId) (f : hm) (t : Nat) (a : Nat) (n : Nat) (x : Nat → Int32) (ht : f t = some (.inr (5, [.ref a, .int (nI n)]))) (ha : f a = some (.inl (k 2, 120, .inl x))) (hn : n ≤ 120) : hm_Mi l D vwCl (tyL k) y_Text_hash (Cond.code y_Text_hash b_Text_hash 3 (some .int) :: TB) ({ frames := 0, cells := 0, slots := 0, locals := 0 }) [.ref t] f (fun (r : Int32) (f1 : hm) => z_hash x n n = r ∧ f = f1) 0 0 := by
  refine hm_enter (Qc := fun sz => va_Qi _ (hm_R D vwCl (tyL k) f sz) (hm_A f sz)) (by decide) rfl (Nat.le_of_ble_eq_true rfl) ?_
  intro p e s m below meth cd ls X0 hr hlk hin hK hM hS hA hl Q hQ
  have X : CallFix p m cd b_Text_hash 3 s ([.ref t] : List Value).toArray TB R_Text := ⟨X0.1, X0.2.1, X0.2.2.1, X0.2.2.2.1, fun w h => X0.2.2.2.2 w (List.mem_cons_of_mem _ h)⟩
  have hx := X.1; have hb := X.2.1; have hml := X.2.2.1; have hown := X.2.2.2.1; have hts := X.2.2.2.2
  have hl : lv_has ls 3 [(0, .ref t)] := hl
  refine lv_aload_n hx hb d_Text_hash_0 rfl (lv_at hl 0 rfl) ?_
  refine hm_get X hK hM ht fl_Text_15 (v := .int (nI n)) rfl d_Text_hash_1 ?_
  refine lv_istore_n (lv' := [(1, .int (nI n)), (0, .ref t)]) hx hb d_Text_hash_4 rfl hl (by decide) rfl (fun ls hl => ?_)
  refine lv_iconst (v := 0) hx hb d_Text_hash_5 (by decide) ?_
  refine lv_istore_n (lv' := [(2, .int 0), (1, .int (nI n)), (0, .ref t)]) hx hb d_Text_hash_6 rfl hl (by decide) rfl (fun ls hl => ?_)
  have loop7 : ∀ (fu : Nat) (j : Nat) (H : Heap) (locs : List Loc) (ls : Array Slot) (hmu : n - j < fu) (hj : j ≤ n) (hM : hm_W D vwCl (hm_A f s.heap.size) f H) (hS : va_S (hm_A f s.heap.size) s.heap H locs) (hl : lv_has ls 3 [(0, .ref t), (1, .int (z_hash x n j)), (2, .int (nI j))]), W p l e ({ frames := 0, cells := 0, slots := 0, locals := 0 }) s m ([.ref t] : List Value).toArray below meth cd H locs 0 0 Q (F0 m 7 ls []) := by
    intro fu
    induction fu with
    | zero => intro j H locs ls hmu; exact absurd hmu (Nat.not_lt_zero _)
    | succ fu ih =>
      intro j H locs ls hmu hj  hM hS hl
      refine lv_iload_n hx hb d_Text_hash_7 rfl (lv_at hl 2 rfl) ?_
      refine lv_aload_n hx hb d_Text_hash_8 rfl (lv_at hl 0 rfl) ?_
      refine hm_get X hK hM ht fl_Text_15 (v := .int (nI n)) rfl d_Text_hash_9 ?_
      refine lv_icmp_ge (tgt := 36) hx hb d_Text_hash_12 (by decide) (fun h1 => ?_) (fun h1 => ?_)
      · have hge : j = n := by have z := h1; rw [nI_leI (by omega) (by omega)] at z; omega
        subst hge
        refine lv_iload_n hx hb d_Text_hash_36 rfl (lv_at hl 1 rfl) ?_
        exact hm_iret X hQ hr hlk hK hM hS d_Text_hash_37 ⟨rfl, rfl⟩
      · have hlt : j < n := by have z := h1; rw [nI_leI (by omega) (by omega)] at z; omega
        refine lv_iload_n hx hb d_Text_hash_15 rfl (lv_at hl 1 rfl) ?_
        refine lv_ldc (v := 1000003) hx hb hown (hts _ wc_Text_39) d_Text_hash_16 ?_
        refine lv_imul hx hb d_Text_hash_18 ?_
        refine lv_aload_n hx hb d_Text_hash_19 rfl (lv_at hl 0 rfl) ?_
        refine hm_get X hK hM ht fl_Text_11 (v := .ref a) rfl d_Text_hash_20 ?_
        refine lv_iload_n hx hb d_Text_hash_23 rfl (lv_at hl 2 rfl) ?_
        refine hm_cald X hK hM ha 2 rfl j rfl (by omega) (by decide) d_Text_hash_24 ?_
        refine lv_iadd hx hb d_Text_hash_25 ?_
        refine lv_ldc (v := 1073741823) hx hb hown (hts _ wc_Text_40) d_Text_hash_26 ?_
        refine lv_iand hx hb d_Text_hash_28 ?_
        refine lv_istore_n (lv' := [(1, .int ((((z_hash x n j) * 1000003) + (x j)) &&& 1073741823)), (0, .ref t), (2, .int (nI j))]) hx hb d_Text_hash_29 rfl hl (by decide) rfl (fun ls hl => ?_)
        refine lv_iinc (lv' := [(2, .int (nI (j + 1))), (1, .int ((((z_hash x n j) * 1000003) + (x j)) &&& 1073741823)), (0, .ref t)]) hx hb d_Text_hash_30 hl (k := 2) rfl (hm_inc _) (by decide) rfl (fun ls hl => ?_)
        refine lv_goto (tgt := 7) hx hb d_Text_hash_33 (by decide) ?_
        exact ih (j + 1)  H locs ls (by omega) (by omega)  hM hS (lv_sub hl [2, 1, 0] rfl)
  exact loop7 _ 0  s.heap [] ls (Nat.lt_succ_self _) (Nat.zero_le _)  hM hS (lv_sub hl [2, 1, 0] rfl)
set_option maxHeartbeats 4000000 in
set_option maxRecDepth 100000 in
theorem c_challenge (l : Launch) (D : va_G) (k : Nat → ClassId) (f : hm) (h : Nat) (u : Nat → Int32) (ad : Nat → Nat) (n : Nat) (x : Nat → Int32) (hh : f h = some (.inr (0, gsV u ad))) (ht0 : f (ad 7) = some (.inr (5, [.ref (ad 17), .int (nI n)]))) (ha0 : f (ad 17) = some (.inl (k 2, 120, .inl x))) (hn : n ≤ 120) : hm_Mi l D vwCl (tyL k) y_GrantServer_challenge (Cond.code y_GrantServer_challenge b_GrantServer_challenge 1 (some .int) :: TB) ({ frames := 1, cells := 0, slots := 0, locals := 22 }) [.ref h] f (fun (r : Int32) (f1 : hm) => z_hash x n n = r ∧ f = f1) 0 0 := by
  refine hm_enter (Qc := fun sz => va_Qi _ (hm_R D vwCl (tyL k) f sz) (hm_A f sz)) (by decide) rfl (Nat.le_of_ble_eq_true rfl) ?_
  intro p e s m below meth cd ls X0 hr hlk hin hK hM hS hA hl Q hQ
  have X : CallFix p m cd b_GrantServer_challenge 1 s ([.ref h] : List Value).toArray TB R_GrantServer := ⟨X0.1, X0.2.1, X0.2.2.1, X0.2.2.2.1, fun w h => X0.2.2.2.2 w (List.mem_cons_of_mem _ h)⟩
  have hx := X.1; have hb := X.2.1; have hml := X.2.2.1; have hown := X.2.2.2.1; have hts := X.2.2.2.2
  have hl : lv_has ls 1 [(0, .ref h)] := hl
  refine lv_aload_n hx hb d_GrantServer_challenge_0 rfl (lv_at hl 0 rfl) ?_
  refine hm_get X hK hM hh fl_GrantServer_33 (v := .ref (ad 7)) rfl d_GrantServer_challenge_1 ?_
  refine hm_calli hS hM hA (va_runV (As := []) (rest := []) X (c_Text_hash l D k f (ad 7) (ad 17) n x ht0 ha0 hn s.heap.size) (hm_cwV hts me_Text_hash wl_GrantServer_143 rfl rfl ⟨Nat.le_of_ble_eq_true rfl, Nat.le_of_ble_eq_true rfl⟩) (hm_preV hM hK ht0 rfl) rfl rfl hl.1 rfl (lv_room (Nat.le_of_ble_eq_true rfl)) d_GrantServer_challenge_4 ⟨Nat.le_of_ble_eq_true rfl, Nat.le_of_ble_eq_true rfl⟩) (fun r3 f1 H locs p2 hM hS => ?_)
  obtain ⟨rfl, rfl⟩ := p2
  exact hm_iret X hQ hr hlk hK hM hS d_GrantServer_challenge_7 ⟨rfl, rfl⟩
set_option maxHeartbeats 4000000 in
set_option maxRecDepth 100000 in
theorem c_take_no (l : Launch) (D : va_G) (k : Nat → ClassId) (f : hm) (h : Nat) (u : Nat → Int32) (ad : Nat → Nat) (n : Nat) (x : Nat → Int32) (y : Int32) (hh : f h = some (.inr (0, gsV u ad))) (ht0 : f (ad 7) = some (.inr (5, [.ref (ad 17), .int (nI n)]))) (ha0 : f (ad 17) = some (.inl (k 2, 120, .inl x))) (hx9 : y = 0) : hm_Mi l D vwCl (tyL k) y_GrantServer_take (Cond.code y_GrantServer_take b_GrantServer_take 2 (some .int) :: TB) ({ frames := 1, cells := 0, slots := 0, locals := 20 }) [.ref h, .int y] f (fun (r : Int32) (f1 : hm) => 0 = r ∧ f1 (ad 7) = some (.inr (5, [.ref (ad 17), .int 0])) ∧ ∀ (q : Nat) (x : va_E), q ≠ (ad 7) → f q = some x → f1 q = some x) 0 0 := by
  refine hm_enter (Qc := fun sz => va_Qi _ (hm_R D vwCl (tyL k) f sz) (hm_A f sz)) (by decide) rfl (Nat.le_of_ble_eq_true rfl) ?_
  intro p e s m below meth cd ls X0 hr hlk hin hK hM hS hA hl Q hQ
  have X : CallFix p m cd b_GrantServer_take 2 s ([.ref h, .int y] : List Value).toArray TB R_GrantServer := ⟨X0.1, X0.2.1, X0.2.2.1, X0.2.2.2.1, fun w h => X0.2.2.2.2 w (List.mem_cons_of_mem _ h)⟩
  have hx := X.1; have hb := X.2.1; have hml := X.2.2.1; have hown := X.2.2.2.1; have hts := X.2.2.2.2
  have hl : lv_has ls 2 [(0, .ref h), (1, .int y)] := hl
  refine lv_iload_n hx hb d_GrantServer_take_0 rfl (lv_at hl 1 rfl) ?_
  refine lv_if_eq (tgt := 18) hx hb d_GrantServer_take_1 (by decide) (fun h1 => ?_) (fun h1 => ?_)
  · refine lv_aload_n hx hb d_GrantServer_take_18 rfl (lv_at hl 0 rfl) ?_
    refine hm_get X hK hM hh fl_GrantServer_33 (v := .ref (ad 7)) rfl d_GrantServer_take_19 ?_
    refine hm_callv hS hM hA (va_runV (As := []) (rest := []) X (c_Text_clear l D k f (ad 7) (ad 17) (nI n) ht0  s.heap.size) (hm_cwV hts me_Text_clear wl_GrantServer_218 rfl rfl ⟨Nat.le_of_ble_eq_true rfl, Nat.le_of_ble_eq_true rfl⟩) (hm_preV hM hK ht0 rfl) rfl rfl hl.1 rfl (lv_room (Nat.le_of_ble_eq_true rfl)) d_GrantServer_take_22 ⟨Nat.le_of_ble_eq_true rfl, Nat.le_of_ble_eq_true rfl⟩) (fun f2 H locs p3 hM hS => ?_)
    obtain ⟨g4, hfr5⟩ := p3
    refine lv_aload_n hx hb d_GrantServer_take_25 rfl (lv_at hl 0 rfl) ?_
    have g6 : f2 h = some (.inr (0, gsV u ad)) := hfr5 _ _ (hm_neI hh ht0 (by decide)) hh
    refine hm_get X hK hM g6 fl_GrantServer_33 (v := .ref (ad 7)) rfl d_GrantServer_take_26 ?_
    have g7 : f2 (ad 17) = some (.inl (k 2, 120, .inl x)) := hfr5 _ _ ((hm_neA ht0 ha0).symm) ha0
    refine hm_calli hS hM hA (va_runV (As := []) (rest := []) X (c_Text_size l D k f2 (ad 7) (ad 17) 0 g4  H.size) (hm_cwV hts me_Text_size wl_GrantServer_221 rfl rfl ⟨Nat.le_of_ble_eq_true rfl, Nat.le_of_ble_eq_true rfl⟩) (hm_preV hM hK g4 rfl) rfl rfl hl.1 rfl (lv_room (Nat.le_of_ble_eq_true rfl)) d_GrantServer_take_29 ⟨Nat.le_of_ble_eq_true rfl, Nat.le_of_ble_eq_true rfl⟩) (fun r10 f8 H locs p9 hM hS => ?_)
    obtain ⟨rfl, rfl⟩ := p9
    exact hm_iret X hQ hr hlk hK hM hS d_GrantServer_take_32 ⟨rfl, g4, (fun q x n0 hq => by have t0 := hq; have t1 := hfr5 _ _ n0 t0; exact t1)⟩
  · exact absurd hx9 h1
set_option maxHeartbeats 4000000 in
set_option maxRecDepth 100000 in
theorem c_take (l : Launch) (D : va_G) (k : Nat → ClassId) (f : hm) (h : Nat) (u : Nat → Int32) (ad : Nat → Nat) (n : Nat) (x : Nat → Int32) (n2 : Nat) (x2 : Nat → Int32) (y : Int32) (hh : f h = some (.inr (0, gsV u ad))) (ht0 : f (ad 7) = some (.inr (5, [.ref (ad 17), .int (nI n)]))) (ha0 : f (ad 17) = some (.inl (k 2, 120, .inl x))) (ht1 : f (ad 8) = some (.inr (5, [.ref (ad 18), .int (nI n2)]))) (ha1 : f (ad 18) = some (.inl (k 2, 120, .inl x2))) (hap : gs_ap ad) (hx9 : ¬ y = 0) (hn : n2 ≤ 120) (hft : ∀ i, i < n2 → fits .char (.int (x2 i)) = true) : hm_Mi l D vwCl (tyL k) y_GrantServer_take (Cond.code y_GrantServer_take b_GrantServer_take 2 (some .int) :: TB) ({ frames := 2, cells := 0, slots := 0, locals := 61 }) [.ref h, .int y] f (fun (r : Int32) (f1 : hm) => nI n2 = r ∧ f1 (ad 7) = some (.inr (5, [.ref (ad 17), .int (nI n2)])) ∧ f1 (ad 17) = some (.inl (k 2, 120, .inl (va_cpy x2 x 0 0 n2))) ∧ ∀ (q : Nat) (x : va_E), q ≠ (ad 7) → q ≠ (ad 17) → f q = some x → f1 q = some x) 0 0 := by
  refine hm_enter (Qc := fun sz => va_Qi _ (hm_R D vwCl (tyL k) f sz) (hm_A f sz)) (by decide) rfl (Nat.le_of_ble_eq_true rfl) ?_
  intro p e s m below meth cd ls X0 hr hlk hin hK hM hS hA hl Q hQ
  have X : CallFix p m cd b_GrantServer_take 2 s ([.ref h, .int y] : List Value).toArray TB R_GrantServer := ⟨X0.1, X0.2.1, X0.2.2.1, X0.2.2.2.1, fun w h => X0.2.2.2.2 w (List.mem_cons_of_mem _ h)⟩
  have hx := X.1; have hb := X.2.1; have hml := X.2.2.1; have hown := X.2.2.2.1; have hts := X.2.2.2.2
  have hl : lv_has ls 2 [(0, .ref h), (1, .int y)] := hl
  refine lv_iload_n hx hb d_GrantServer_take_0 rfl (lv_at hl 1 rfl) ?_
  refine lv_if_eq (tgt := 18) hx hb d_GrantServer_take_1 (by decide) (fun h1 => ?_) (fun h1 => ?_)
  · exact absurd h1 hx9
  · refine lv_aload_n hx hb d_GrantServer_take_4 rfl (lv_at hl 0 rfl) ?_
    refine hm_get X hK hM hh fl_GrantServer_33 (v := .ref (ad 7)) rfl d_GrantServer_take_5 ?_
    refine lv_aload_n hx hb d_GrantServer_take_8 rfl (lv_at hl 0 rfl) ?_
    refine hm_get X hK hM hh fl_GrantServer_37 (v := .ref (ad 8)) rfl d_GrantServer_take_9 ?_
    refine hm_callv hS hM hA (va_runV (As := [.ref (ad 8)]) (rest := []) X (c_Text_copyFrom l D k f (ad 7) (ad 17) (nI n) x (ad 8) (ad 18) n2 x2 ht0 ha0 ht1 ha1 (fun z => absurd (hap 8 7 (by decide) (by decide) rfl rfl z) (by decide)) (fun z => absurd (hap 18 17 (by decide) (by decide) rfl rfl z) (by decide)) hn hft s.heap.size) (hm_cwV hts me_Text_copyFrom wl_GrantServer_214 rfl rfl ⟨Nat.le_of_ble_eq_true rfl, Nat.le_of_ble_eq_true rfl⟩) (hm_preV hM hK ht0 rfl) rfl rfl hl.1 rfl (lv_room (Nat.le_of_ble_eq_true rfl)) d_GrantServer_take_12 ⟨Nat.le_of_ble_eq_true rfl, Nat.le_of_ble_eq_true rfl⟩) (fun f2 H locs p3 hM hS => ?_)
    obtain ⟨g4, g5, hfr6⟩ := p3
    refine lv_goto (tgt := 25) hx hb d_GrantServer_take_15 (by decide) ?_
    refine lv_aload_n hx hb d_GrantServer_take_25 rfl (lv_at hl 0 rfl) ?_
    have g7 : f2 h = some (.inr (0, gsV u ad)) := hfr6 _ _ (hm_neI hh ht0 (by decide)) (hm_neA hh ha0) hh
    refine hm_get X hK hM g7 fl_GrantServer_33 (v := .ref (ad 7)) rfl d_GrantServer_take_26 ?_
    have g8 : f2 (ad 8) = some (.inr (5, [.ref (ad 18), .int (nI n2)])) := hfr6 _ _ (fun z => absurd (hap 8 7 (by decide) (by decide) rfl rfl z) (by decide)) (fun z => absurd (hap 8 17 (by decide) (by decide) rfl rfl z) (by decide)) ht1
    have g9 : f2 (ad 18) = some (.inl (k 2, 120, .inl x2)) := hfr6 _ _ (fun z => absurd (hap 18 7 (by decide) (by decide) rfl rfl z) (by decide)) (fun z => absurd (hap 18 17 (by decide) (by decide) rfl rfl z) (by decide)) ha1
    refine hm_calli hS hM hA (va_runV (As := []) (rest := []) X (c_Text_size l D k f2 (ad 7) (ad 17) (nI n2) g4  H.size) (hm_cwV hts me_Text_size wl_GrantServer_221 rfl rfl ⟨Nat.le_of_ble_eq_true rfl, Nat.le_of_ble_eq_true rfl⟩) (hm_preV hM hK g4 rfl) rfl rfl hl.1 rfl (lv_room (Nat.le_of_ble_eq_true rfl)) d_GrantServer_take_29 ⟨Nat.le_of_ble_eq_true rfl, Nat.le_of_ble_eq_true rfl⟩) (fun r12 f10 H locs p11 hM hS => ?_)
    obtain ⟨rfl, rfl⟩ := p11
    exact hm_iret X hQ hr hlk hK hM hS d_GrantServer_take_32 ⟨rfl, g4, g5, (fun q x n0 n1 hq => by have t0 := hq; have t1 := hfr6 _ _ n0 n1 t0; exact t1)⟩
set_option maxHeartbeats 4000000 in
set_option maxRecDepth 100000 in
theorem c_find (l : Launch) (D : va_G) (k : Nat → ClassId) (f : hm) (h : Nat) (a : Nat) (N : Nat) (u : Nat) (g : Nat → Option Nat) (w : Nat → Nat → Int32) (m1 : Nat → Option Nat) (x : Int32) (hh : f h = some (.inr (4, [.ref a, .int (nI u)]))) (ha : f a = some (.inl (k 3, N, .inr (.inr (.inr (.inr g)))))) (hu : u ≤ N) (hN : N ≤ 24) (hrows : ∀ i, i < u → ∃ q, g i = some q ∧ f q = some (.inr (3, gV (w i) (m1 i)))) : hm_Mq l D vwCl (tyL k) y_Shelf_find (Cond.code y_Shelf_find b_Shelf_find 3 (some (.object "GrantServer$Grant")) :: TB) ({ frames := 0, cells := 0, slots := 0, locals := 0 }) [.ref h, .int x] f (fun (r : Option Nat) (f1 : hm) => (z_fi w x u 0).bind g = r ∧ f = f1) 0 0 := by
  refine hm_enter (Qc := fun sz => va_Qq _ (hm_R D vwCl (tyL k) f sz) (hm_A f sz)) (by decide) rfl (Nat.le_of_ble_eq_true rfl) ?_
  intro p e s m below meth cd ls X0 hr hlk hin hK hM hS hA hl Q hQ
  have X : CallFix p m cd b_Shelf_find 3 s ([.ref h, .int x] : List Value).toArray TB R_Shelf := ⟨X0.1, X0.2.1, X0.2.2.1, X0.2.2.2.1, fun w h => X0.2.2.2.2 w (List.mem_cons_of_mem _ h)⟩
  have hx := X.1; have hb := X.2.1; have hml := X.2.2.1; have hown := X.2.2.2.1; have hts := X.2.2.2.2
  have hl : lv_has ls 3 [(0, .ref h), (1, .int x)] := hl
  refine lv_iconst (v := 0) hx hb d_Shelf_find_0 (by decide) ?_
  refine lv_istore_n (lv' := [(2, .int 0), (0, .ref h), (1, .int x)]) hx hb d_Shelf_find_1 rfl hl (by decide) rfl (fun ls hl => ?_)
  have loop2 : ∀ (fu : Nat) (j : Nat) (H : Heap) (locs : List Loc) (ls : Array Slot) (hmu : u - j < fu) (hj : j ≤ u) (hinv : z_fi w x u 0 = z_fi w x (u - j) j) (hM : hm_W D vwCl (hm_A f s.heap.size) f H) (hS : va_S (hm_A f s.heap.size) s.heap H locs) (hl : lv_has ls 3 [(0, .ref h), (1, .int x), (2, .int (nI j))]), W p l e ({ frames := 0, cells := 0, slots := 0, locals := 0 }) s m ([.ref h, .int x] : List Value).toArray below meth cd H locs 0 0 Q (F0 m 2 ls []) := by
    intro fu
    induction fu with
    | zero => intro j H locs ls hmu; exact absurd hmu (Nat.not_lt_zero _)
    | succ fu ih =>
      intro j H locs ls hmu hj hinv  hM hS hl
      refine lv_iload_n hx hb d_Shelf_find_2 rfl (lv_at hl 2 rfl) ?_
      refine lv_aload_n hx hb d_Shelf_find_3 rfl (lv_at hl 0 rfl) ?_
      refine hm_get X hK hM hh fl_Shelf_7 (v := .int (nI u)) rfl d_Shelf_find_4 ?_
      refine lv_icmp_ge (tgt := 36) hx hb d_Shelf_find_7 (by decide) (fun h1 => ?_) (fun h1 => ?_)
      · have hge : u ≤ j := by have z := h1; rw [nI_leI (by omega) (by omega)] at z; omega
        refine lv_null hx hb d_Shelf_find_36 ?_
        exact hm_aret X hQ hr (Or.inl ⟨_, rfl⟩) hlk hK hM hS none d_Shelf_find_37 ⟨(by rw [hinv, show u - j = 0 by omega]; rfl), rfl⟩
      · have hlt : j < u := by have z := h1; rw [nI_leI (by omega) (by omega)] at z; omega
        obtain ⟨q9, hq9, hf9⟩ := hrows j hlt
        refine lv_aload_n hx hb d_Shelf_find_10 rfl (lv_at hl 0 rfl) ?_
        refine hm_get X hK hM hh fl_Shelf_15 (v := .ref a) rfl d_Shelf_find_11 ?_
        refine lv_iload_n hx hb d_Shelf_find_14 rfl (lv_at hl 2 rfl) ?_
        refine hm_aald X hK hM ha 3 rfl j rfl (by omega) (by omega) d_Shelf_find_15 ?_
        refine hm_ref hq9 ?_
        refine hm_get X hK hM hf9 fl_Shelf_24 (v := .int ((w j) 0)) rfl d_Shelf_find_16 ?_
        refine lv_iload_n hx hb d_Shelf_find_19 rfl (lv_at hl 1 rfl) ?_
        refine lv_icmp_ne (tgt := 30) hx hb d_Shelf_find_20 (by decide) (fun h2 => ?_) (fun h2 => ?_)
        · refine lv_iinc (lv' := [(2, .int (nI (j + 1))), (0, .ref h), (1, .int x)]) hx hb d_Shelf_find_30 hl (k := 2) rfl (hm_inc _) (by decide) rfl (fun ls hl => ?_)
          refine lv_goto (tgt := 2) hx hb d_Shelf_find_33 (by decide) ?_
          exact ih (j + 1)  H locs ls (by omega) (by omega) (by rw [hinv, show u - j = (u - (j + 1)) + 1 by omega]; simp [z_fi, h1, Int32.not_le.mp h1, h2])  hM hS (lv_sub hl [1, 2, 0] rfl)
        · refine lv_aload_n hx hb d_Shelf_find_23 rfl (lv_at hl 0 rfl) ?_
          refine hm_get X hK hM hh fl_Shelf_15 (v := .ref a) rfl d_Shelf_find_24 ?_
          refine lv_iload_n hx hb d_Shelf_find_27 rfl (lv_at hl 2 rfl) ?_
          refine hm_aald X hK hM ha 3 rfl j rfl (by omega) (by omega) d_Shelf_find_28 ?_
          refine hm_ref hq9 ?_
          exact hm_aret X hQ hr (Or.inl ⟨_, rfl⟩) hlk hK hM hS (some q9) d_Shelf_find_29 ⟨(by rw [hinv, show u - j = (u - (j + 1)) + 1 by omega]; simp [z_fi, h1, Int32.not_le.mp h1, h2, hq9]), rfl⟩
  exact loop2 _ 0  s.heap [] ls (Nat.lt_succ_self _) (Nat.zero_le _) rfl  hM hS (lv_sub hl [1, 2, 0] rfl)
set_option maxHeartbeats 4000000 in
set_option maxRecDepth 100000 in
theorem c_findOwned_no (l : Launch) (D : va_G) (k : Nat → ClassId) (f : hm) (h : Nat) (a : Nat) (N : Nat) (u : Nat) (g : Nat → Option Nat) (w : Nat → Nat → Int32) (m1 : Nat → Option Nat) (x : Int32) (y : Int32) (hh : f h = some (.inr (4, [.ref a, .int (nI u)]))) (ha : f a = some (.inl (k 3, N, .inr (.inr (.inr (.inr g)))))) (hu : u ≤ N) (hN : N ≤ 24) (hrows : ∀ i, i < u → ∃ q, g i = some q ∧ f q = some (.inr (3, gV (w i) (m1 i)))) (hfi : z_fi w x u 0 = none) : hm_Mq l D vwCl (tyL k) y_Shelf_findOwned (Cond.code y_Shelf_findOwned b_Shelf_findOwned 4 (some (.object "GrantServer$Grant")) :: TB) ({ frames := 1, cells := 0, slots := 0, locals := 22 }) [.ref h, .int x, .int y] f (fun (r : Option Nat) (f1 : hm) => none = r ∧ f = f1) 0 0 := by
  refine hm_enter (Qc := fun sz => va_Qq _ (hm_R D vwCl (tyL k) f sz) (hm_A f sz)) (by decide) rfl (Nat.le_of_ble_eq_true rfl) ?_
  intro p e s m below meth cd ls X0 hr hlk hin hK hM hS hA hl Q hQ
  have X : CallFix p m cd b_Shelf_findOwned 4 s ([.ref h, .int x, .int y] : List Value).toArray TB R_Shelf := ⟨X0.1, X0.2.1, X0.2.2.1, X0.2.2.2.1, fun w h => X0.2.2.2.2 w (List.mem_cons_of_mem _ h)⟩
  have hx := X.1; have hb := X.2.1; have hml := X.2.2.1; have hown := X.2.2.2.1; have hts := X.2.2.2.2
  have hl : lv_has ls 4 [(0, .ref h), (1, .int x), (2, .int y)] := hl
  refine lv_aload_n hx hb d_Shelf_findOwned_0 rfl (lv_at hl 0 rfl) ?_
  refine lv_iload_n hx hb d_Shelf_findOwned_1 rfl (lv_at hl 1 rfl) ?_
  refine hm_callq hS hM hA (va_runV (As := [.int x]) (rest := []) X (c_find l D k f h a N u g w m1 x hh ha hu hN hrows s.heap.size) (hm_cwV hts me_Shelf_find wl_Shelf_27 rfl rfl ⟨Nat.le_of_ble_eq_true rfl, Nat.le_of_ble_eq_true rfl⟩) (hm_preV hM hK hh rfl) rfl rfl hl.1 rfl (lv_room (Nat.le_of_ble_eq_true rfl)) d_Shelf_findOwned_2 ⟨Nat.le_of_ble_eq_true rfl, Nat.le_of_ble_eq_true rfl⟩) (fun r3 f1 H locs p2 hM hS => ?_)
  obtain ⟨rfl, rfl⟩ := p2
  refine hm_topq (show (z_fi w x u 0).bind g = none by rw [hfi]; rfl) ?_
  refine lv_astore_nN (lv' := [(3, .null), (0, .ref h), (1, .int x), (2, .int y)]) hx hb d_Shelf_findOwned_5 rfl hl (by decide) rfl (fun ls hl => ?_)
  refine lv_aload_nN hx hb d_Shelf_findOwned_6 rfl (lv_at hl 0 rfl) ?_
  refine lv_ifnullN (tgt := 22) hx hb d_Shelf_findOwned_7 (by decide) ?_
  refine lv_null hx hb d_Shelf_findOwned_22 ?_
  exact hm_aret X hQ hr (Or.inl ⟨_, rfl⟩) hlk hK hM hS none d_Shelf_findOwned_23 ⟨rfl, rfl⟩
set_option maxHeartbeats 4000000 in
set_option maxRecDepth 100000 in
theorem c_findOwned (l : Launch) (D : va_G) (k : Nat → ClassId) (f : hm) (h : Nat) (a : Nat) (N : Nat) (u : Nat) (g : Nat → Option Nat) (w : Nat → Nat → Int32) (m1 : Nat → Option Nat) (i : Nat) (q : Nat) (x : Int32) (y : Int32) (hh : f h = some (.inr (4, [.ref a, .int (nI u)]))) (ha : f a = some (.inl (k 3, N, .inr (.inr (.inr (.inr g)))))) (hq : f q = some (.inr (3, gV (w i) (m1 i)))) (hu : u ≤ N) (hN : N ≤ 24) (hrows : ∀ i, i < u → ∃ q, g i = some q ∧ f q = some (.inr (3, gV (w i) (m1 i)))) (hfi : z_fi w x u 0 = some i) (hgq : g i = some q) (ho : w i 1 = y) : hm_Mq l D vwCl (tyL k) y_Shelf_findOwned (Cond.code y_Shelf_findOwned b_Shelf_findOwned 4 (some (.object "GrantServer$Grant")) :: TB) ({ frames := 1, cells := 0, slots := 0, locals := 22 }) [.ref h, .int x, .int y] f (fun (r : Option Nat) (f1 : hm) => some q = r ∧ f = f1) 0 0 := by
  refine hm_enter (Qc := fun sz => va_Qq _ (hm_R D vwCl (tyL k) f sz) (hm_A f sz)) (by decide) rfl (Nat.le_of_ble_eq_true rfl) ?_
  intro p e s m below meth cd ls X0 hr hlk hin hK hM hS hA hl Q hQ
  have X : CallFix p m cd b_Shelf_findOwned 4 s ([.ref h, .int x, .int y] : List Value).toArray TB R_Shelf := ⟨X0.1, X0.2.1, X0.2.2.1, X0.2.2.2.1, fun w h => X0.2.2.2.2 w (List.mem_cons_of_mem _ h)⟩
  have hx := X.1; have hb := X.2.1; have hml := X.2.2.1; have hown := X.2.2.2.1; have hts := X.2.2.2.2
  have hl : lv_has ls 4 [(0, .ref h), (1, .int x), (2, .int y)] := hl
  refine lv_aload_n hx hb d_Shelf_findOwned_0 rfl (lv_at hl 0 rfl) ?_
  refine lv_iload_n hx hb d_Shelf_findOwned_1 rfl (lv_at hl 1 rfl) ?_
  refine hm_callq hS hM hA (va_runV (As := [.int x]) (rest := []) X (c_find l D k f h a N u g w m1 x hh ha hu hN hrows s.heap.size) (hm_cwV hts me_Shelf_find wl_Shelf_27 rfl rfl ⟨Nat.le_of_ble_eq_true rfl, Nat.le_of_ble_eq_true rfl⟩) (hm_preV hM hK hh rfl) rfl rfl hl.1 rfl (lv_room (Nat.le_of_ble_eq_true rfl)) d_Shelf_findOwned_2 ⟨Nat.le_of_ble_eq_true rfl, Nat.le_of_ble_eq_true rfl⟩) (fun r3 f1 H locs p2 hM hS => ?_)
  obtain ⟨rfl, rfl⟩ := p2
  refine hm_topq (show (z_fi w x u 0).bind g = some q by rw [hfi]; exact hgq) ?_
  refine lv_astore_n (lv' := [(3, .ref q), (0, .ref h), (1, .int x), (2, .int y)]) hx hb d_Shelf_findOwned_5 rfl hl (by decide) rfl (fun ls hl => ?_)
  refine lv_aload_n hx hb d_Shelf_findOwned_6 rfl (lv_at hl 0 rfl) ?_
  refine lv_ifnull hx hb d_Shelf_findOwned_7 ?_
  refine lv_aload_n hx hb d_Shelf_findOwned_10 rfl (lv_at hl 0 rfl) ?_
  refine hm_get X hK hM hq fl_Shelf_31 (v := .int ((w i) 1)) rfl d_Shelf_findOwned_11 ?_
  refine lv_iload_n hx hb d_Shelf_findOwned_14 rfl (lv_at hl 3 rfl) ?_
  refine lv_icmp_ne (tgt := 22) hx hb d_Shelf_findOwned_15 (by decide) (fun h4 => ?_) (fun h4 => ?_)
  · exact absurd ho h4
  · refine lv_aload_n hx hb d_Shelf_findOwned_18 rfl (lv_at hl 0 rfl) ?_
    refine lv_goto (tgt := 23) hx hb d_Shelf_findOwned_19 (by decide) ?_
    exact hm_aret X hQ hr (Or.inl ⟨_, rfl⟩) hlk hK hM hS (some q) d_Shelf_findOwned_23 ⟨rfl, rfl⟩
set_option maxHeartbeats 4000000 in
set_option maxRecDepth 100000 in
theorem c_findOwned_bad (l : Launch) (D : va_G) (k : Nat → ClassId) (f : hm) (h : Nat) (a : Nat) (N : Nat) (u : Nat) (g : Nat → Option Nat) (w : Nat → Nat → Int32) (m1 : Nat → Option Nat) (i : Nat) (q : Nat) (x : Int32) (y : Int32) (hh : f h = some (.inr (4, [.ref a, .int (nI u)]))) (ha : f a = some (.inl (k 3, N, .inr (.inr (.inr (.inr g)))))) (hq : f q = some (.inr (3, gV (w i) (m1 i)))) (hu : u ≤ N) (hN : N ≤ 24) (hrows : ∀ i, i < u → ∃ q, g i = some q ∧ f q = some (.inr (3, gV (w i) (m1 i)))) (hfi : z_fi w x u 0 = some i) (hgq : g i = some q) (ho : ¬ w i 1 = y) : hm_Mq l D vwCl (tyL k) y_Shelf_findOwned (Cond.code y_Shelf_findOwned b_Shelf_findOwned 4 (some (.object "GrantServer$Grant")) :: TB) ({ frames := 1, cells := 0, slots := 0, locals := 22 }) [.ref h, .int x, .int y] f (fun (r : Option Nat) (f1 : hm) => none = r ∧ f = f1) 0 0 := by
  refine hm_enter (Qc := fun sz => va_Qq _ (hm_R D vwCl (tyL k) f sz) (hm_A f sz)) (by decide) rfl (Nat.le_of_ble_eq_true rfl) ?_
  intro p e s m below meth cd ls X0 hr hlk hin hK hM hS hA hl Q hQ
  have X : CallFix p m cd b_Shelf_findOwned 4 s ([.ref h, .int x, .int y] : List Value).toArray TB R_Shelf := ⟨X0.1, X0.2.1, X0.2.2.1, X0.2.2.2.1, fun w h => X0.2.2.2.2 w (List.mem_cons_of_mem _ h)⟩
  have hx := X.1; have hb := X.2.1; have hml := X.2.2.1; have hown := X.2.2.2.1; have hts := X.2.2.2.2
  have hl : lv_has ls 4 [(0, .ref h), (1, .int x), (2, .int y)] := hl
  refine lv_aload_n hx hb d_Shelf_findOwned_0 rfl (lv_at hl 0 rfl) ?_
  refine lv_iload_n hx hb d_Shelf_findOwned_1 rfl (lv_at hl 1 rfl) ?_
  refine hm_callq hS hM hA (va_runV (As := [.int x]) (rest := []) X (c_find l D k f h a N u g w m1 x hh ha hu hN hrows s.heap.size) (hm_cwV hts me_Shelf_find wl_Shelf_27 rfl rfl ⟨Nat.le_of_ble_eq_true rfl, Nat.le_of_ble_eq_true rfl⟩) (hm_preV hM hK hh rfl) rfl rfl hl.1 rfl (lv_room (Nat.le_of_ble_eq_true rfl)) d_Shelf_findOwned_2 ⟨Nat.le_of_ble_eq_true rfl, Nat.le_of_ble_eq_true rfl⟩) (fun r3 f1 H locs p2 hM hS => ?_)
  obtain ⟨rfl, rfl⟩ := p2
  refine hm_topq (show (z_fi w x u 0).bind g = some q by rw [hfi]; exact hgq) ?_
  refine lv_astore_n (lv' := [(3, .ref q), (0, .ref h), (1, .int x), (2, .int y)]) hx hb d_Shelf_findOwned_5 rfl hl (by decide) rfl (fun ls hl => ?_)
  refine lv_aload_n hx hb d_Shelf_findOwned_6 rfl (lv_at hl 0 rfl) ?_
  refine lv_ifnull hx hb d_Shelf_findOwned_7 ?_
  refine lv_aload_n hx hb d_Shelf_findOwned_10 rfl (lv_at hl 0 rfl) ?_
  refine hm_get X hK hM hq fl_Shelf_31 (v := .int ((w i) 1)) rfl d_Shelf_findOwned_11 ?_
  refine lv_iload_n hx hb d_Shelf_findOwned_14 rfl (lv_at hl 3 rfl) ?_
  refine lv_icmp_ne (tgt := 22) hx hb d_Shelf_findOwned_15 (by decide) (fun h4 => ?_) (fun h4 => ?_)
  · refine lv_null hx hb d_Shelf_findOwned_22 ?_
    exact hm_aret X hQ hr (Or.inl ⟨_, rfl⟩) hlk hK hM hS none d_Shelf_findOwned_23 ⟨rfl, rfl⟩
  · exact absurd h4 ho
set_option maxHeartbeats 4000000 in
set_option maxRecDepth 100000 in
theorem c_hasActive_no (l : Launch) (D : va_G) (k : Nat → ClassId) (f : hm) (h : Nat) (a : Nat) (N : Nat) (u : Nat) (g : Nat → Option Nat) (w : Nat → Nat → Int32) (m1 : Nat → Option Nat) (x : Int32) (y : Int32) (hh : f h = some (.inr (4, [.ref a, .int (nI u)]))) (ha : f a = some (.inl (k 3, N, .inr (.inr (.inr (.inr g)))))) (hu : u ≤ N) (hN : N ≤ 24) (hrows : ∀ i, i < u → ∃ q, g i = some q ∧ f q = some (.inr (3, gV (w i) (m1 i)))) (hfi : z_fi w x u 0 = none) : hm_Mi l D vwCl (tyL k) y_Shelf_hasActive (Cond.code y_Shelf_hasActive b_Shelf_hasActive 4 (some .boolean) :: TB) ({ frames := 1, cells := 0, slots := 0, locals := 22 }) [.ref h, .int x, .int y] f (fun (r : Int32) (f1 : hm) => 0 = r ∧ f = f1) 0 0 := by
  refine hm_enter (Qc := fun sz => va_Qi _ (hm_R D vwCl (tyL k) f sz) (hm_A f sz)) (by decide) rfl (Nat.le_of_ble_eq_true rfl) ?_
  intro p e s m below meth cd ls X0 hr hlk hin hK hM hS hA hl Q hQ
  have X : CallFix p m cd b_Shelf_hasActive 4 s ([.ref h, .int x, .int y] : List Value).toArray TB R_Shelf := ⟨X0.1, X0.2.1, X0.2.2.1, X0.2.2.2.1, fun w h => X0.2.2.2.2 w (List.mem_cons_of_mem _ h)⟩
  have hx := X.1; have hb := X.2.1; have hml := X.2.2.1; have hown := X.2.2.2.1; have hts := X.2.2.2.2
  have hl : lv_has ls 4 [(0, .ref h), (1, .int x), (2, .int y)] := hl
  refine lv_aload_n hx hb d_Shelf_hasActive_0 rfl (lv_at hl 0 rfl) ?_
  refine lv_iload_n hx hb d_Shelf_hasActive_1 rfl (lv_at hl 1 rfl) ?_
  refine hm_callq hS hM hA (va_runV (As := [.int x]) (rest := []) X (c_find l D k f h a N u g w m1 x hh ha hu hN hrows s.heap.size) (hm_cwV hts me_Shelf_find wl_Shelf_27 rfl rfl ⟨Nat.le_of_ble_eq_true rfl, Nat.le_of_ble_eq_true rfl⟩) (hm_preV hM hK hh rfl) rfl rfl hl.1 rfl (lv_room (Nat.le_of_ble_eq_true rfl)) d_Shelf_hasActive_2 ⟨Nat.le_of_ble_eq_true rfl, Nat.le_of_ble_eq_true rfl⟩) (fun r3 f1 H locs p2 hM hS => ?_)
  obtain ⟨rfl, rfl⟩ := p2
  refine hm_topq (show (z_fi w x u 0).bind g = none by rw [hfi]; rfl) ?_
  refine lv_astore_nN (lv' := [(3, .null), (0, .ref h), (1, .int x), (2, .int y)]) hx hb d_Shelf_hasActive_5 rfl hl (by decide) rfl (fun ls hl => ?_)
  refine lv_aload_nN hx hb d_Shelf_hasActive_6 rfl (lv_at hl 0 rfl) ?_
  refine lv_ifnullN (tgt := 22) hx hb d_Shelf_hasActive_7 (by decide) ?_
  refine lv_iconst (v := 0) hx hb d_Shelf_hasActive_22 (by decide) ?_
  exact hm_zret X hQ hr hlk hK hM hS rfl d_Shelf_hasActive_23 ⟨rfl, rfl⟩
set_option maxHeartbeats 4000000 in
set_option maxRecDepth 100000 in
theorem c_hasActive (l : Launch) (D : va_G) (k : Nat → ClassId) (f : hm) (h : Nat) (a : Nat) (N : Nat) (u : Nat) (g : Nat → Option Nat) (w : Nat → Nat → Int32) (m1 : Nat → Option Nat) (i : Nat) (q : Nat) (fs : Int32) (fa : Int32) (fv : Int32) (x : Int32) (y : Int32) (hh : f h = some (.inr (4, [.ref a, .int (nI u)]))) (ha : f a = some (.inl (k 3, N, .inr (.inr (.inr (.inr g)))))) (hq : f q = some (.inr (3, gV (w i) (m1 i)))) (hu : u ≤ N) (hN : N ≤ 24) (hrows : ∀ i, i < u → ∃ q, g i = some q ∧ f q = some (.inr (3, gV (w i) (m1 i)))) (hfi : z_fi w x u 0 = some i) (hgq : g i = some q) (hfam : ∀ z, m1 i = some z → f z = some (.inr (2, [.int fs, .int fa, .int fv]))) : hm_Mi l D vwCl (tyL k) y_Shelf_hasActive (Cond.code y_Shelf_hasActive b_Shelf_hasActive 4 (some .boolean) :: TB) ({ frames := 1, cells := 0, slots := 0, locals := 22 }) [.ref h, .int x, .int y] f (fun (r : Int32) (f1 : hm) => z_act (w i) (m1 i) fv y = r ∧ f = f1) 0 0 := by
  refine hm_enter (Qc := fun sz => va_Qi _ (hm_R D vwCl (tyL k) f sz) (hm_A f sz)) (by decide) rfl (Nat.le_of_ble_eq_true rfl) ?_
  intro p e s m below meth cd ls X0 hr hlk hin hK hM hS hA hl Q hQ
  have X : CallFix p m cd b_Shelf_hasActive 4 s ([.ref h, .int x, .int y] : List Value).toArray TB R_Shelf := ⟨X0.1, X0.2.1, X0.2.2.1, X0.2.2.2.1, fun w h => X0.2.2.2.2 w (List.mem_cons_of_mem _ h)⟩
  have hx := X.1; have hb := X.2.1; have hml := X.2.2.1; have hown := X.2.2.2.1; have hts := X.2.2.2.2
  have hl : lv_has ls 4 [(0, .ref h), (1, .int x), (2, .int y)] := hl
  refine lv_aload_n hx hb d_Shelf_hasActive_0 rfl (lv_at hl 0 rfl) ?_
  refine lv_iload_n hx hb d_Shelf_hasActive_1 rfl (lv_at hl 1 rfl) ?_
  refine hm_callq hS hM hA (va_runV (As := [.int x]) (rest := []) X (c_find l D k f h a N u g w m1 x hh ha hu hN hrows s.heap.size) (hm_cwV hts me_Shelf_find wl_Shelf_27 rfl rfl ⟨Nat.le_of_ble_eq_true rfl, Nat.le_of_ble_eq_true rfl⟩) (hm_preV hM hK hh rfl) rfl rfl hl.1 rfl (lv_room (Nat.le_of_ble_eq_true rfl)) d_Shelf_hasActive_2 ⟨Nat.le_of_ble_eq_true rfl, Nat.le_of_ble_eq_true rfl⟩) (fun r3 f1 H locs p2 hM hS => ?_)
  obtain ⟨rfl, rfl⟩ := p2
  refine hm_topq (show (z_fi w x u 0).bind g = some q by rw [hfi]; exact hgq) ?_
  refine lv_astore_n (lv' := [(3, .ref q), (0, .ref h), (1, .int x), (2, .int y)]) hx hb d_Shelf_hasActive_5 rfl hl (by decide) rfl (fun ls hl => ?_)
  refine lv_aload_n hx hb d_Shelf_hasActive_6 rfl (lv_at hl 0 rfl) ?_
  refine lv_ifnull hx hb d_Shelf_hasActive_7 ?_
  refine lv_aload_n hx hb d_Shelf_hasActive_10 rfl (lv_at hl 0 rfl) ?_
  refine lv_iload_n hx hb d_Shelf_hasActive_11 rfl (lv_at hl 3 rfl) ?_
  refine hm_calli hS hM hA (va_runV (As := [.int y]) (rest := []) X (c_Grant_isActive l D k f q (w i) (m1 i) fs fa fv y hq hfam H.size) (hm_cwV hts me_Grant_isActive wl_Shelf_34 rfl rfl ⟨Nat.le_of_ble_eq_true rfl, Nat.le_of_ble_eq_true rfl⟩) (hm_preV hM hK hq rfl) rfl rfl hl.1 rfl (lv_room (Nat.le_of_ble_eq_true rfl)) d_Shelf_hasActive_12 ⟨Nat.le_of_ble_eq_true rfl, Nat.le_of_ble_eq_true rfl⟩) (fun r6 f4 H locs p5 hM hS => ?_)
  obtain ⟨rfl, rfl⟩ := p5
  refine lv_if_eq (tgt := 22) hx hb d_Shelf_hasActive_15 (by decide) (fun h7 => ?_) (fun h7 => ?_)
  · refine lv_iconst (v := 0) hx hb d_Shelf_hasActive_22 (by decide) ?_
    exact hm_zret X hQ hr hlk hK hM hS rfl d_Shelf_hasActive_23 ⟨h7, rfl⟩
  · refine lv_iconst (v := 1) hx hb d_Shelf_hasActive_18 (by decide) ?_
    refine lv_goto (tgt := 23) hx hb d_Shelf_hasActive_19 (by decide) ?_
    exact hm_zret X hQ hr hlk hK hM hS rfl d_Shelf_hasActive_23 ⟨(z_act_b h7), rfl⟩
set_option maxHeartbeats 4000000 in
set_option maxRecDepth 100000 in
theorem c_activeRows (l : Launch) (D : va_G) (k : Nat → ClassId) (f : hm) (h : Nat) (a : Nat) (N : Nat) (u : Nat) (g : Nat → Option Nat) (w : Nat → Nat → Int32) (m1 : Nat → Option Nat) (fs : Nat → Int32) (fa : Nat → Int32) (fv : Nat → Int32) (x : Int32) (hh : f h = some (.inr (4, [.ref a, .int (nI u)]))) (ha : f a = some (.inl (k 3, N, .inr (.inr (.inr (.inr g)))))) (hu : u ≤ N) (hN : N ≤ 24) (hrows : ∀ i, i < u → ∃ q, g i = some q ∧ f q = some (.inr (3, gV (w i) (m1 i)))) (hfam : ∀ i, i < u → ∀ z, m1 i = some z → f z = some (.inr (2, [.int (fs i), .int (fa i), .int (fv i)]))) : hm_Mi l D vwCl (tyL k) y_Shelf_activeRows (Cond.code y_Shelf_activeRows b_Shelf_activeRows 4 (some .int) :: TB) ({ frames := 1, cells := 0, slots := 0, locals := 21 }) [.ref h, .int x] f (fun (r : Int32) (f1 : hm) => nI (z_cn w m1 fv x u) = r ∧ f = f1) 0 0 := by
  refine hm_enter (Qc := fun sz => va_Qi _ (hm_R D vwCl (tyL k) f sz) (hm_A f sz)) (by decide) rfl (Nat.le_of_ble_eq_true rfl) ?_
  intro p e s m below meth cd ls X0 hr hlk hin hK hM hS hA hl Q hQ
  have X : CallFix p m cd b_Shelf_activeRows 4 s ([.ref h, .int x] : List Value).toArray TB R_Shelf := ⟨X0.1, X0.2.1, X0.2.2.1, X0.2.2.2.1, fun w h => X0.2.2.2.2 w (List.mem_cons_of_mem _ h)⟩
  have hx := X.1; have hb := X.2.1; have hml := X.2.2.1; have hown := X.2.2.2.1; have hts := X.2.2.2.2
  have hl : lv_has ls 4 [(0, .ref h), (1, .int x)] := hl
  refine lv_iconst (v := 0) hx hb d_Shelf_activeRows_0 (by decide) ?_
  refine lv_istore_n (lv' := [(2, .int 0), (0, .ref h), (1, .int x)]) hx hb d_Shelf_activeRows_1 rfl hl (by decide) rfl (fun ls hl => ?_)
  refine lv_iconst (v := 0) hx hb d_Shelf_activeRows_2 (by decide) ?_
  refine lv_istore_n (lv' := [(3, .int 0), (2, .int 0), (0, .ref h), (1, .int x)]) hx hb d_Shelf_activeRows_3 rfl hl (by decide) rfl (fun ls hl => ?_)
  have loop4 : ∀ (fu : Nat) (j : Nat) (H : Heap) (locs : List Loc) (ls : Array Slot) (hmu : u - j < fu) (hj : j ≤ u) (hM : hm_W D vwCl (hm_A f s.heap.size) f H) (hS : va_S (hm_A f s.heap.size) s.heap H locs) (hl : lv_has ls 4 [(0, .ref h), (1, .int x), (2, .int (nI (z_cn w m1 fv x j))), (3, .int (nI j))]), W p l e ({ frames := 1, cells := 0, slots := 0, locals := 21 }) s m ([.ref h, .int x] : List Value).toArray below meth cd H locs 0 0 Q (F0 m 4 ls []) := by
    intro fu
    induction fu with
    | zero => intro j H locs ls hmu; exact absurd hmu (Nat.not_lt_zero _)
    | succ fu ih =>
      intro j H locs ls hmu hj  hM hS hl
      refine lv_iload_n hx hb d_Shelf_activeRows_4 rfl (lv_at hl 3 rfl) ?_
      refine lv_aload_n hx hb d_Shelf_activeRows_5 rfl (lv_at hl 0 rfl) ?_
      refine hm_get X hK hM hh fl_Shelf_7 (v := .int (nI u)) rfl d_Shelf_activeRows_6 ?_
      refine lv_icmp_ge (tgt := 34) hx hb d_Shelf_activeRows_9 (by decide) (fun h1 => ?_) (fun h1 => ?_)
      · have hge : j = u := by have z := h1; rw [nI_leI (by omega) (by omega)] at z; omega
        subst hge
        refine lv_iload_n hx hb d_Shelf_activeRows_34 rfl (lv_at hl 2 rfl) ?_
        exact hm_iret X hQ hr hlk hK hM hS d_Shelf_activeRows_35 ⟨rfl, rfl⟩
      · have hlt : j < u := by have z := h1; rw [nI_leI (by omega) (by omega)] at z; omega
        obtain ⟨q9, hq9, hf9⟩ := hrows j hlt
        refine lv_aload_n hx hb d_Shelf_activeRows_12 rfl (lv_at hl 0 rfl) ?_
        refine hm_get X hK hM hh fl_Shelf_15 (v := .ref a) rfl d_Shelf_activeRows_13 ?_
        refine lv_iload_n hx hb d_Shelf_activeRows_16 rfl (lv_at hl 3 rfl) ?_
        refine hm_aald X hK hM ha 3 rfl j rfl (by omega) (by omega) d_Shelf_activeRows_17 ?_
        refine hm_ref hq9 ?_
        refine lv_iload_n hx hb d_Shelf_activeRows_18 rfl (lv_at hl 1 rfl) ?_
        refine hm_calli hS hM hA (va_runV (As := [.int x]) (rest := []) X (c_Grant_isActive l D k f q9 (w j) (m1 j) (fs j) (fa j) (fv j) x hf9 (hfam j hlt) H.size) (hm_cwV hts me_Grant_isActive wl_Shelf_34 rfl rfl ⟨Nat.le_of_ble_eq_true rfl, Nat.le_of_ble_eq_true rfl⟩) (hm_preV hM hK hf9 rfl) rfl rfl hl.1 rfl (lv_room (Nat.le_of_ble_eq_true rfl)) d_Shelf_activeRows_19 ⟨Nat.le_of_ble_eq_true rfl, Nat.le_of_ble_eq_true rfl⟩) (fun r4 f2 H locs p3 hM hS => ?_)
        obtain ⟨rfl, rfl⟩ := p3
        refine lv_if_eq (tgt := 28) hx hb d_Shelf_activeRows_22 (by decide) (fun h5 => ?_) (fun h5 => ?_)
        · refine lv_iinc (lv' := [(3, .int (nI (j + 1))), (0, .ref h), (1, .int x), (2, .int (nI (z_cn w m1 fv x j)))]) hx hb d_Shelf_activeRows_28 hl (k := 3) rfl (hm_inc _) (by decide) rfl (fun ls hl => ?_)
          refine lv_goto (tgt := 4) hx hb d_Shelf_activeRows_31 (by decide) ?_
          have e9 : z_cn w m1 fv x (j + 1) = z_cn w m1 fv x j := by simp [z_cn, h5]
          rw [← e9] at hl
          exact ih (j + 1)  H locs ls (by omega) (by omega)  hM hS (lv_sub hl [1, 2, 3, 0] rfl)
        · refine lv_iinc (lv' := [(2, .int (nI (z_cn w m1 fv x (j + 1)))), (0, .ref h), (1, .int x), (3, .int (nI j))]) hx hb d_Shelf_activeRows_25 hl (k := 2) rfl (by rw [hm_inc]; simp [z_cn, h5]) (by decide) rfl (fun ls hl => ?_)
          refine lv_iinc (lv' := [(3, .int (nI (j + 1))), (2, .int (nI (z_cn w m1 fv x (j + 1)))), (0, .ref h), (1, .int x)]) hx hb d_Shelf_activeRows_28 hl (k := 3) rfl (hm_inc _) (by decide) rfl (fun ls hl => ?_)
          refine lv_goto (tgt := 4) hx hb d_Shelf_activeRows_31 (by decide) ?_
          exact ih (j + 1)  H locs ls (by omega) (by omega)  hM hS (lv_sub hl [2, 3, 1, 0] rfl)
  exact loop4 _ 0  s.heap [] ls (Nat.lt_succ_self _) (Nat.zero_le _)  hM hS (lv_sub hl [2, 3, 1, 0] rfl)
set_option maxHeartbeats 4000000 in
set_option maxRecDepth 100000 in
theorem c_shelfOf (l : Launch) (D : va_G) (k : Nat → ClassId) (f : hm) (h : Nat) (u : Nat → Int32) (ad : Nat → Nat) (x : Int32) (hh : f h = some (.inr (0, gsV u ad))) : hm_Mq l D vwCl (tyL k) y_GrantServer_shelfOf (Cond.code y_GrantServer_shelfOf b_GrantServer_shelfOf 2 (some (.object "GrantServer$Shelf")) :: TB) ({ frames := 0, cells := 0, slots := 0, locals := 0 }) [.ref h, .int x] f (fun (r : Option Nat) (f1 : hm) => z_shelf ad x = r ∧ f = f1) 0 0 := by
  refine hm_enter (Qc := fun sz => va_Qq _ (hm_R D vwCl (tyL k) f sz) (hm_A f sz)) (by decide) rfl (Nat.le_of_ble_eq_true rfl) ?_
  intro p e s m below meth cd ls X0 hr hlk hin hK hM hS hA hl Q hQ
  have X : CallFix p m cd b_GrantServer_shelfOf 2 s ([.ref h, .int x] : List Value).toArray TB R_GrantServer := ⟨X0.1, X0.2.1, X0.2.2.1, X0.2.2.2.1, fun w h => X0.2.2.2.2 w (List.mem_cons_of_mem _ h)⟩
  have hx := X.1; have hb := X.2.1; have hml := X.2.2.1; have hown := X.2.2.2.1; have hts := X.2.2.2.2
  have hl : lv_has ls 2 [(0, .ref h), (1, .int x)] := hl
  refine lv_iload_n hx hb d_GrantServer_shelfOf_0 rfl (lv_at hl 1 rfl) ?_
  by_cases h1 : x = 0
  · refine lv_tableIn (tgt := 28) hx hb d_GrantServer_shelfOf_1 (by rw [h1]; decide) (by rw [h1]; decide) (by rw [h1]; rfl) (by decide) ?_
    refine lv_aload_n hx hb d_GrantServer_shelfOf_28 rfl (lv_at hl 0 rfl) ?_
    refine hm_get X hK hM hh fl_GrantServer_20 (v := .ref (ad 4)) rfl d_GrantServer_shelfOf_29 ?_
    exact hm_aret X hQ hr (Or.inl ⟨_, rfl⟩) hlk hK hM hS (some (ad 4)) d_GrantServer_shelfOf_32 ⟨(by simp [z_shelf, h1]), rfl⟩
  by_cases h2 : x = 1
  · refine lv_tableIn (tgt := 33) hx hb d_GrantServer_shelfOf_1 (by rw [h2]; decide) (by rw [h2]; decide) (by rw [h2]; rfl) (by decide) ?_
    refine lv_aload_n hx hb d_GrantServer_shelfOf_33 rfl (lv_at hl 0 rfl) ?_
    refine hm_get X hK hM hh fl_GrantServer_24 (v := .ref (ad 5)) rfl d_GrantServer_shelfOf_34 ?_
    exact hm_aret X hQ hr (Or.inl ⟨_, rfl⟩) hlk hK hM hS (some (ad 5)) d_GrantServer_shelfOf_37 ⟨(by simp [z_shelf, h1, h2]), rfl⟩
  by_cases h3 : x = 2
  · refine lv_tableIn (tgt := 38) hx hb d_GrantServer_shelfOf_1 (by rw [h3]; decide) (by rw [h3]; decide) (by rw [h3]; rfl) (by decide) ?_
    refine lv_aload_n hx hb d_GrantServer_shelfOf_38 rfl (lv_at hl 0 rfl) ?_
    refine hm_get X hK hM hh fl_GrantServer_27 (v := .ref (ad 6)) rfl d_GrantServer_shelfOf_39 ?_
    exact hm_aret X hQ hr (Or.inl ⟨_, rfl⟩) hlk hK hM hS (some (ad 6)) d_GrantServer_shelfOf_42 ⟨(by simp [z_shelf, h1, h2, h3]), rfl⟩
  refine lv_tableOut (tgt := 43) hx hb d_GrantServer_shelfOf_1 (hm_sw3 h1 h2 h3) (by decide) ?_
  refine lv_null hx hb d_GrantServer_shelfOf_43 ?_
  exact hm_aret X hQ hr (Or.inl ⟨_, rfl⟩) hlk hK hM hS none d_GrantServer_shelfOf_44 ⟨(by simp [z_shelf, h1, h2, h3]), rfl⟩
set_option maxHeartbeats 4000000 in
set_option maxRecDepth 100000 in
theorem c_authorize_no (l : Launch) (D : va_G) (k : Nat → ClassId) (f : hm) (h : Nat) (u : Nat → Int32) (ad : Nat → Nat) (n : Nat) (x : Int32) (b : Int32) (d : Int32) (g : Int32) (y : Int32) (hh : f h = some (.inr (0, gsV u ad))) (hn : u 12 = nI n) (hx9 : x < 0 ∨ nI n ≤ x) : hm_Mi l D vwCl (tyL k) y_GrantServer_authorize (Cond.code y_GrantServer_authorize b_GrantServer_authorize 8 (some .int) :: TB) ({ frames := 1, cells := 0, slots := 0, locals := 21 }) [.ref h, .int x, .int b, .int d, .int g, .int y] f (fun (r : Int32) (f1 : hm) => (-1) = r ∧ f = f1) 0 0 := by
  refine hm_enter (Qc := fun sz => va_Qi _ (hm_R D vwCl (tyL k) f sz) (hm_A f sz)) (by decide) rfl (Nat.le_of_ble_eq_true rfl) ?_
  intro p e s m below meth cd ls X0 hr hlk hin hK hM hS hA hl Q hQ
  have X : CallFix p m cd b_GrantServer_authorize 8 s ([.ref h, .int x, .int b, .int d, .int g, .int y] : List Value).toArray TB R_GrantServer := ⟨X0.1, X0.2.1, X0.2.2.1, X0.2.2.2.1, fun w h => X0.2.2.2.2 w (List.mem_cons_of_mem _ h)⟩
  have hx := X.1; have hb := X.2.1; have hml := X.2.2.1; have hown := X.2.2.2.1; have hts := X.2.2.2.2
  have hl : lv_has ls 8 [(0, .ref h), (1, .int x), (2, .int b), (3, .int d), (4, .int g), (5, .int y)] := hl
  refine lv_aload_n hx hb d_GrantServer_authorize_0 rfl (lv_at hl 0 rfl) ?_
  refine lv_iload_n hx hb d_GrantServer_authorize_1 rfl (lv_at hl 1 rfl) ?_
  refine hm_callq hS hM hA (va_runV (As := [.int x]) (rest := []) X (c_clientWith_no l D k f h u ad n x hh hn hx9 s.heap.size) (hm_cwV hts me_GrantServer_clientWith wl_GrantServer_90 rfl rfl ⟨Nat.le_of_ble_eq_true rfl, Nat.le_of_ble_eq_true rfl⟩) (hm_preV hM hK hh rfl) rfl rfl hl.1 rfl (lv_room (Nat.le_of_ble_eq_true rfl)) d_GrantServer_authorize_2 ⟨Nat.le_of_ble_eq_true rfl, Nat.le_of_ble_eq_true rfl⟩) (fun r3 f1 H locs p2 hM hS => ?_)
  obtain ⟨rfl, rfl⟩ := p2
  refine lv_astoreN (lv' := [(6, .null), (0, .ref h), (1, .int x), (2, .int b), (3, .int d), (4, .int g), (5, .int y)]) hx hb d_GrantServer_authorize_5 hl (by decide) rfl (fun ls hl => ?_)
  refine lv_aloadN hx hb d_GrantServer_authorize_7 (lv_at hl 0 rfl) ?_
  refine lv_ifnullN (tgt := 24) hx hb d_GrantServer_authorize_9 (by decide) ?_
  refine lv_iconst (v := (-1)) hx hb d_GrantServer_authorize_24 (by decide) ?_
  exact hm_iret X hQ hr hlk hK hM hS d_GrantServer_authorize_25 ⟨rfl, rfl⟩
set_option maxHeartbeats 4000000 in
set_option maxRecDepth 100000 in
theorem c_exchange_no (l : Launch) (D : va_G) (k : Nat → ClassId) (f : hm) (h : Nat) (u : Nat → Int32) (ad : Nat → Nat) (a : Int32) (b : Int32) (d : Int32) (g : Int32) (hh : f h = some (.inr (0, gsV u ad))) (hx9 : u 13 = -1) : hm_Mi l D vwCl (tyL k) y_GrantServer_exchange (Cond.code y_GrantServer_exchange b_GrantServer_exchange 8 (some .int) :: TB) ({ frames := 0, cells := 0, slots := 0, locals := 0 }) [.ref h, .int a, .int b, .int d, .int g] f (fun (r : Int32) (f1 : hm) => (-2) = r ∧ f = f1) 0 0 := by
  refine hm_enter (Qc := fun sz => va_Qi _ (hm_R D vwCl (tyL k) f sz) (hm_A f sz)) (by decide) rfl (Nat.le_of_ble_eq_true rfl) ?_
  intro p e s m below meth cd ls X0 hr hlk hin hK hM hS hA hl Q hQ
  have X : CallFix p m cd b_GrantServer_exchange 8 s ([.ref h, .int a, .int b, .int d, .int g] : List Value).toArray TB R_GrantServer := ⟨X0.1, X0.2.1, X0.2.2.1, X0.2.2.2.1, fun w h => X0.2.2.2.2 w (List.mem_cons_of_mem _ h)⟩
  have hx := X.1; have hb := X.2.1; have hml := X.2.2.1; have hown := X.2.2.2.1; have hts := X.2.2.2.2
  have hl : lv_has ls 8 [(0, .ref h), (1, .int a), (2, .int b), (3, .int d), (4, .int g)] := hl
  refine lv_aload_n hx hb d_GrantServer_exchange_0 rfl (lv_at hl 0 rfl) ?_
  refine hm_get X hK hM hh fl_GrantServer_54 (v := .int (u 13)) rfl d_GrantServer_exchange_1 ?_
  refine lv_iconst (v := (-1)) hx hb d_GrantServer_exchange_4 (by decide) ?_
  refine lv_icmp_ne (tgt := 11) hx hb d_GrantServer_exchange_5 (by decide) (fun h1 => ?_) (fun h1 => ?_)
  · exact absurd hx9 h1
  · refine lv_bipush (v := (-2)) hx hb d_GrantServer_exchange_8 (by decide) ?_
    exact hm_iret X hQ hr hlk hK hM hS d_GrantServer_exchange_10 ⟨rfl, rfl⟩
set_option maxHeartbeats 4000000 in
set_option maxRecDepth 100000 in
theorem c_refresh_no (l : Launch) (D : va_G) (k : Nat → ClassId) (f : hm) (h : Nat) (u : Nat → Int32) (ad : Nat → Nat) (a : Int32) (b : Int32) (d : Int32) (hh : f h = some (.inr (0, gsV u ad))) (hx9 : u 13 = -1) : hm_Mi l D vwCl (tyL k) y_GrantServer_refresh (Cond.code y_GrantServer_refresh b_GrantServer_refresh 7 (some .int) :: TB) ({ frames := 0, cells := 0, slots := 0, locals := 0 }) [.ref h, .int a, .int b, .int d] f (fun (r : Int32) (f1 : hm) => (-2) = r ∧ f = f1) 0 0 := by
  refine hm_enter (Qc := fun sz => va_Qi _ (hm_R D vwCl (tyL k) f sz) (hm_A f sz)) (by decide) rfl (Nat.le_of_ble_eq_true rfl) ?_
  intro p e s m below meth cd ls X0 hr hlk hin hK hM hS hA hl Q hQ
  have X : CallFix p m cd b_GrantServer_refresh 7 s ([.ref h, .int a, .int b, .int d] : List Value).toArray TB R_GrantServer := ⟨X0.1, X0.2.1, X0.2.2.1, X0.2.2.2.1, fun w h => X0.2.2.2.2 w (List.mem_cons_of_mem _ h)⟩
  have hx := X.1; have hb := X.2.1; have hml := X.2.2.1; have hown := X.2.2.2.1; have hts := X.2.2.2.2
  have hl : lv_has ls 7 [(0, .ref h), (1, .int a), (2, .int b), (3, .int d)] := hl
  refine lv_aload_n hx hb d_GrantServer_refresh_0 rfl (lv_at hl 0 rfl) ?_
  refine hm_get X hK hM hh fl_GrantServer_54 (v := .int (u 13)) rfl d_GrantServer_refresh_1 ?_
  refine lv_iconst (v := (-1)) hx hb d_GrantServer_refresh_4 (by decide) ?_
  refine lv_icmp_ne (tgt := 11) hx hb d_GrantServer_refresh_5 (by decide) (fun h1 => ?_) (fun h1 => ?_)
  · exact absurd hx9 h1
  · refine lv_bipush (v := (-2)) hx hb d_GrantServer_refresh_8 (by decide) ?_
    exact hm_iret X hQ hr hlk hK hM hS d_GrantServer_refresh_10 ⟨rfl, rfl⟩
set_option maxHeartbeats 4000000 in
set_option maxRecDepth 100000 in
theorem c_revoke_no (l : Launch) (D : va_G) (k : Nat → ClassId) (f : hm) (h : Nat) (u : Nat → Int32) (ad : Nat → Nat) (a : Int32) (b : Int32) (hh : f h = some (.inr (0, gsV u ad))) (hx9 : u 13 = -1) : hm_Mi l D vwCl (tyL k) y_GrantServer_revoke (Cond.code y_GrantServer_revoke b_GrantServer_revoke 4 (some .int) :: TB) ({ frames := 0, cells := 0, slots := 0, locals := 0 }) [.ref h, .int a, .int b] f (fun (r : Int32) (f1 : hm) => (-2) = r ∧ f = f1) 0 0 := by
  refine hm_enter (Qc := fun sz => va_Qi _ (hm_R D vwCl (tyL k) f sz) (hm_A f sz)) (by decide) rfl (Nat.le_of_ble_eq_true rfl) ?_
  intro p e s m below meth cd ls X0 hr hlk hin hK hM hS hA hl Q hQ
  have X : CallFix p m cd b_GrantServer_revoke 4 s ([.ref h, .int a, .int b] : List Value).toArray TB R_GrantServer := ⟨X0.1, X0.2.1, X0.2.2.1, X0.2.2.2.1, fun w h => X0.2.2.2.2 w (List.mem_cons_of_mem _ h)⟩
  have hx := X.1; have hb := X.2.1; have hml := X.2.2.1; have hown := X.2.2.2.1; have hts := X.2.2.2.2
  have hl : lv_has ls 4 [(0, .ref h), (1, .int a), (2, .int b)] := hl
  refine lv_aload_n hx hb d_GrantServer_revoke_0 rfl (lv_at hl 0 rfl) ?_
  refine hm_get X hK hM hh fl_GrantServer_54 (v := .int (u 13)) rfl d_GrantServer_revoke_1 ?_
  refine lv_iconst (v := (-1)) hx hb d_GrantServer_revoke_4 (by decide) ?_
  refine lv_icmp_ne (tgt := 11) hx hb d_GrantServer_revoke_5 (by decide) (fun h1 => ?_) (fun h1 => ?_)
  · exact absurd hx9 h1
  · refine lv_bipush (v := (-2)) hx hb d_GrantServer_revoke_8 (by decide) ?_
    exact hm_iret X hQ hr hlk hK hM hS d_GrantServer_revoke_10 ⟨rfl, rfl⟩
end
section
def R_JString : String := "java/lang/String"
def R_JStringLatin1 : String := "java/lang/StringLatin1"
def R_JPre : String := "jdk/internal/util/Preconditions"
/-- the String constants: lengths, bytes, where they stand -/
def st_len : List Nat := [7, 7, 7, 7, 9, 1, 64, 5, 5, 5, 5, 7]
def st_byt : List (List Int32) := [[123, 34, 115, 117, 98, 34, 58], [44, 34, 97, 117, 100, 34, 58], [44, 34, 101, 120, 112, 34, 58], [44, 34, 106, 116, 105, 34, 58], [44, 34, 115, 99, 111, 112, 101, 34, 58], [125], [65, 66, 67, 68, 69, 70, 71, 72, 73, 74, 75, 76, 77, 78, 79, 80, 81, 82, 83, 84, 85, 86, 87, 88, 89, 90, 97, 98, 99, 100, 101, 102, 103, 104, 105, 106, 107, 108, 109, 110, 111, 112, 113, 114, 115, 116, 117, 118, 119, 120, 121, 122, 48, 49, 50, 51, 52, 53, 54, 55, 56, 57, 45, 95], [34, 115, 117, 98, 34], [34, 97, 117, 100, 34], [34, 101, 120, 112, 34], [34, 106, 116, 105, 34], [34, 115, 99, 111, 112, 101, 34]]
def st_own (i : Nat) : String := match i with
  | 0 => "GrantServer"
  | 1 => "GrantServer"
  | 2 => "GrantServer"
  | 3 => "GrantServer"
  | 4 => "GrantServer"
  | 5 => "GrantServer"
  | 6 => "GrantServer$Wrapping"
  | 7 => "GrantServer$ClaimsReader"
  | 8 => "GrantServer$ClaimsReader"
  | 9 => "GrantServer$ClaimsReader"
  | 10 => "GrantServer$ClaimsReader"
  | _ => "GrantServer$ClaimsReader"
def st_idx (i : Nat) : Nat := match i with
  | 0 => 266
  | 1 => 275
  | 2 => 277
  | 3 => 282
  | 4 => 284
  | 5 => 286
  | 6 => 22
  | 7 => 76
  | 8 => 78
  | 9 => 80
  | 10 => 82
  | _ => 84
def st_txt (i : Nat) : String := match i with
  | 0 => "{\"sub\":"
  | 1 => ",\"aud\":"
  | 2 => ",\"exp\":"
  | 3 => ",\"jti\":"
  | 4 => ",\"scope\":"
  | 5 => "}"
  | 6 => "ABCDEFGHIJKLMNOPQRSTUVWXYZabcdefghijklmnopqrstuvwxyz0123456789-_"
  | 7 => "\"sub\""
  | 8 => "\"aud\""
  | 9 => "\"exp\""
  | 10 => "\"jti\""
  | _ => "\"scope\""
def z_enc (x : Int32) : Int32 := if x < 0 ∨ 255 < x then 0 else 1
/-- the first place, from j on, of t places of constant i, that holds the byte y -/
def st_fi (i : Nat) (y : Int32) : Nat → Nat → Int32
  | 0, _ => -1
  | t + 1, j => if (st_byt.getD i []).getD j 0 = y then nI j else st_fi i y t (j + 1)
/-- a character of a constant -/
def st_chr (i j : Nat) : Nat := ((st_byt.getD i []).getD j 0).toNatClampNeg
theorem st_ok : ∀ i, i < 12 → ∀ j, j < st_len.getD i 0 → ((((st_byt.getD i []).getD j 0) &&& 255).toUInt32 % 65536).toInt32 = nI (st_chr i j) ∧ st_chr i j < 128 ∧ (st_byt.getD i []).getD j 0 = nI (st_chr i j) := by decide +kernel
theorem st_ln : ∀ i, i < 12 → st_len.getD i 0 ≤ 64 := by decide +kernel
def hm_Z (sA sV : Nat → Nat) (A : Nat → Prop) (U : State) (H : Heap) : Prop := vk_S 12 st_len st_byt sA sV A U H ∧ va_Z "java/lang/String" "COMPACT_STRINGS" "Z" (.int 1) A U H ∧ (∀ i, i < 12 → vk_R (st_own i) (st_idx i) (st_txt i) (sA i) U) ∧ ∃ o : Option Nat, va_Z "jdk/internal/util/Preconditions" "SIOOBE_FORMATTER" "Ljava/util/function/BiFunction;" (va_rf o) A U H
theorem hm_Z.at {sA sV : Nat → Nat} {A B : Nat → Prop} {s U : State} {H : Heap} {locs : List Loc} (hZ : hm_Z sA sV A s s.heap) (hS : va_S A s.heap H locs) (hF : ∀ q, B q → A q) (hU : U.heap = H) (hW : s.WarmedH U.vm) : hm_Z sA sV B U U.heap := by
  rw [hU]
  exact ⟨((hZ.1.kept hS.2.1).narrow hF).moved hW.alike, ((hZ.2.1.kept hS.2.1).narrow hF).moved hW.alike, fun i hi => (hZ.2.2.1 i hi).warm hW, hZ.2.2.2.elim fun o ho => ⟨o, ((ho.kept hS.2.1).narrow hF).moved hW.alike⟩⟩
def hm_Bz (sA sV : Nat → Nat) (D : va_G) (cl : List vw_C) (tys : List (ClassId × FieldType)) (f : hm) (sz : Nat) (U : State) : Prop := hm_B D cl tys f sz U ∧ hm_Z sA sV (hm_A f sz) U U.heap
section HMZ
variable {p : Program} {l : Launch} {e : Env} {R : Room} {s : State} {m : MethodId} {args : Array Value} {below : List Frame} {meth : Method} {c : Code} {H : Heap} {locs : List Loc} {cells slots : Nat} {Q : State → Prop}
variable {cc : ByteArray} {pc : Nat} {ls : Array Slot} {rest : List Value} {D : va_G} {cl : List vw_C} {A : Nat → Prop} {tys : List (ClassId × FieldType)} {f f0 : hm} {nL mc ms : Nat} {Ts : List Cond} {own : String} {sA sV : Nat → Nat}
theorem hm_blindZ {sz : Nat} {as : List Value} : FrameBlind (va_Pc as (hm_Bz sA sV D cl tys f sz)) := fun a U g mk q => by
  obtain ⟨q0, ⟨q1, qP, qK⟩, q2, q3, q4, o, q5⟩ := q
  exact ⟨q0, ⟨q1, qP, hm_K.moved (u := U) (U := U.calling g mk a) (Vm.Alike.refl U.vm) qK⟩, vk_S.moved (u := U) (U := U.calling g mk a) (Vm.Alike.refl U.vm) q2, va_Z.moved (u := U) (U := U.calling g mk a) (Vm.Alike.refl U.vm) q3, fun i hi => vk_R.same (u := U) rfl (q4 i hi), o, va_Z.moved (u := U) (U := U.calling g mk a) (Vm.Alike.refl U.vm) q5⟩
theorem hm_preSZ (hZ : hm_Z sA sV A s s.heap) (hS : va_S A s.heap H locs) (hA : ∀ q, s.heap.size ≤ q → A q) (hM : hm_W D cl A f H) (hK : hm_K D cl tys s) {as : List Value} : PreS s H (va_Pc as (hm_Bz sA sV D cl tys f H.size)) as :=
  ⟨hm_blindZ, fun U hU hW => ⟨rfl, ⟨by rw [hU], by rw [hU]; exact hM.weaken (fun _ _ => trivial), hm_K.moved hW.alike hK⟩, hZ.at hS (hM.free hS hA) hU hW⟩⟩
theorem hm_preVZ (hZ : hm_Z sA sV A s s.heap) (hS : va_S A s.heap H locs) (hA : ∀ q, s.heap.size ≤ q → A q) (hM : hm_W D cl A f H) (hK : hm_K D cl tys s) {as : List Value} {b ci N : Nat} {fs : List Value} {C : String} {T : u_T} (he : f b = some (.inr (ci, fs))) (hc : cl[ci]? = some (C, T, N)) : PreV s H C b (va_Pc (.ref b :: as) (hm_Bz sA sV D cl tys f H.size)) as := by
  refine ⟨hm_blindZ, (hm_preV (as := as) hM hK he hc).2.1, fun U hU hW => ⟨rfl, ⟨by rw [hU], by rw [hU]; exact hM.weaken (fun _ _ => trivial), hm_K.moved hW.alike hK⟩, hZ.at hS (hM.free hS hA) hU hW⟩⟩
theorem hm_preVT (hZ : hm_Z sA sV A s s.heap) (hS : va_S A s.heap H locs) (hA : ∀ q, s.heap.size ≤ q → A q) (hM : hm_W D cl A f H) (hK : hm_K D cl tys s) {as : List Value} {i : Nat} (hi : i < 12) : PreV s H "java/lang/String" (sA i) (va_Pc (.ref (sA i) :: as) (hm_Bz sA sV D cl tys f H.size)) as := by
  refine ⟨hm_blindZ, vk_recv hZ.1 hi hS, fun U hU hW => ⟨rfl, ⟨by rw [hU], by rw [hU]; exact hM.weaken (fun _ _ => trivial), hm_K.moved hW.alike hK⟩, hZ.at hS (hM.free hS hA) hU hW⟩⟩
theorem hm_enterZ {y : MethodName} {ws ws' : List Cond} {rm : Room} {as : List Value} {Qc : Nat → Array Value → State → Outcome → State → Prop} {maxL : Nat} {ret : Option FieldType} (hy : plainName y.cls = true) (hw : ws = Cond.code y cc maxL ret :: ws') (hlen : (lg_sl as).length ≤ maxL)
    (body : ∀ (p : Program) (e : Env) (s : State) (m : MethodId) (below : List Frame) (meth : Method) (c : Code) (ls : Array Slot), hm_Z sA sV (hm_A f s.heap.size) s s.heap → CallFix p m c cc maxL s as.toArray ws y.cls → meth.sig.returnType = ret → meth.locks = false → meth.name = y.name → hm_K D cl tys s → hm_W D cl (hm_A f s.heap.size) f s.heap → va_S (hm_A f s.heap.size) s.heap s.heap [] → (∀ q, s.heap.size ≤ q → hm_A f s.heap.size q) → lv_has ls maxL (lv_args 0 as) →
      ∀ Q : State → Prop, MQ below (Qc s.heap.size) as.toArray s mc ms (hm_A f s.heap.size) = Q → W p l e rm s m as.toArray below meth c s.heap [] 0 0 Q (F0 m 0 ls [])) : ∀ sz, Met l y ws rm (va_Pc as (hm_Bz sA sV D cl tys f sz)) (Qc sz) mc ms (hm_A f sz) := by
  intro sz
  refine Met.ofW (cc := cc) (maxL := maxL) (ret := ret) hy hw ?_
  intro p e s m args below meth c s₁ B hml hv
  obtain ⟨rfl, ⟨rfl, hM, hK⟩, hZ⟩ := hv
  rw [lg_entry_eq]
  exact body p e s m below meth c _ hZ ⟨B.exec, B.bytes, hml, findClass_of_methodNamed B.named, atoms_spec (ws := ws) B.pre⟩ B.returns B.notSynchronized (name_of_methodNamed B.named B.method).1 hK hM.self va_S.rf (fun q h => Or.inr h) (lv_entry as hlen) _ rfl
end HMZ
section HMT
variable {R : Room} {s : State} {args : Array Value} {own : String} {idx maxL mc ms n : Nat} {y : MethodName} {bytes : ByteArray} {ret : Option FieldType} {rm : Room}
theorem hm_cwT (hts : ∀ w ∈ TB, w.before args s = true) (hm : hm_meS y bytes maxL ret n) (hl : Cond.methodLink own idx y ∈ TB) (hrc : rm.cells = mc) (hrs : rm.slots = ms) (hR : rm.frames + 1 ≤ R.frames ∧ 8 + (maxL + 11) + rm.locals ≤ R.locals) : CallB R s args own idx y bytes maxL ret (Cond.code y bytes maxL ret :: TB) rm mc ms n ∧ (Cond.static y).before args s = true := by
  obtain ⟨⟨h1, h2, h3⟩, h4⟩ := hm
  refine va_cwS n hts (hm_gd fun w hw => ?_) rfl hrc hrs h3 hR
  unfold va_wsS at hw
  rcases List.mem_append.mp hw with h | h
  · simp only [List.mem_cons, List.not_mem_nil, or_false] at h
    rcases h with rfl | rfl | rfl
    · exact hl
    · exact h4
    · exact h2
  · rcases List.mem_cons.mp h with rfl | h
    · exact h1
    · exact h
end HMT
abbrev hm_MvZ (l : Launch) (sA sV : Nat → Nat) (D : va_G) (cl : List vw_C) (tys : List (ClassId × FieldType)) (y : MethodName) (ws : List Cond) (rm : Room) (as : List Value) (f : hm) (post : hm → Prop) (mc ms : Nat) : Prop := ∀ sz : Nat, Met l y ws rm (va_Pc as (hm_Bz sA sV D cl tys f sz)) (va_Qv post (hm_R D cl tys f sz) (hm_A f sz)) mc ms (hm_A f sz)
abbrev hm_MiZ (l : Launch) (sA sV : Nat → Nat) (D : va_G) (cl : List vw_C) (tys : List (ClassId × FieldType)) (y : MethodName) (ws : List Cond) (rm : Room) (as : List Value) (f : hm) (post : Int32 → hm → Prop) (mc ms : Nat) : Prop := ∀ sz : Nat, Met l y ws rm (va_Pc as (hm_Bz sA sV D cl tys f sz)) (va_Qi post (hm_R D cl tys f sz) (hm_A f sz)) mc ms (hm_A f sz)
abbrev hm_MqZ (l : Launch) (sA sV : Nat → Nat) (D : va_G) (cl : List vw_C) (tys : List (ClassId × FieldType)) (y : MethodName) (ws : List Cond) (rm : Room) (as : List Value) (f : hm) (post : Option Nat → hm → Prop) (mc ms : Nat) : Prop := ∀ sz : Nat, Met l y ws rm (va_Pc as (hm_Bz sA sV D cl tys f sz)) (va_Qq post (hm_R D cl tys f sz) (hm_A f sz)) mc ms (hm_A f sz)
abbrev b_JString_charAt : ByteArray := prog_13_method_56_code
def y_JString_charAt : MethodName := ⟨R_JString, "charAt", "(I)C"⟩
abbrev b_JString_isLatin1 : ByteArray := prog_13_method_154_code
def y_JString_isLatin1 : MethodName := ⟨R_JString, "isLatin1", "()Z"⟩
abbrev b_JString_coder : ByteArray := prog_13_method_152_code
def y_JString_coder : MethodName := ⟨R_JString, "coder", "()B"⟩
abbrev b_JString_length : ByteArray := prog_13_method_54_code
def y_JString_length : MethodName := ⟨R_JString, "length", "()I"⟩
abbrev b_JString_checkIndex : ByteArray := prog_13_method_155_code
def y_JString_checkIndex : MethodName := ⟨R_JString, "checkIndex", "(II)V"⟩
abbrev b_JString_indexOf : ByteArray := prog_13_method_79_code
def y_JString_indexOf : MethodName := ⟨R_JString, "indexOf", "(I)I"⟩
abbrev b_JString_indexOf2 : ByteArray := prog_13_method_80_code
def y_JString_indexOf2 : MethodName := ⟨R_JString, "indexOf", "(II)I"⟩
abbrev b_JStringLatin1_charAt : ByteArray := prog_14_method_2_code
def y_JStringLatin1_charAt : MethodName := ⟨R_JStringLatin1, "charAt", "([BI)C"⟩
abbrev b_JStringLatin1_indexOf : ByteArray := prog_14_method_22_code
def y_JStringLatin1_indexOf : MethodName := ⟨R_JStringLatin1, "indexOf", "([BIII)I"⟩
abbrev b_JStringLatin1_canEncode : ByteArray := prog_14_method_4_code
def y_JStringLatin1_canEncode : MethodName := ⟨R_JStringLatin1, "canEncode", "(I)Z"⟩
abbrev b_JStringLatin1_indexOfChar : ByteArray := prog_14_method_23_code
def y_JStringLatin1_indexOfChar : MethodName := ⟨R_JStringLatin1, "indexOfChar", "([BIII)I"⟩
abbrev b_JPre_checkIndex : ByteArray := prog_17_method_11_code
def y_JPre_checkIndex : MethodName := ⟨R_JPre, "checkIndex", "(IILjava/util/function/BiFunction;)I"⟩
end
section
theorem d_JString_charAt_0 : decode b_JString_charAt 0 = .ok (.aload_n 0, 1) := by decide +kernel
theorem d_JString_charAt_1 : decode b_JString_charAt 1 = .ok (.invokevirtual 492, 3) := by decide +kernel
theorem d_JString_charAt_4 : decode b_JString_charAt 4 = .ok (.ifCond .eq 12, 3) := by decide +kernel
theorem d_JString_charAt_7 : decode b_JString_charAt 7 = .ok (.aload_n 0, 1) := by decide +kernel
theorem d_JString_charAt_8 : decode b_JString_charAt 8 = .ok (.getfield 9, 3) := by decide +kernel
theorem d_JString_charAt_11 : decode b_JString_charAt 11 = .ok (.iload_n 1, 1) := by decide +kernel
theorem d_JString_charAt_12 : decode b_JString_charAt 12 = .ok (.invokestatic 495, 3) := by decide +kernel
theorem d_JString_charAt_15 : decode b_JString_charAt 15 = .ok (.ireturn, 1) := by decide +kernel
theorem d_JString_charAt_16 : decode b_JString_charAt 16 = .ok (.aload_n 0, 1) := by decide +kernel
theorem d_JString_charAt_17 : decode b_JString_charAt 17 = .ok (.getfield 9, 3) := by decide +kernel
theorem d_JString_charAt_20 : decode b_JString_charAt 20 = .ok (.iload_n 1, 1) := by decide +kernel
theorem d_JString_charAt_21 : decode b_JString_charAt 21 = .ok (.invokestatic 498, 3) := by decide +kernel
theorem d_JString_charAt_24 : decode b_JString_charAt 24 = .ok (.ireturn, 1) := by decide +kernel
theorem d_JString_isLatin1_0 : decode b_JString_isLatin1 0 = .ok (.getstatic 38, 3) := by decide +kernel
theorem d_JString_isLatin1_3 : decode b_JString_isLatin1 3 = .ok (.ifCond .eq 14, 3) := by decide +kernel
theorem d_JString_isLatin1_6 : decode b_JString_isLatin1 6 = .ok (.aload_n 0, 1) := by decide +kernel
theorem d_JString_isLatin1_7 : decode b_JString_isLatin1 7 = .ok (.getfield 15, 3) := by decide +kernel
theorem d_JString_isLatin1_10 : decode b_JString_isLatin1 10 = .ok (.ifCond .ne 7, 3) := by decide +kernel
theorem d_JString_isLatin1_13 : decode b_JString_isLatin1 13 = .ok (.iconst 1, 1) := by decide +kernel
theorem d_JString_isLatin1_14 : decode b_JString_isLatin1 14 = .ok (.goto 4, 3) := by decide +kernel
theorem d_JString_isLatin1_17 : decode b_JString_isLatin1 17 = .ok (.iconst 0, 1) := by decide +kernel
theorem d_JString_isLatin1_18 : decode b_JString_isLatin1 18 = .ok (.ireturn, 1) := by decide +kernel
theorem d_JString_coder_0 : decode b_JString_coder 0 = .ok (.getstatic 38, 3) := by decide +kernel
theorem d_JString_coder_3 : decode b_JString_coder 3 = .ok (.ifCond .eq 10, 3) := by decide +kernel
theorem d_JString_coder_6 : decode b_JString_coder 6 = .ok (.aload_n 0, 1) := by decide +kernel
theorem d_JString_coder_7 : decode b_JString_coder 7 = .ok (.getfield 15, 3) := by decide +kernel
theorem d_JString_coder_10 : decode b_JString_coder 10 = .ok (.goto 4, 3) := by decide +kernel
theorem d_JString_coder_13 : decode b_JString_coder 13 = .ok (.iconst 1, 1) := by decide +kernel
theorem d_JString_coder_14 : decode b_JString_coder 14 = .ok (.ireturn, 1) := by decide +kernel
theorem d_JString_length_0 : decode b_JString_length 0 = .ok (.aload_n 0, 1) := by decide +kernel
theorem d_JString_length_1 : decode b_JString_length 1 = .ok (.getfield 9, 3) := by decide +kernel
theorem d_JString_length_4 : decode b_JString_length 4 = .ok (.arraylength, 1) := by decide +kernel
theorem d_JString_length_5 : decode b_JString_length 5 = .ok (.aload_n 0, 1) := by decide +kernel
theorem d_JString_length_6 : decode b_JString_length 6 = .ok (.invokevirtual 335, 3) := by decide +kernel
theorem d_JString_length_9 : decode b_JString_length 9 = .ok (.ishr, 1) := by decide +kernel
theorem d_JString_length_10 : decode b_JString_length 10 = .ok (.ireturn, 1) := by decide +kernel
theorem d_JString_checkIndex_0 : decode b_JString_checkIndex 0 = .ok (.iload_n 0, 1) := by decide +kernel
theorem d_JString_checkIndex_1 : decode b_JString_checkIndex 1 = .ok (.iload_n 1, 1) := by decide +kernel
theorem d_JString_checkIndex_2 : decode b_JString_checkIndex 2 = .ok (.getstatic 1053, 3) := by decide +kernel
theorem d_JString_checkIndex_5 : decode b_JString_checkIndex 5 = .ok (.invokestatic 1059, 3) := by decide +kernel
theorem d_JString_checkIndex_8 : decode b_JString_checkIndex 8 = .ok (.pop, 1) := by decide +kernel
theorem d_JString_checkIndex_9 : decode b_JString_checkIndex 9 = .ok (.return_, 1) := by decide +kernel
theorem d_JString_indexOf_0 : decode b_JString_indexOf 0 = .ok (.aload_n 0, 1) := by decide +kernel
theorem d_JString_indexOf_1 : decode b_JString_indexOf 1 = .ok (.iload_n 1, 1) := by decide +kernel
theorem d_JString_indexOf_2 : decode b_JString_indexOf 2 = .ok (.iconst 0, 1) := by decide +kernel
theorem d_JString_indexOf_3 : decode b_JString_indexOf 3 = .ok (.invokevirtual 633, 3) := by decide +kernel
theorem d_JString_indexOf_6 : decode b_JString_indexOf 6 = .ok (.ireturn, 1) := by decide +kernel
theorem d_JString_indexOf2_0 : decode b_JString_indexOf2 0 = .ok (.aload_n 0, 1) := by decide +kernel
theorem d_JString_indexOf2_1 : decode b_JString_indexOf2 1 = .ok (.invokevirtual 492, 3) := by decide +kernel
theorem d_JString_indexOf2_4 : decode b_JString_indexOf2 4 = .ok (.ifCond .eq 19, 3) := by decide +kernel
theorem d_JString_indexOf2_7 : decode b_JString_indexOf2 7 = .ok (.aload_n 0, 1) := by decide +kernel
theorem d_JString_indexOf2_8 : decode b_JString_indexOf2 8 = .ok (.getfield 9, 3) := by decide +kernel
theorem d_JString_indexOf2_11 : decode b_JString_indexOf2 11 = .ok (.iload_n 1, 1) := by decide +kernel
theorem d_JString_indexOf2_12 : decode b_JString_indexOf2 12 = .ok (.iload_n 2, 1) := by decide +kernel
theorem d_JString_indexOf2_13 : decode b_JString_indexOf2 13 = .ok (.aload_n 0, 1) := by decide +kernel
theorem d_JString_indexOf2_14 : decode b_JString_indexOf2 14 = .ok (.invokevirtual 505, 3) := by decide +kernel
theorem d_JString_indexOf2_17 : decode b_JString_indexOf2 17 = .ok (.invokestatic 637, 3) := by decide +kernel
theorem d_JString_indexOf2_20 : decode b_JString_indexOf2 20 = .ok (.goto 16, 3) := by decide +kernel
theorem d_JString_indexOf2_23 : decode b_JString_indexOf2 23 = .ok (.aload_n 0, 1) := by decide +kernel
theorem d_JString_indexOf2_24 : decode b_JString_indexOf2 24 = .ok (.getfield 9, 3) := by decide +kernel
theorem d_JString_indexOf2_27 : decode b_JString_indexOf2 27 = .ok (.iload_n 1, 1) := by decide +kernel
theorem d_JString_indexOf2_28 : decode b_JString_indexOf2 28 = .ok (.iload_n 2, 1) := by decide +kernel
theorem d_JString_indexOf2_29 : decode b_JString_indexOf2 29 = .ok (.aload_n 0, 1) := by decide +kernel
theorem d_JString_indexOf2_30 : decode b_JString_indexOf2 30 = .ok (.invokevirtual 505, 3) := by decide +kernel
theorem d_JString_indexOf2_33 : decode b_JString_indexOf2 33 = .ok (.invokestatic 640, 3) := by decide +kernel
theorem d_JString_indexOf2_36 : decode b_JString_indexOf2 36 = .ok (.ireturn, 1) := by decide +kernel
theorem d_JStringLatin1_charAt_0 : decode b_JStringLatin1_charAt 0 = .ok (.iload_n 1, 1) := by decide +kernel
theorem d_JStringLatin1_charAt_1 : decode b_JStringLatin1_charAt 1 = .ok (.aload_n 0, 1) := by decide +kernel
theorem d_JStringLatin1_charAt_2 : decode b_JStringLatin1_charAt 2 = .ok (.arraylength, 1) := by decide +kernel
theorem d_JStringLatin1_charAt_3 : decode b_JStringLatin1_charAt 3 = .ok (.invokestatic 9, 3) := by decide +kernel
theorem d_JStringLatin1_charAt_6 : decode b_JStringLatin1_charAt 6 = .ok (.aload_n 0, 1) := by decide +kernel
theorem d_JStringLatin1_charAt_7 : decode b_JStringLatin1_charAt 7 = .ok (.iload_n 1, 1) := by decide +kernel
theorem d_JStringLatin1_charAt_8 : decode b_JStringLatin1_charAt 8 = .ok (.baload, 1) := by decide +kernel
theorem d_JStringLatin1_charAt_9 : decode b_JStringLatin1_charAt 9 = .ok (.sipush 255, 3) := by decide +kernel
theorem d_JStringLatin1_charAt_12 : decode b_JStringLatin1_charAt 12 = .ok (.iand, 1) := by decide +kernel
theorem d_JStringLatin1_charAt_13 : decode b_JStringLatin1_charAt 13 = .ok (.i2c, 1) := by decide +kernel
theorem d_JStringLatin1_charAt_14 : decode b_JStringLatin1_charAt 14 = .ok (.ireturn, 1) := by decide +kernel
theorem d_JStringLatin1_indexOf_0 : decode b_JStringLatin1_indexOf 0 = .ok (.iload_n 1, 1) := by decide +kernel
theorem d_JStringLatin1_indexOf_1 : decode b_JStringLatin1_indexOf 1 = .ok (.invokestatic 88, 3) := by decide +kernel
theorem d_JStringLatin1_indexOf_4 : decode b_JStringLatin1_indexOf 4 = .ok (.ifCond .ne 5, 3) := by decide +kernel
theorem d_JStringLatin1_indexOf_7 : decode b_JStringLatin1_indexOf 7 = .ok (.iconst (-1), 1) := by decide +kernel
theorem d_JStringLatin1_indexOf_8 : decode b_JStringLatin1_indexOf 8 = .ok (.ireturn, 1) := by decide +kernel
theorem d_JStringLatin1_indexOf_9 : decode b_JStringLatin1_indexOf 9 = .ok (.iload_n 2, 1) := by decide +kernel
theorem d_JStringLatin1_indexOf_10 : decode b_JStringLatin1_indexOf 10 = .ok (.iconst 0, 1) := by decide +kernel
theorem d_JStringLatin1_indexOf_11 : decode b_JStringLatin1_indexOf 11 = .ok (.invokestatic 92, 3) := by decide +kernel
theorem d_JStringLatin1_indexOf_14 : decode b_JStringLatin1_indexOf 14 = .ok (.istore_n 2, 1) := by decide +kernel
theorem d_JStringLatin1_indexOf_15 : decode b_JStringLatin1_indexOf 15 = .ok (.iload_n 3, 1) := by decide +kernel
theorem d_JStringLatin1_indexOf_16 : decode b_JStringLatin1_indexOf 16 = .ok (.aload_n 0, 1) := by decide +kernel
theorem d_JStringLatin1_indexOf_17 : decode b_JStringLatin1_indexOf 17 = .ok (.arraylength, 1) := by decide +kernel
theorem d_JStringLatin1_indexOf_18 : decode b_JStringLatin1_indexOf 18 = .ok (.invokestatic 38, 3) := by decide +kernel
theorem d_JStringLatin1_indexOf_21 : decode b_JStringLatin1_indexOf 21 = .ok (.istore_n 3, 1) := by decide +kernel
theorem d_JStringLatin1_indexOf_22 : decode b_JStringLatin1_indexOf 22 = .ok (.iload_n 2, 1) := by decide +kernel
theorem d_JStringLatin1_indexOf_23 : decode b_JStringLatin1_indexOf 23 = .ok (.iload_n 3, 1) := by decide +kernel
theorem d_JStringLatin1_indexOf_24 : decode b_JStringLatin1_indexOf 24 = .ok (.if_icmp .lt 5, 3) := by decide +kernel
theorem d_JStringLatin1_indexOf_27 : decode b_JStringLatin1_indexOf 27 = .ok (.iconst (-1), 1) := by decide +kernel
theorem d_JStringLatin1_indexOf_28 : decode b_JStringLatin1_indexOf 28 = .ok (.ireturn, 1) := by decide +kernel
theorem d_JStringLatin1_indexOf_29 : decode b_JStringLatin1_indexOf 29 = .ok (.aload_n 0, 1) := by decide +kernel
theorem d_JStringLatin1_indexOf_30 : decode b_JStringLatin1_indexOf 30 = .ok (.iload_n 1, 1) := by decide +kernel
theorem d_JStringLatin1_indexOf_31 : decode b_JStringLatin1_indexOf 31 = .ok (.iload_n 2, 1) := by decide +kernel
theorem d_JStringLatin1_indexOf_32 : decode b_JStringLatin1_indexOf 32 = .ok (.iload_n 3, 1) := by decide +kernel
theorem d_JStringLatin1_indexOf_33 : decode b_JStringLatin1_indexOf 33 = .ok (.invokestatic 95, 3) := by decide +kernel
theorem d_JStringLatin1_indexOf_36 : decode b_JStringLatin1_indexOf 36 = .ok (.ireturn, 1) := by decide +kernel
theorem d_JStringLatin1_canEncode_0 : decode b_JStringLatin1_canEncode 0 = .ok (.iload_n 0, 1) := by decide +kernel
theorem d_JStringLatin1_canEncode_1 : decode b_JStringLatin1_canEncode 1 = .ok (.ifCond .lt 14, 3) := by decide +kernel
theorem d_JStringLatin1_canEncode_4 : decode b_JStringLatin1_canEncode 4 = .ok (.iload_n 0, 1) := by decide +kernel
theorem d_JStringLatin1_canEncode_5 : decode b_JStringLatin1_canEncode 5 = .ok (.sipush 255, 3) := by decide +kernel
theorem d_JStringLatin1_canEncode_8 : decode b_JStringLatin1_canEncode 8 = .ok (.if_icmp .gt 7, 3) := by decide +kernel
theorem d_JStringLatin1_canEncode_11 : decode b_JStringLatin1_canEncode 11 = .ok (.iconst 1, 1) := by decide +kernel
theorem d_JStringLatin1_canEncode_12 : decode b_JStringLatin1_canEncode 12 = .ok (.goto 4, 3) := by decide +kernel
theorem d_JStringLatin1_canEncode_15 : decode b_JStringLatin1_canEncode 15 = .ok (.iconst 0, 1) := by decide +kernel
theorem d_JStringLatin1_canEncode_16 : decode b_JStringLatin1_canEncode 16 = .ok (.ireturn, 1) := by decide +kernel
theorem d_JStringLatin1_indexOfChar_0 : decode b_JStringLatin1_indexOfChar 0 = .ok (.iload_n 1, 1) := by decide +kernel
theorem d_JStringLatin1_indexOfChar_1 : decode b_JStringLatin1_indexOfChar 1 = .ok (.i2b, 1) := by decide +kernel
theorem d_JStringLatin1_indexOfChar_2 : decode b_JStringLatin1_indexOfChar 2 = .ok (.istore 4, 2) := by decide +kernel
theorem d_JStringLatin1_indexOfChar_4 : decode b_JStringLatin1_indexOfChar 4 = .ok (.iload_n 2, 1) := by decide +kernel
theorem d_JStringLatin1_indexOfChar_5 : decode b_JStringLatin1_indexOfChar 5 = .ok (.istore 5, 2) := by decide +kernel
theorem d_JStringLatin1_indexOfChar_7 : decode b_JStringLatin1_indexOfChar 7 = .ok (.iload 5, 2) := by decide +kernel
theorem d_JStringLatin1_indexOfChar_9 : decode b_JStringLatin1_indexOfChar 9 = .ok (.iload_n 3, 1) := by decide +kernel
theorem d_JStringLatin1_indexOfChar_10 : decode b_JStringLatin1_indexOfChar 10 = .ok (.if_icmp .ge 21, 3) := by decide +kernel
theorem d_JStringLatin1_indexOfChar_13 : decode b_JStringLatin1_indexOfChar 13 = .ok (.aload_n 0, 1) := by decide +kernel
theorem d_JStringLatin1_indexOfChar_14 : decode b_JStringLatin1_indexOfChar 14 = .ok (.iload 5, 2) := by decide +kernel
theorem d_JStringLatin1_indexOfChar_16 : decode b_JStringLatin1_indexOfChar 16 = .ok (.baload, 1) := by decide +kernel
theorem d_JStringLatin1_indexOfChar_17 : decode b_JStringLatin1_indexOfChar 17 = .ok (.iload 4, 2) := by decide +kernel
theorem d_JStringLatin1_indexOfChar_19 : decode b_JStringLatin1_indexOfChar 19 = .ok (.if_icmp .ne 6, 3) := by decide +kernel
theorem d_JStringLatin1_indexOfChar_22 : decode b_JStringLatin1_indexOfChar 22 = .ok (.iload 5, 2) := by decide +kernel
theorem d_JStringLatin1_indexOfChar_24 : decode b_JStringLatin1_indexOfChar 24 = .ok (.ireturn, 1) := by decide +kernel
theorem d_JStringLatin1_indexOfChar_25 : decode b_JStringLatin1_indexOfChar 25 = .ok (.iinc 5 1, 3) := by decide +kernel
theorem d_JStringLatin1_indexOfChar_28 : decode b_JStringLatin1_indexOfChar 28 = .ok (.goto (-21), 3) := by decide +kernel
theorem d_JStringLatin1_indexOfChar_31 : decode b_JStringLatin1_indexOfChar 31 = .ok (.iconst (-1), 1) := by decide +kernel
theorem d_JStringLatin1_indexOfChar_32 : decode b_JStringLatin1_indexOfChar 32 = .ok (.ireturn, 1) := by decide +kernel
theorem d_JPre_checkIndex_0 : decode b_JPre_checkIndex 0 = .ok (.iload_n 0, 1) := by decide +kernel
theorem d_JPre_checkIndex_1 : decode b_JPre_checkIndex 1 = .ok (.ifCond .lt 8, 3) := by decide +kernel
theorem d_JPre_checkIndex_4 : decode b_JPre_checkIndex 4 = .ok (.iload_n 0, 1) := by decide +kernel
theorem d_JPre_checkIndex_5 : decode b_JPre_checkIndex 5 = .ok (.iload_n 1, 1) := by decide +kernel
theorem d_JPre_checkIndex_6 : decode b_JPre_checkIndex 6 = .ok (.if_icmp .lt 10, 3) := by decide +kernel
theorem d_JPre_checkIndex_9 : decode b_JPre_checkIndex 9 = .ok (.aload_n 2, 1) := by decide +kernel
theorem d_JPre_checkIndex_10 : decode b_JPre_checkIndex 10 = .ok (.iload_n 0, 1) := by decide +kernel
theorem d_JPre_checkIndex_11 : decode b_JPre_checkIndex 11 = .ok (.iload_n 1, 1) := by decide +kernel
theorem d_JPre_checkIndex_12 : decode b_JPre_checkIndex 12 = .ok (.invokestatic 95, 3) := by decide +kernel
theorem d_JPre_checkIndex_15 : decode b_JPre_checkIndex 15 = .ok (.athrow, 1) := by decide +kernel
theorem d_JPre_checkIndex_16 : decode b_JPre_checkIndex 16 = .ok (.iload_n 0, 1) := by decide +kernel
theorem d_JPre_checkIndex_17 : decode b_JPre_checkIndex 17 = .ok (.ireturn, 1) := by decide +kernel
set_option maxRecDepth 20000 in
theorem me_JPre_checkIndex : hm_meS y_JPre_checkIndex b_JPre_checkIndex 3 (some .int) 3 := ⟨⟨(TBm 378 rfl rfl), (TBm 52 (by decide +kernel) rfl), by decide +kernel⟩, (TBm 377 (by decide +kernel) rfl)⟩
set_option maxRecDepth 20000 in
theorem me_JStringLatin1_canEncode : hm_meS y_JStringLatin1_canEncode b_JStringLatin1_canEncode 1 (some .boolean) 1 := ⟨⟨(TBm 504 rfl rfl), (TBm 51 (by decide +kernel) rfl), by decide +kernel⟩, (TBm 503 (by decide +kernel) rfl)⟩
set_option maxRecDepth 20000 in
theorem me_JStringLatin1_charAt : hm_meS y_JStringLatin1_charAt b_JStringLatin1_charAt 2 (some .char) 2 := ⟨⟨(TBm 370 rfl rfl), (TBm 51 (by decide +kernel) rfl), by decide +kernel⟩, (TBm 369 (by decide +kernel) rfl)⟩
set_option maxRecDepth 20000 in
theorem me_JStringLatin1_indexOf : hm_meS y_JStringLatin1_indexOf b_JStringLatin1_indexOf 4 (some .int) 4 := ⟨⟨(TBm 501 rfl rfl), (TBm 51 (by decide +kernel) rfl), by decide +kernel⟩, (TBm 500 (by decide +kernel) rfl)⟩
set_option maxRecDepth 20000 in
theorem me_JStringLatin1_indexOfChar : hm_meS y_JStringLatin1_indexOfChar b_JStringLatin1_indexOfChar 6 (some .int) 4 := ⟨⟨(TBm 509 rfl rfl), (TBm 51 (by decide +kernel) rfl), by decide +kernel⟩, (TBm 508 (by decide +kernel) rfl)⟩
set_option maxRecDepth 20000 in
theorem me_JString_checkIndex : hm_meS y_JString_checkIndex b_JString_checkIndex 2 none 2 := ⟨⟨(TBm 373 rfl rfl), (TBm 50 (by decide +kernel) rfl), by decide +kernel⟩, (TBm 372 (by decide +kernel) rfl)⟩
set_option maxRecDepth 20000 in
theorem me_JString_coder : hm_meV y_JString_coder b_JString_coder 1 (some .byte) 0 := ⟨⟨(TBm 357 rfl rfl), (TBm 50 (by decide +kernel) rfl), by decide +kernel⟩, (TBm 355 (by decide +kernel) rfl), (TBm 356 (by decide +kernel) rfl)⟩
set_option maxRecDepth 20000 in
theorem me_JString_indexOf2 : hm_meV y_JString_indexOf2 b_JString_indexOf2 3 (some .int) 2 := ⟨⟨(TBm 497 rfl rfl), (TBm 50 (by decide +kernel) rfl), by decide +kernel⟩, (TBm 495 (by decide +kernel) rfl), (TBm 496 (by decide +kernel) rfl)⟩
set_option maxRecDepth 20000 in
theorem me_JString_isLatin1 : hm_meV y_JString_isLatin1 b_JString_isLatin1 1 (some .boolean) 0 := ⟨⟨(TBm 367 rfl rfl), (TBm 50 (by decide +kernel) rfl), by decide +kernel⟩, (TBm 365 (by decide +kernel) rfl), (TBm 366 (by decide +kernel) rfl)⟩
set_option maxRecDepth 20000 in
theorem me_JString_length : hm_meV y_JString_length b_JString_length 1 (some .int) 0 := ⟨⟨(TBm 353 rfl rfl), (TBm 50 (by decide +kernel) rfl), by decide +kernel⟩, (TBm 351 (by decide +kernel) rfl), (TBm 352 (by decide +kernel) rfl)⟩
set_option maxRecDepth 20000 in
theorem wf_JString_1053 : Cond.fieldLink R_JString 1053 "jdk/internal/util/Preconditions" "SIOOBE_FORMATTER" "Ljava/util/function/BiFunction;" ∈ TB := TBm 374 (by decide +kernel) rfl
set_option maxRecDepth 20000 in
theorem wf_JString_15 : Cond.fieldLink R_JString 15 "java/lang/String" "coder" "B" ∈ TB := TBm 971 (by decide +kernel) rfl
set_option maxRecDepth 20000 in
theorem wf_JString_38 : Cond.fieldLink R_JString 38 "java/lang/String" "COMPACT_STRINGS" "Z" ∈ TB := TBm 358 (by decide +kernel) rfl
set_option maxRecDepth 20000 in
theorem wf_JString_9 : Cond.fieldLink R_JString 9 "java/lang/String" "value" "[B" ∈ TB := TBm 970 (by decide +kernel) rfl
set_option maxRecDepth 20000 in
theorem wl_JStringLatin1_38 : Cond.methodLink R_JStringLatin1 38 Lib.Math.min.name ∈ TB := TBm 506 (by decide +kernel) rfl
set_option maxRecDepth 20000 in
theorem wl_JStringLatin1_88 : Cond.methodLink R_JStringLatin1 88 y_JStringLatin1_canEncode ∈ TB := TBm 502 (by decide +kernel) rfl
set_option maxRecDepth 20000 in
theorem wl_JStringLatin1_9 : Cond.methodLink R_JStringLatin1 9 y_JString_checkIndex ∈ TB := TBm 371 (by decide +kernel) rfl
set_option maxRecDepth 20000 in
theorem wl_JStringLatin1_92 : Cond.methodLink R_JStringLatin1 92 Lib.Math.max.name ∈ TB := TBm 505 (by decide +kernel) rfl
set_option maxRecDepth 20000 in
theorem wl_JStringLatin1_95 : Cond.methodLink R_JStringLatin1 95 y_JStringLatin1_indexOfChar ∈ TB := TBm 507 (by decide +kernel) rfl
set_option maxRecDepth 20000 in
theorem wl_JString_1059 : Cond.methodLink R_JString 1059 y_JPre_checkIndex ∈ TB := TBm 376 (by decide +kernel) rfl
set_option maxRecDepth 20000 in
theorem wl_JString_335 : Cond.methodLink R_JString 335 y_JString_coder ∈ TB := TBm 354 (by decide +kernel) rfl
set_option maxRecDepth 20000 in
theorem wl_JString_492 : Cond.methodLink R_JString 492 y_JString_isLatin1 ∈ TB := TBm 364 (by decide +kernel) rfl
set_option maxRecDepth 20000 in
theorem wl_JString_495 : Cond.methodLink R_JString 495 y_JStringLatin1_charAt ∈ TB := TBm 368 (by decide +kernel) rfl
set_option maxRecDepth 20000 in
theorem wl_JString_505 : Cond.methodLink R_JString 505 y_JString_length ∈ TB := TBm 498 (by decide +kernel) rfl
set_option maxRecDepth 20000 in
theorem wl_JString_633 : Cond.methodLink R_JString 633 y_JString_indexOf2 ∈ TB := TBm 494 (by decide +kernel) rfl
set_option maxRecDepth 20000 in
theorem wl_JString_637 : Cond.methodLink R_JString 637 y_JStringLatin1_indexOf ∈ TB := TBm 499 (by decide +kernel) rfl
set_option maxHeartbeats 4000000 in
set_option maxRecDepth 100000 in
theorem j_isLatin1 (l : Launch) (D : va_G) (k : Nat → ClassId) (sA sV : Nat → Nat) (f : hm) (i : Nat) (hi : i < 12) : hm_MiZ l sA sV D vwCl (tyL k) y_JString_isLatin1 (Cond.code y_JString_isLatin1 b_JString_isLatin1 1 (some .boolean) :: TB) ({ frames := 0, cells := 0, slots := 0, locals := 0 }) [.ref (sA i)] f (fun (r : Int32) (f1 : hm) => 1 = r ∧ f = f1) 0 0 := by
  refine hm_enterZ (Qc := fun sz => va_Qi _ (hm_R D vwCl (tyL k) f sz) (hm_A f sz)) (by decide) rfl (Nat.le_of_ble_eq_true rfl) ?_
  intro p e s m below meth cd ls hZ X0 hr hlk hin hK hM hS hA hl Q hQ
  have X : CallFix p m cd b_JString_isLatin1 1 s ([.ref (sA i)] : List Value).toArray TB R_JString := ⟨X0.1, X0.2.1, X0.2.2.1, X0.2.2.2.1, fun w h => X0.2.2.2.2 w (List.mem_cons_of_mem _ h)⟩
  have hx := X.1; have hb := X.2.1; have hml := X.2.2.1; have hown := X.2.2.2.1; have hts := X.2.2.2.2
  have hl : lv_has ls 1 [(0, .ref (sA i))] := hl
  refine va_gets hx hb hZ.2.1 hS hown (hts _ wf_JString_38) (fun x h => h) d_JString_isLatin1_0 ?_
  refine lv_if_eq (tgt := 17) hx hb d_JString_isLatin1_3 (by decide) (fun h1 => ?_) (fun h1 => ?_)
  · exact absurd h1 (by decide)
  · refine lv_aload_n hx hb d_JString_isLatin1_6 rfl (lv_at hl 0 rfl) ?_
    refine vk_getf hx hb (hZ.1.1 i (by omega)).2.1 hS hown (hts _ wf_JString_15) (fun x h => h) d_JString_isLatin1_7 ?_
    refine lv_if_ne (tgt := 17) hx hb d_JString_isLatin1_10 (by decide) (fun h2 => ?_) (fun h2 => ?_)
    · exact absurd h2 (by decide)
    · refine lv_iconst (v := 1) hx hb d_JString_isLatin1_13 (by decide) ?_
      refine lv_goto (tgt := 18) hx hb d_JString_isLatin1_14 (by decide) ?_
      exact hm_zret X hQ hr hlk hK hM hS rfl d_JString_isLatin1_18 ⟨rfl, rfl⟩
set_option maxHeartbeats 4000000 in
set_option maxRecDepth 100000 in
theorem j_coder (l : Launch) (D : va_G) (k : Nat → ClassId) (sA sV : Nat → Nat) (f : hm) (i : Nat) (hi : i < 12) : hm_MiZ l sA sV D vwCl (tyL k) y_JString_coder (Cond.code y_JString_coder b_JString_coder 1 (some .byte) :: TB) ({ frames := 0, cells := 0, slots := 0, locals := 0 }) [.ref (sA i)] f (fun (r : Int32) (f1 : hm) => 0 = r ∧ f = f1) 0 0 := by
  refine hm_enterZ (Qc := fun sz => va_Qi _ (hm_R D vwCl (tyL k) f sz) (hm_A f sz)) (by decide) rfl (Nat.le_of_ble_eq_true rfl) ?_
  intro p e s m below meth cd ls hZ X0 hr hlk hin hK hM hS hA hl Q hQ
  have X : CallFix p m cd b_JString_coder 1 s ([.ref (sA i)] : List Value).toArray TB R_JString := ⟨X0.1, X0.2.1, X0.2.2.1, X0.2.2.2.1, fun w h => X0.2.2.2.2 w (List.mem_cons_of_mem _ h)⟩
  have hx := X.1; have hb := X.2.1; have hml := X.2.2.1; have hown := X.2.2.2.1; have hts := X.2.2.2.2
  have hl : lv_has ls 1 [(0, .ref (sA i))] := hl
  refine va_gets hx hb hZ.2.1 hS hown (hts _ wf_JString_38) (fun x h => h) d_JString_coder_0 ?_
  refine lv_if_eq (tgt := 13) hx hb d_JString_coder_3 (by decide) (fun h1 => ?_) (fun h1 => ?_)
  · exact absurd h1 (by decide)
  · refine lv_aload_n hx hb d_JString_coder_6 rfl (lv_at hl 0 rfl) ?_
    refine vk_getf hx hb (hZ.1.1 i (by omega)).2.1 hS hown (hts _ wf_JString_15) (fun x h => h) d_JString_coder_7 ?_
    refine lv_goto (tgt := 14) hx hb d_JString_coder_10 (by decide) ?_
    exact hm_zret X hQ hr hlk hK hM hS rfl d_JString_coder_14 ⟨rfl, rfl⟩
set_option maxHeartbeats 4000000 in
set_option maxRecDepth 100000 in
theorem j_length (l : Launch) (D : va_G) (k : Nat → ClassId) (sA sV : Nat → Nat) (f : hm) (i : Nat) (hi : i < 12) : hm_MiZ l sA sV D vwCl (tyL k) y_JString_length (Cond.code y_JString_length b_JString_length 1 (some .int) :: TB) ({ frames := 1, cells := 0, slots := 0, locals := 20 }) [.ref (sA i)] f (fun (r : Int32) (f1 : hm) => nI (st_len.getD i 0) = r ∧ f = f1) 0 0 := by
  refine hm_enterZ (Qc := fun sz => va_Qi _ (hm_R D vwCl (tyL k) f sz) (hm_A f sz)) (by decide) rfl (Nat.le_of_ble_eq_true rfl) ?_
  intro p e s m below meth cd ls hZ X0 hr hlk hin hK hM hS hA hl Q hQ
  have X : CallFix p m cd b_JString_length 1 s ([.ref (sA i)] : List Value).toArray TB R_JString := ⟨X0.1, X0.2.1, X0.2.2.1, X0.2.2.2.1, fun w h => X0.2.2.2.2 w (List.mem_cons_of_mem _ h)⟩
  have hx := X.1; have hb := X.2.1; have hml := X.2.2.1; have hown := X.2.2.2.1; have hts := X.2.2.2.2
  have hl : lv_has ls 1 [(0, .ref (sA i))] := hl
  refine lv_aload_n hx hb d_JString_length_0 rfl (lv_at hl 0 rfl) ?_
  refine vk_getf hx hb (hZ.1.1 i (by omega)).2.2.1 hS hown (hts _ wf_JString_9) (fun x h => h) d_JString_length_1 ?_
  refine va_tlen hx hb (hZ.1.1 i (by omega)).2.2.2 hS (v := nI (st_len.getD i 0)) rfl d_JString_length_4 ?_
  refine lv_aload_n hx hb d_JString_length_5 rfl (lv_at hl 0 rfl) ?_
  refine hm_calli hS hM hA (va_runV (As := []) (rest := [.int (nI (st_len.getD i 0))]) X (j_coder l D k sA sV f i  (by omega) s.heap.size) (hm_cwV hts me_JString_coder wl_JString_335 rfl rfl ⟨Nat.le_of_ble_eq_true rfl, Nat.le_of_ble_eq_true rfl⟩) (hm_preVT hZ hS hA hM hK (i := i) (by omega)) rfl rfl hl.1 rfl (lv_room (Nat.le_of_ble_eq_true rfl)) d_JString_length_6 ⟨Nat.le_of_ble_eq_true rfl, Nat.le_of_ble_eq_true rfl⟩) (fun r3 f1 H locs p2 hM hS => ?_)
  obtain ⟨rfl, rfl⟩ := p2
  refine lv_ishr hx hb d_JString_length_9 ?_
  refine hm_top (z := nI (st_len.getD i 0)) (sb_shr0 _) ?_
  exact hm_iret X hQ hr hlk hK hM hS d_JString_length_10 ⟨rfl, rfl⟩
set_option maxHeartbeats 4000000 in
set_option maxRecDepth 100000 in
theorem j_pcheck (l : Launch) (D : va_G) (k : Nat → ClassId) (f : hm) (j : Nat) (n : Nat) (o : Option Nat) (hj : j < n) (hn : n < 2 ^ 31) : hm_Mi l D vwCl (tyL k) y_JPre_checkIndex (Cond.code y_JPre_checkIndex b_JPre_checkIndex 3 (some .int) :: TB) ({ frames := 0, cells := 0, slots := 0, locals := 0 }) [.int (nI j), .int (nI n), va_rf o] f (fun (r : Int32) (f1 : hm) => nI j = r ∧ f = f1) 0 0 := by
  refine hm_enter (Qc := fun sz => va_Qi _ (hm_R D vwCl (tyL k) f sz) (hm_A f sz)) (by decide) rfl (by cases o <;> exact Nat.le_of_ble_eq_true rfl) ?_
  intro p e s m below meth cd ls X0 hr hlk hin hK hM hS hA hl Q hQ
  have X : CallFix p m cd b_JPre_checkIndex 3 s ([.int (nI j), .int (nI n), va_rf o] : List Value).toArray TB R_JPre := ⟨X0.1, X0.2.1, X0.2.2.1, X0.2.2.2.1, fun w h => X0.2.2.2.2 w (List.mem_cons_of_mem _ h)⟩
  have hx := X.1; have hb := X.2.1; have hml := X.2.2.1; have hown := X.2.2.2.1; have hts := X.2.2.2.2
  have hl : lv_has ls 3 [(0, .int (nI j)), (1, .int (nI n)), (2, va_rf o)] := hl
  refine lv_iload_n hx hb d_JPre_checkIndex_0 rfl (lv_at hl 0 rfl) ?_
  refine lv_if_lt (tgt := 9) hx hb d_JPre_checkIndex_1 (by decide) (fun h1 => ?_) (fun h1 => ?_)
  · exact absurd h1 (nI_pos (by omega))
  · refine lv_iload_n hx hb d_JPre_checkIndex_4 rfl (lv_at hl 0 rfl) ?_
    refine lv_iload_n hx hb d_JPre_checkIndex_5 rfl (lv_at hl 1 rfl) ?_
    refine lv_icmp_lt (tgt := 16) hx hb d_JPre_checkIndex_6 (by decide) (fun h2 => ?_) (fun h2 => ?_)
    · refine lv_iload_n hx hb d_JPre_checkIndex_16 rfl (lv_at hl 0 rfl) ?_
      exact hm_iret X hQ hr hlk hK hM hS d_JPre_checkIndex_17 ⟨rfl, rfl⟩
    · exact absurd (nI_lt hj hn) h2
set_option maxHeartbeats 4000000 in
set_option maxRecDepth 100000 in
theorem j_check (l : Launch) (D : va_G) (k : Nat → ClassId) (sA sV : Nat → Nat) (f : hm) (j : Nat) (n : Nat) (hj : j < n) (hn : n < 2 ^ 31) : hm_MvZ l sA sV D vwCl (tyL k) y_JString_checkIndex (Cond.code y_JString_checkIndex b_JString_checkIndex 2 none :: TB) ({ frames := 1, cells := 0, slots := 0, locals := 22 }) [.int (nI j), .int (nI n)] f (fun (f1 : hm) => f = f1) 0 0 := by
  refine hm_enterZ (Qc := fun sz => va_Qv _ (hm_R D vwCl (tyL k) f sz) (hm_A f sz)) (by decide) rfl (Nat.le_of_ble_eq_true rfl) ?_
  intro p e s m below meth cd ls hZ X0 hr hlk hin hK hM hS hA hl Q hQ
  have X : CallFix p m cd b_JString_checkIndex 2 s ([.int (nI j), .int (nI n)] : List Value).toArray TB R_JString := ⟨X0.1, X0.2.1, X0.2.2.1, X0.2.2.2.1, fun w h => X0.2.2.2.2 w (List.mem_cons_of_mem _ h)⟩
  have hx := X.1; have hb := X.2.1; have hml := X.2.2.1; have hown := X.2.2.2.1; have hts := X.2.2.2.2
  have hl : lv_has ls 2 [(0, .int (nI j)), (1, .int (nI n))] := hl
  refine lv_iload_n hx hb d_JString_checkIndex_0 rfl (lv_at hl 0 rfl) ?_
  refine lv_iload_n hx hb d_JString_checkIndex_1 rfl (lv_at hl 1 rfl) ?_
  obtain ⟨o9, hZ9⟩ := hZ.2.2.2
  refine va_gets hx hb hZ9 hS hown (hts _ wf_JString_1053) (fun x h => h) d_JString_checkIndex_2 ?_
  refine hm_calli hS hM hA (va_runS (As := [.int (nI j), .int (nI n), va_rf o9]) (rest := []) X (j_pcheck l D k f j n o9  (by omega) (by omega) s.heap.size) (hm_cwT hts me_JPre_checkIndex wl_JString_1059 rfl rfl ⟨Nat.le_of_ble_eq_true rfl, Nat.le_of_ble_eq_true rfl⟩) (hm_preS hM hK) rfl rfl hl.1 rfl (lv_room (Nat.le_of_ble_eq_true rfl)) d_JString_checkIndex_5 ⟨Nat.le_of_ble_eq_true rfl, Nat.le_of_ble_eq_true rfl⟩) (fun r3 f1 H locs p2 hM hS => ?_)
  obtain ⟨rfl, rfl⟩ := p2
  refine lv_pop hx hb d_JString_checkIndex_8 rfl ?_
  exact hm_vret X hQ hr hlk hK hM hS d_JString_checkIndex_9 rfl
set_option maxHeartbeats 4000000 in
set_option maxRecDepth 100000 in
theorem j_charAt1 (l : Launch) (D : va_G) (k : Nat → ClassId) (sA sV : Nat → Nat) (f : hm) (i : Nat) (j : Nat) (hi : i < 12) (hj : j < st_len.getD i 0) : hm_MiZ l sA sV D vwCl (tyL k) y_JStringLatin1_charAt (Cond.code y_JStringLatin1_charAt b_JStringLatin1_charAt 2 (some .char) :: TB) ({ frames := 2, cells := 0, slots := 0, locals := 43 }) [.ref (sV i), .int (nI j)] f (fun (r : Int32) (f1 : hm) => nI (st_chr i j) = r ∧ f = f1) 0 0 := by
  refine hm_enterZ (Qc := fun sz => va_Qi _ (hm_R D vwCl (tyL k) f sz) (hm_A f sz)) (by decide) rfl (Nat.le_of_ble_eq_true rfl) ?_
  intro p e s m below meth cd ls hZ X0 hr hlk hin hK hM hS hA hl Q hQ
  have X : CallFix p m cd b_JStringLatin1_charAt 2 s ([.ref (sV i), .int (nI j)] : List Value).toArray TB R_JStringLatin1 := ⟨X0.1, X0.2.1, X0.2.2.1, X0.2.2.2.1, fun w h => X0.2.2.2.2 w (List.mem_cons_of_mem _ h)⟩
  have hx := X.1; have hb := X.2.1; have hml := X.2.2.1; have hown := X.2.2.2.1; have hts := X.2.2.2.2
  have hl : lv_has ls 2 [(0, .ref (sV i)), (1, .int (nI j))] := hl
  have hln := st_ln i hi
  refine lv_iload_n hx hb d_JStringLatin1_charAt_0 rfl (lv_at hl 1 rfl) ?_
  refine lv_aload_n hx hb d_JStringLatin1_charAt_1 rfl (lv_at hl 0 rfl) ?_
  refine va_tlen hx hb (hZ.1.1 i (by omega)).2.2.2 hS (v := nI (st_len.getD i 0)) rfl d_JStringLatin1_charAt_2 ?_
  refine hm_callv hS hM hA (va_runS (As := [.int (nI j), .int (nI (st_len.getD i 0))]) (rest := []) X (j_check l D k sA sV f j (st_len.getD i 0)  (by omega) (by omega) s.heap.size) (hm_cwT hts me_JString_checkIndex wl_JStringLatin1_9 rfl rfl ⟨Nat.le_of_ble_eq_true rfl, Nat.le_of_ble_eq_true rfl⟩) (hm_preSZ hZ hS hA hM hK) rfl rfl hl.1 rfl (lv_room (Nat.le_of_ble_eq_true rfl)) d_JStringLatin1_charAt_3 ⟨Nat.le_of_ble_eq_true rfl, Nat.le_of_ble_eq_true rfl⟩) (fun f1 H locs p2 hM hS => ?_)
  subst p2
  refine lv_aload_n hx hb d_JStringLatin1_charAt_6 rfl (lv_at hl 0 rfl) ?_
  refine lv_iload_n hx hb d_JStringLatin1_charAt_7 rfl (lv_at hl 1 rfl) ?_
  refine va_tb hx hb (hZ.1.1 i (by omega)).2.2.2 hS (hm_in (j := j) rfl hj (by omega)).1 (v := .int ((st_byt.getD i []).getD j 0)) (by rw [nI_clamp (by omega)]) d_JStringLatin1_charAt_8 ?_
  refine lv_sipush (v := 255) hx hb d_JStringLatin1_charAt_9 (by decide) ?_
  refine lv_iand hx hb d_JStringLatin1_charAt_12 ?_
  refine lv_i2c hx hb d_JStringLatin1_charAt_13 rfl ?_
  refine hm_top (z := nI (st_chr i j)) (st_ok i hi j hj).1 ?_
  exact hm_zret X hQ hr hlk hK hM hS (pk_charN (q := st_chr i j) (by have h9 := (st_ok i hi j hj).2.1; omega)).1 d_JStringLatin1_charAt_14 ⟨rfl, rfl⟩
set_option maxHeartbeats 4000000 in
set_option maxRecDepth 100000 in
theorem j_charAt (l : Launch) (D : va_G) (k : Nat → ClassId) (sA sV : Nat → Nat) (f : hm) (i : Nat) (j : Nat) (hi : i < 12) (hj : j < st_len.getD i 0) : hm_MiZ l sA sV D vwCl (tyL k) y_JString_charAt (Cond.code y_JString_charAt b_JString_charAt 2 (some .char) :: TB) ({ frames := 3, cells := 0, slots := 0, locals := 64 }) [.ref (sA i), .int (nI j)] f (fun (r : Int32) (f1 : hm) => nI (st_chr i j) = r ∧ f = f1) 0 0 := by
  refine hm_enterZ (Qc := fun sz => va_Qi _ (hm_R D vwCl (tyL k) f sz) (hm_A f sz)) (by decide) rfl (Nat.le_of_ble_eq_true rfl) ?_
  intro p e s m below meth cd ls hZ X0 hr hlk hin hK hM hS hA hl Q hQ
  have X : CallFix p m cd b_JString_charAt 2 s ([.ref (sA i), .int (nI j)] : List Value).toArray TB R_JString := ⟨X0.1, X0.2.1, X0.2.2.1, X0.2.2.2.1, fun w h => X0.2.2.2.2 w (List.mem_cons_of_mem _ h)⟩
  have hx := X.1; have hb := X.2.1; have hml := X.2.2.1; have hown := X.2.2.2.1; have hts := X.2.2.2.2
  have hl : lv_has ls 2 [(0, .ref (sA i)), (1, .int (nI j))] := hl
  refine lv_aload_n hx hb d_JString_charAt_0 rfl (lv_at hl 0 rfl) ?_
  refine hm_calli hS hM hA (va_runV (As := []) (rest := []) X (j_isLatin1 l D k sA sV f i  (by omega) s.heap.size) (hm_cwV hts me_JString_isLatin1 wl_JString_492 rfl rfl ⟨Nat.le_of_ble_eq_true rfl, Nat.le_of_ble_eq_true rfl⟩) (hm_preVT hZ hS hA hM hK (i := i) (by omega)) rfl rfl hl.1 rfl (lv_room (Nat.le_of_ble_eq_true rfl)) d_JString_charAt_1 ⟨Nat.le_of_ble_eq_true rfl, Nat.le_of_ble_eq_true rfl⟩) (fun r3 f1 H locs p2 hM hS => ?_)
  obtain ⟨rfl, rfl⟩ := p2
  refine lv_if_eq (tgt := 16) hx hb d_JString_charAt_4 (by decide) (fun h4 => ?_) (fun h4 => ?_)
  · exact absurd h4 (by decide)
  · refine lv_aload_n hx hb d_JString_charAt_7 rfl (lv_at hl 0 rfl) ?_
    refine vk_getf hx hb (hZ.1.1 i (by omega)).2.2.1 hS hown (hts _ wf_JString_9) (fun x h => h) d_JString_charAt_8 ?_
    refine lv_iload_n hx hb d_JString_charAt_11 rfl (lv_at hl 1 rfl) ?_
    refine hm_calli hS hM hA (va_runS (As := [.ref (sV i), .int (nI j)]) (rest := []) X (j_charAt1 l D k sA sV f i j  (by omega) (by omega) H.size) (hm_cwT hts me_JStringLatin1_charAt wl_JString_495 rfl rfl ⟨Nat.le_of_ble_eq_true rfl, Nat.le_of_ble_eq_true rfl⟩) (hm_preSZ hZ hS hA hM hK) rfl rfl hl.1 rfl (lv_room (Nat.le_of_ble_eq_true rfl)) d_JString_charAt_12 ⟨Nat.le_of_ble_eq_true rfl, Nat.le_of_ble_eq_true rfl⟩) (fun r7 f5 H locs p6 hM hS => ?_)
    obtain ⟨rfl, rfl⟩ := p6
    exact hm_zret X hQ hr hlk hK hM hS (pk_charN (q := st_chr i j) (by have h9 := (st_ok i hi j hj).2.1; omega)).1 d_JString_charAt_15 ⟨rfl, rfl⟩
set_option maxHeartbeats 4000000 in
set_option maxRecDepth 100000 in
theorem j_canE (l : Launch) (D : va_G) (k : Nat → ClassId) (f : hm) (x : Int32) : hm_Mi l D vwCl (tyL k) y_JStringLatin1_canEncode (Cond.code y_JStringLatin1_canEncode b_JStringLatin1_canEncode 1 (some .boolean) :: TB) ({ frames := 0, cells := 0, slots := 0, locals := 0 }) [.int x] f (fun (r : Int32) (f1 : hm) => z_enc x = r ∧ f = f1) 0 0 := by
  refine hm_enter (Qc := fun sz => va_Qi _ (hm_R D vwCl (tyL k) f sz) (hm_A f sz)) (by decide) rfl (Nat.le_of_ble_eq_true rfl) ?_
  intro p e s m below meth cd ls X0 hr hlk hin hK hM hS hA hl Q hQ
  have X : CallFix p m cd b_JStringLatin1_canEncode 1 s ([.int x] : List Value).toArray TB R_JStringLatin1 := ⟨X0.1, X0.2.1, X0.2.2.1, X0.2.2.2.1, fun w h => X0.2.2.2.2 w (List.mem_cons_of_mem _ h)⟩
  have hx := X.1; have hb := X.2.1; have hml := X.2.2.1; have hown := X.2.2.2.1; have hts := X.2.2.2.2
  have hl : lv_has ls 1 [(0, .int x)] := hl
  refine lv_iload_n hx hb d_JStringLatin1_canEncode_0 rfl (lv_at hl 0 rfl) ?_
  refine lv_if_lt (tgt := 15) hx hb d_JStringLatin1_canEncode_1 (by decide) (fun h1 => ?_) (fun h1 => ?_)
  · refine lv_iconst (v := 0) hx hb d_JStringLatin1_canEncode_15 (by decide) ?_
    exact hm_zret X hQ hr hlk hK hM hS rfl d_JStringLatin1_canEncode_16 ⟨(by simp [z_enc, h1, Int32.not_le.mpr h1]), rfl⟩
  · refine lv_iload_n hx hb d_JStringLatin1_canEncode_4 rfl (lv_at hl 0 rfl) ?_
    refine lv_sipush (v := 255) hx hb d_JStringLatin1_canEncode_5 (by decide) ?_
    refine lv_icmp_gt (tgt := 15) hx hb d_JStringLatin1_canEncode_8 (by decide) (fun h2 => ?_) (fun h2 => ?_)
    · refine lv_iconst (v := 0) hx hb d_JStringLatin1_canEncode_15 (by decide) ?_
      exact hm_zret X hQ hr hlk hK hM hS rfl d_JStringLatin1_canEncode_16 ⟨(by simp [z_enc, h1, Int32.not_lt.mp h1, h2, Int32.not_le.mpr h2]), rfl⟩
    · refine lv_iconst (v := 1) hx hb d_JStringLatin1_canEncode_11 (by decide) ?_
      refine lv_goto (tgt := 16) hx hb d_JStringLatin1_canEncode_12 (by decide) ?_
      exact hm_zret X hQ hr hlk hK hM hS rfl d_JStringLatin1_canEncode_16 ⟨(by simp [z_enc, h1, Int32.not_lt.mp h1, h2, Int32.not_lt.mp h2]), rfl⟩
set_option maxHeartbeats 4000000 in
set_option maxRecDepth 100000 in
theorem j_indexOfChar (l : Launch) (D : va_G) (k : Nat → ClassId) (sA sV : Nat → Nat) (f : hm) (i : Nat) (x : Int32) (y : Int32) (hi : i < 12) (hy : x.toInt8.toInt32 = y) : hm_MiZ l sA sV D vwCl (tyL k) y_JStringLatin1_indexOfChar (Cond.code y_JStringLatin1_indexOfChar b_JStringLatin1_indexOfChar 6 (some .int) :: TB) ({ frames := 0, cells := 0, slots := 0, locals := 0 }) [.ref (sV i), .int x, .int 0, .int (nI (st_len.getD i 0))] f (fun (r : Int32) (f1 : hm) => st_fi i y (st_len.getD i 0) 0 = r ∧ f = f1) 0 0 := by
  refine hm_enterZ (Qc := fun sz => va_Qi _ (hm_R D vwCl (tyL k) f sz) (hm_A f sz)) (by decide) rfl (Nat.le_of_ble_eq_true rfl) ?_
  intro p e s m below meth cd ls hZ X0 hr hlk hin hK hM hS hA hl Q hQ
  have X : CallFix p m cd b_JStringLatin1_indexOfChar 6 s ([.ref (sV i), .int x, .int 0, .int (nI (st_len.getD i 0))] : List Value).toArray TB R_JStringLatin1 := ⟨X0.1, X0.2.1, X0.2.2.1, X0.2.2.2.1, fun w h => X0.2.2.2.2 w (List.mem_cons_of_mem _ h)⟩
  have hx := X.1; have hb := X.2.1; have hml := X.2.2.1; have hown := X.2.2.2.1; have hts := X.2.2.2.2
  have hl : lv_has ls 6 [(0, .ref (sV i)), (1, .int x), (2, .int 0), (3, .int (nI (st_len.getD i 0)))] := hl
  have hln := st_ln i hi
  refine lv_iload_n hx hb d_JStringLatin1_indexOfChar_0 rfl (lv_at hl 1 rfl) ?_
  refine lv_i2b hx hb d_JStringLatin1_indexOfChar_1 rfl ?_
  refine hm_top (z := y) hy ?_
  refine lv_istore (lv' := [(4, .int y), (0, .ref (sV i)), (1, .int x), (2, .int 0), (3, .int (nI (st_len.getD i 0)))]) hx hb d_JStringLatin1_indexOfChar_2 hl (by decide) rfl (fun ls hl => ?_)
  refine lv_iload_n hx hb d_JStringLatin1_indexOfChar_4 rfl (lv_at hl 3 rfl) ?_
  refine lv_istore (lv' := [(5, .int 0), (4, .int y), (0, .ref (sV i)), (1, .int x), (2, .int 0), (3, .int (nI (st_len.getD i 0)))]) hx hb d_JStringLatin1_indexOfChar_5 hl (by decide) rfl (fun ls hl => ?_)
  have loop7 : ∀ (fu : Nat) (j : Nat) (H : Heap) (locs : List Loc) (ls : Array Slot) (hmu : st_len.getD i 0 - j < fu) (hj : j ≤ st_len.getD i 0) (hinv : st_fi i y (st_len.getD i 0) 0 = st_fi i y (st_len.getD i 0 - j) j) (hM : hm_W D vwCl (hm_A f s.heap.size) f H) (hS : va_S (hm_A f s.heap.size) s.heap H locs) (hl : lv_has ls 6 [(0, .ref (sV i)), (1, .int x), (2, .int 0), (3, .int (nI (st_len.getD i 0))), (4, .int y), (5, .int (nI j))]), W p l e ({ frames := 0, cells := 0, slots := 0, locals := 0 }) s m ([.ref (sV i), .int x, .int 0, .int (nI (st_len.getD i 0))] : List Value).toArray below meth cd H locs 0 0 Q (F0 m 7 ls []) := by
    intro fu
    induction fu with
    | zero => intro j H locs ls hmu; exact absurd hmu (Nat.not_lt_zero _)
    | succ fu ih =>
      intro j H locs ls hmu hj hinv  hM hS hl
      refine lv_iload hx hb d_JStringLatin1_indexOfChar_7 (lv_at hl 5 rfl) ?_
      refine lv_iload_n hx hb d_JStringLatin1_indexOfChar_9 rfl (lv_at hl 3 rfl) ?_
      refine lv_icmp_ge (tgt := 31) hx hb d_JStringLatin1_indexOfChar_10 (by decide) (fun h1 => ?_) (fun h1 => ?_)
      · have hge : st_len.getD i 0 ≤ j := by have z := h1; rw [nI_leI (by omega) (by omega)] at z; omega
        refine lv_iconst (v := (-1)) hx hb d_JStringLatin1_indexOfChar_31 (by decide) ?_
        exact hm_iret X hQ hr hlk hK hM hS d_JStringLatin1_indexOfChar_32 ⟨(by rw [hinv, show st_len.getD i 0 - j = 0 by omega]; rfl), rfl⟩
      · have hlt : j < st_len.getD i 0 := by have z := h1; rw [nI_leI (by omega) (by omega)] at z; omega
        refine lv_aload_n hx hb d_JStringLatin1_indexOfChar_13 rfl (lv_at hl 0 rfl) ?_
        refine lv_iload hx hb d_JStringLatin1_indexOfChar_14 (lv_at hl 5 rfl) ?_
        refine va_tb hx hb (hZ.1.1 i (by omega)).2.2.2 hS (hm_in (j := j) rfl hlt (by omega)).1 (v := .int ((st_byt.getD i []).getD j 0)) (by rw [nI_clamp (by omega)]) d_JStringLatin1_indexOfChar_16 ?_
        refine lv_iload hx hb d_JStringLatin1_indexOfChar_17 (lv_at hl 4 rfl) ?_
        refine lv_icmp_ne (tgt := 25) hx hb d_JStringLatin1_indexOfChar_19 (by decide) (fun h2 => ?_) (fun h2 => ?_)
        · refine lv_iinc (lv' := [(5, .int (nI (j + 1))), (0, .ref (sV i)), (1, .int x), (2, .int 0), (3, .int (nI (st_len.getD i 0))), (4, .int y)]) hx hb d_JStringLatin1_indexOfChar_25 hl (k := 5) rfl (hm_inc _) (by decide) rfl (fun ls hl => ?_)
          refine lv_goto (tgt := 7) hx hb d_JStringLatin1_indexOfChar_28 (by decide) ?_
          exact ih (j + 1)  H locs ls (by omega) (by omega) (by rw [hinv, show st_len.getD i 0 - j = (st_len.getD i 0 - (j + 1)) + 1 by omega]; exact if_neg h2)  hM hS (lv_sub hl [1, 2, 3, 4, 5, 0] rfl)
        · refine lv_iload hx hb d_JStringLatin1_indexOfChar_22 (lv_at hl 5 rfl) ?_
          exact hm_iret X hQ hr hlk hK hM hS d_JStringLatin1_indexOfChar_24 ⟨(by rw [hinv, show st_len.getD i 0 - j = (st_len.getD i 0 - (j + 1)) + 1 by omega]; exact if_pos h2), rfl⟩
  exact loop7 _ 0  s.heap [] ls (Nat.lt_succ_self _) (Nat.zero_le _) rfl  hM hS (lv_sub hl [2, 3, 4, 5, 1, 0] rfl)
set_option maxHeartbeats 4000000 in
set_option maxRecDepth 100000 in
theorem j_indexOf1_no (l : Launch) (D : va_G) (k : Nat → ClassId) (sA sV : Nat → Nat) (f : hm) (i : Nat) (x : Int32) (hi : i < 12) (hx9 : z_enc x = 0) : hm_MiZ l sA sV D vwCl (tyL k) y_JStringLatin1_indexOf (Cond.code y_JStringLatin1_indexOf b_JStringLatin1_indexOf 4 (some .int) :: TB) ({ frames := 1, cells := 0, slots := 0, locals := 20 }) [.ref (sV i), .int x, .int 0, .int (nI (st_len.getD i 0))] f (fun (r : Int32) (f1 : hm) => (-1) = r ∧ f = f1) 0 0 := by
  refine hm_enterZ (Qc := fun sz => va_Qi _ (hm_R D vwCl (tyL k) f sz) (hm_A f sz)) (by decide) rfl (Nat.le_of_ble_eq_true rfl) ?_
  intro p e s m below meth cd ls hZ X0 hr hlk hin hK hM hS hA hl Q hQ
  have X : CallFix p m cd b_JStringLatin1_indexOf 4 s ([.ref (sV i), .int x, .int 0, .int (nI (st_len.getD i 0))] : List Value).toArray TB R_JStringLatin1 := ⟨X0.1, X0.2.1, X0.2.2.1, X0.2.2.2.1, fun w h => X0.2.2.2.2 w (List.mem_cons_of_mem _ h)⟩
  have hx := X.1; have hb := X.2.1; have hml := X.2.2.1; have hown := X.2.2.2.1; have hts := X.2.2.2.2
  have hl : lv_has ls 4 [(0, .ref (sV i)), (1, .int x), (2, .int 0), (3, .int (nI (st_len.getD i 0)))] := hl
  refine lv_iload_n hx hb d_JStringLatin1_indexOf_0 rfl (lv_at hl 1 rfl) ?_
  refine hm_calli hS hM hA (va_runS (As := [.int x]) (rest := []) X (j_canE l D k f x   s.heap.size) (hm_cwS hts me_JStringLatin1_canEncode wl_JStringLatin1_88 rfl rfl ⟨Nat.le_of_ble_eq_true rfl, Nat.le_of_ble_eq_true rfl⟩) (hm_preS hM hK) rfl rfl hl.1 rfl (lv_room (Nat.le_of_ble_eq_true rfl)) d_JStringLatin1_indexOf_1 ⟨Nat.le_of_ble_eq_true rfl, Nat.le_of_ble_eq_true rfl⟩) (fun r3 f1 H locs p2 hM hS => ?_)
  obtain ⟨rfl, rfl⟩ := p2
  refine lv_if_ne (tgt := 9) hx hb d_JStringLatin1_indexOf_4 (by decide) (fun h4 => ?_) (fun h4 => ?_)
  · exact absurd hx9 h4
  · refine lv_iconst (v := (-1)) hx hb d_JStringLatin1_indexOf_7 (by decide) ?_
    exact hm_iret X hQ hr hlk hK hM hS d_JStringLatin1_indexOf_8 ⟨rfl, rfl⟩
set_option maxHeartbeats 4000000 in
set_option maxRecDepth 100000 in
theorem j_indexOf1 (l : Launch) (D : va_G) (k : Nat → ClassId) (sA sV : Nat → Nat) (f : hm) (i : Nat) (x : Int32) (y : Int32) (hi : i < 12) (hx9 : ¬ z_enc x = 0) (hy : x.toInt8.toInt32 = y) (hl0 : 0 < st_len.getD i 0) : hm_MiZ l sA sV D vwCl (tyL k) y_JStringLatin1_indexOf (Cond.code y_JStringLatin1_indexOf b_JStringLatin1_indexOf 4 (some .int) :: TB) ({ frames := 1, cells := 0, slots := 0, locals := 25 }) [.ref (sV i), .int x, .int 0, .int (nI (st_len.getD i 0))] f (fun (r : Int32) (f1 : hm) => st_fi i y (st_len.getD i 0) 0 = r ∧ f = f1) 0 0 := by
  refine hm_enterZ (Qc := fun sz => va_Qi _ (hm_R D vwCl (tyL k) f sz) (hm_A f sz)) (by decide) rfl (Nat.le_of_ble_eq_true rfl) ?_
  intro p e s m below meth cd ls hZ X0 hr hlk hin hK hM hS hA hl Q hQ
  have X : CallFix p m cd b_JStringLatin1_indexOf 4 s ([.ref (sV i), .int x, .int 0, .int (nI (st_len.getD i 0))] : List Value).toArray TB R_JStringLatin1 := ⟨X0.1, X0.2.1, X0.2.2.1, X0.2.2.2.1, fun w h => X0.2.2.2.2 w (List.mem_cons_of_mem _ h)⟩
  have hx := X.1; have hb := X.2.1; have hml := X.2.2.1; have hown := X.2.2.2.1; have hts := X.2.2.2.2
  have hl : lv_has ls 4 [(0, .ref (sV i)), (1, .int x), (2, .int 0), (3, .int (nI (st_len.getD i 0)))] := hl
  have hln := st_ln i hi
  refine lv_iload_n hx hb d_JStringLatin1_indexOf_0 rfl (lv_at hl 1 rfl) ?_
  refine hm_calli hS hM hA (va_runS (As := [.int x]) (rest := []) X (j_canE l D k f x   s.heap.size) (hm_cwS hts me_JStringLatin1_canEncode wl_JStringLatin1_88 rfl rfl ⟨Nat.le_of_ble_eq_true rfl, Nat.le_of_ble_eq_true rfl⟩) (hm_preS hM hK) rfl rfl hl.1 rfl (lv_room (Nat.le_of_ble_eq_true rfl)) d_JStringLatin1_indexOf_1 ⟨Nat.le_of_ble_eq_true rfl, Nat.le_of_ble_eq_true rfl⟩) (fun r3 f1 H locs p2 hM hS => ?_)
  obtain ⟨rfl, rfl⟩ := p2
  refine lv_if_ne (tgt := 9) hx hb d_JStringLatin1_indexOf_4 (by decide) (fun h4 => ?_) (fun h4 => ?_)
  · refine lv_iload_n hx hb d_JStringLatin1_indexOf_9 rfl (lv_at hl 2 rfl) ?_
    refine lv_iconst (v := 0) hx hb d_JStringLatin1_indexOf_10 (by decide) ?_
    refine va_mmax hx hb (hml.trans hl.1.symm) hown (hts _ wl_JStringLatin1_92) (hts _ ws_Mmax) (hts _ wn_Math) (hts _ wd_Mmax) (Nat.le_of_ble_eq_true rfl) (Nat.le_of_ble_eq_true rfl) (Nat.zero_le _) (Nat.zero_le _) d_JStringLatin1_indexOf_11 ?_
    refine hm_top (z := 0) (by decide) ?_
    refine lv_istore_n (lv' := [(2, .int 0), (0, .ref (sV i)), (1, .int x), (3, .int (nI (st_len.getD i 0)))]) hx hb d_JStringLatin1_indexOf_14 rfl hl (by decide) rfl (fun ls hl => ?_)
    refine lv_iload_n hx hb d_JStringLatin1_indexOf_15 rfl (lv_at hl 3 rfl) ?_
    refine lv_aload_n hx hb d_JStringLatin1_indexOf_16 rfl (lv_at hl 1 rfl) ?_
    refine va_tlen hx hb (hZ.1.1 i (by omega)).2.2.2 hS (v := nI (st_len.getD i 0)) rfl d_JStringLatin1_indexOf_17 ?_
    refine va_mmin hx hb (hml.trans hl.1.symm) hown (hts _ wl_JStringLatin1_38) (hts _ ws_Mmin) (hts _ wn_Math) (hts _ wd_Mmin) (Nat.le_of_ble_eq_true rfl) (Nat.le_of_ble_eq_true rfl) (Nat.zero_le _) (Nat.zero_le _) d_JStringLatin1_indexOf_18 ?_
    refine hm_top (z := nI (st_len.getD i 0)) (by simp) ?_
    refine lv_istore_n (lv' := [(3, .int (nI (st_len.getD i 0))), (2, .int 0), (0, .ref (sV i)), (1, .int x)]) hx hb d_JStringLatin1_indexOf_21 rfl hl (by decide) rfl (fun ls hl => ?_)
    refine lv_iload_n hx hb d_JStringLatin1_indexOf_22 rfl (lv_at hl 1 rfl) ?_
    refine lv_iload_n hx hb d_JStringLatin1_indexOf_23 rfl (lv_at hl 0 rfl) ?_
    refine lv_icmp_lt (tgt := 29) hx hb d_JStringLatin1_indexOf_24 (by decide) (fun h5 => ?_) (fun h5 => ?_)
    · refine lv_aload_n hx hb d_JStringLatin1_indexOf_29 rfl (lv_at hl 2 rfl) ?_
      refine lv_iload_n hx hb d_JStringLatin1_indexOf_30 rfl (lv_at hl 3 rfl) ?_
      refine lv_iload_n hx hb d_JStringLatin1_indexOf_31 rfl (lv_at hl 1 rfl) ?_
      refine lv_iload_n hx hb d_JStringLatin1_indexOf_32 rfl (lv_at hl 0 rfl) ?_
      refine hm_calli hS hM hA (va_runS (As := [.ref (sV i), .int x, .int 0, .int (nI (st_len.getD i 0))]) (rest := []) X (j_indexOfChar l D k sA sV f i x y  hi hy H.size) (hm_cwS hts me_JStringLatin1_indexOfChar wl_JStringLatin1_95 rfl rfl ⟨Nat.le_of_ble_eq_true rfl, Nat.le_of_ble_eq_true rfl⟩) (hm_preSZ hZ hS hA hM hK) rfl rfl hl.1 rfl (lv_room (Nat.le_of_ble_eq_true rfl)) d_JStringLatin1_indexOf_33 ⟨Nat.le_of_ble_eq_true rfl, Nat.le_of_ble_eq_true rfl⟩) (fun r8 f6 H locs p7 hM hS => ?_)
      obtain ⟨rfl, rfl⟩ := p7
      exact hm_iret X hQ hr hlk hK hM hS d_JStringLatin1_indexOf_36 ⟨rfl, rfl⟩
    · exact absurd (nI_lt (a := 0) hl0 (by omega)) h5
  · exact absurd h4 hx9
set_option maxHeartbeats 4000000 in
set_option maxRecDepth 100000 in
theorem j_indexOf2_no (l : Launch) (D : va_G) (k : Nat → ClassId) (sA sV : Nat → Nat) (f : hm) (i : Nat) (x : Int32) (hi : i < 12) (hx9 : z_enc x = 0) : hm_MiZ l sA sV D vwCl (tyL k) y_JString_indexOf2 (Cond.code y_JString_indexOf2 b_JString_indexOf2 3 (some .int) :: TB) ({ frames := 2, cells := 0, slots := 0, locals := 43 }) [.ref (sA i), .int x, .int 0] f (fun (r : Int32) (f1 : hm) => (-1) = r ∧ f = f1) 0 0 := by
  refine hm_enterZ (Qc := fun sz => va_Qi _ (hm_R D vwCl (tyL k) f sz) (hm_A f sz)) (by decide) rfl (Nat.le_of_ble_eq_true rfl) ?_
  intro p e s m below meth cd ls hZ X0 hr hlk hin hK hM hS hA hl Q hQ
  have X : CallFix p m cd b_JString_indexOf2 3 s ([.ref (sA i), .int x, .int 0] : List Value).toArray TB R_JString := ⟨X0.1, X0.2.1, X0.2.2.1, X0.2.2.2.1, fun w h => X0.2.2.2.2 w (List.mem_cons_of_mem _ h)⟩
  have hx := X.1; have hb := X.2.1; have hml := X.2.2.1; have hown := X.2.2.2.1; have hts := X.2.2.2.2
  have hl : lv_has ls 3 [(0, .ref (sA i)), (1, .int x), (2, .int 0)] := hl
  refine lv_aload_n hx hb d_JString_indexOf2_0 rfl (lv_at hl 0 rfl) ?_
  refine hm_calli hS hM hA (va_runV (As := []) (rest := []) X (j_isLatin1 l D k sA sV f i  (by omega) s.heap.size) (hm_cwV hts me_JString_isLatin1 wl_JString_492 rfl rfl ⟨Nat.le_of_ble_eq_true rfl, Nat.le_of_ble_eq_true rfl⟩) (hm_preVT hZ hS hA hM hK (i := i) (by omega)) rfl rfl hl.1 rfl (lv_room (Nat.le_of_ble_eq_true rfl)) d_JString_indexOf2_1 ⟨Nat.le_of_ble_eq_true rfl, Nat.le_of_ble_eq_true rfl⟩) (fun r3 f1 H locs p2 hM hS => ?_)
  obtain ⟨rfl, rfl⟩ := p2
  refine lv_if_eq (tgt := 23) hx hb d_JString_indexOf2_4 (by decide) (fun h4 => ?_) (fun h4 => ?_)
  · exact absurd h4 (by decide)
  · refine lv_aload_n hx hb d_JString_indexOf2_7 rfl (lv_at hl 0 rfl) ?_
    refine vk_getf hx hb (hZ.1.1 i (by omega)).2.2.1 hS hown (hts _ wf_JString_9) (fun x h => h) d_JString_indexOf2_8 ?_
    refine lv_iload_n hx hb d_JString_indexOf2_11 rfl (lv_at hl 1 rfl) ?_
    refine lv_iload_n hx hb d_JString_indexOf2_12 rfl (lv_at hl 2 rfl) ?_
    refine lv_aload_n hx hb d_JString_indexOf2_13 rfl (lv_at hl 0 rfl) ?_
    refine hm_calli hS hM hA (va_runV (As := []) (rest := [.int 0, .int x, .ref (sV i)]) X (j_length l D k sA sV f i  (by omega) H.size) (hm_cwV hts me_JString_length wl_JString_505 rfl rfl ⟨Nat.le_of_ble_eq_true rfl, Nat.le_of_ble_eq_true rfl⟩) (hm_preVT hZ hS hA hM hK (i := i) (by omega)) rfl rfl hl.1 rfl (lv_room (Nat.le_of_ble_eq_true rfl)) d_JString_indexOf2_14 ⟨Nat.le_of_ble_eq_true rfl, Nat.le_of_ble_eq_true rfl⟩) (fun r7 f5 H locs p6 hM hS => ?_)
    obtain ⟨rfl, rfl⟩ := p6
    refine hm_calli hS hM hA (va_runS (As := [.ref (sV i), .int x, .int 0, .int (nI (st_len.getD i 0))]) (rest := []) X (j_indexOf1_no l D k sA sV f i x  hi hx9 H.size) (hm_cwT hts me_JStringLatin1_indexOf wl_JString_637 rfl rfl ⟨Nat.le_of_ble_eq_true rfl, Nat.le_of_ble_eq_true rfl⟩) (hm_preSZ hZ hS hA hM hK) rfl rfl hl.1 rfl (lv_room (Nat.le_of_ble_eq_true rfl)) d_JString_indexOf2_17 ⟨Nat.le_of_ble_eq_true rfl, Nat.le_of_ble_eq_true rfl⟩) (fun r10 f8 H locs p9 hM hS => ?_)
    obtain ⟨rfl, rfl⟩ := p9
    refine lv_goto (tgt := 36) hx hb d_JString_indexOf2_20 (by decide) ?_
    exact hm_iret X hQ hr hlk hK hM hS d_JString_indexOf2_36 ⟨rfl, rfl⟩
set_option maxHeartbeats 4000000 in
set_option maxRecDepth 100000 in
theorem j_indexOf_no (l : Launch) (D : va_G) (k : Nat → ClassId) (sA sV : Nat → Nat) (f : hm) (i : Nat) (x : Int32) (hi : i < 12) (hx9 : z_enc x = 0) : hm_MiZ l sA sV D vwCl (tyL k) y_JString_indexOf (Cond.code y_JString_indexOf b_JString_indexOf 2 (some .int) :: TB) ({ frames := 3, cells := 0, slots := 0, locals := 65 }) [.ref (sA i), .int x] f (fun (r : Int32) (f1 : hm) => (-1) = r ∧ f = f1) 0 0 := by
  refine hm_enterZ (Qc := fun sz => va_Qi _ (hm_R D vwCl (tyL k) f sz) (hm_A f sz)) (by decide) rfl (Nat.le_of_ble_eq_true rfl) ?_
  intro p e s m below meth cd ls hZ X0 hr hlk hin hK hM hS hA hl Q hQ
  have X : CallFix p m cd b_JString_indexOf 2 s ([.ref (sA i), .int x] : List Value).toArray TB R_JString := ⟨X0.1, X0.2.1, X0.2.2.1, X0.2.2.2.1, fun w h => X0.2.2.2.2 w (List.mem_cons_of_mem _ h)⟩
  have hx := X.1; have hb := X.2.1; have hml := X.2.2.1; have hown := X.2.2.2.1; have hts := X.2.2.2.2
  have hl : lv_has ls 2 [(0, .ref (sA i)), (1, .int x)] := hl
  refine lv_aload_n hx hb d_JString_indexOf_0 rfl (lv_at hl 0 rfl) ?_
  refine lv_iload_n hx hb d_JString_indexOf_1 rfl (lv_at hl 1 rfl) ?_
  refine lv_iconst (v := 0) hx hb d_JString_indexOf_2 (by decide) ?_
  refine hm_calli hS hM hA (va_runV (As := [.int x, .int 0]) (rest := []) X (j_indexOf2_no l D k sA sV f i x  hi hx9 s.heap.size) (hm_cwV hts me_JString_indexOf2 wl_JString_633 rfl rfl ⟨Nat.le_of_ble_eq_true rfl, Nat.le_of_ble_eq_true rfl⟩) (hm_preVT hZ hS hA hM hK (i := i) (by omega)) rfl rfl hl.1 rfl (lv_room (Nat.le_of_ble_eq_true rfl)) d_JString_indexOf_3 ⟨Nat.le_of_ble_eq_true rfl, Nat.le_of_ble_eq_true rfl⟩) (fun r3 f1 H locs p2 hM hS => ?_)
  obtain ⟨rfl, rfl⟩ := p2
  exact hm_iret X hQ hr hlk hK hM hS d_JString_indexOf_6 ⟨rfl, rfl⟩
set_option maxHeartbeats 4000000 in
set_option maxRecDepth 100000 in
theorem j_indexOf2 (l : Launch) (D : va_G) (k : Nat → ClassId) (sA sV : Nat → Nat) (f : hm) (i : Nat) (x : Int32) (y : Int32) (hi : i < 12) (hx9 : ¬ z_enc x = 0) (hy : x.toInt8.toInt32 = y) (hl0 : 0 < st_len.getD i 0) : hm_MiZ l sA sV D vwCl (tyL k) y_JString_indexOf2 (Cond.code y_JString_indexOf2 b_JString_indexOf2 3 (some .int) :: TB) ({ frames := 2, cells := 0, slots := 0, locals := 48 }) [.ref (sA i), .int x, .int 0] f (fun (r : Int32) (f1 : hm) => st_fi i y (st_len.getD i 0) 0 = r ∧ f = f1) 0 0 := by
  refine hm_enterZ (Qc := fun sz => va_Qi _ (hm_R D vwCl (tyL k) f sz) (hm_A f sz)) (by decide) rfl (Nat.le_of_ble_eq_true rfl) ?_
  intro p e s m below meth cd ls hZ X0 hr hlk hin hK hM hS hA hl Q hQ
  have X : CallFix p m cd b_JString_indexOf2 3 s ([.ref (sA i), .int x, .int 0] : List Value).toArray TB R_JString := ⟨X0.1, X0.2.1, X0.2.2.1, X0.2.2.2.1, fun w h => X0.2.2.2.2 w (List.mem_cons_of_mem _ h)⟩
  have hx := X.1; have hb := X.2.1; have hml := X.2.2.1; have hown := X.2.2.2.1; have hts := X.2.2.2.2
  have hl : lv_has ls 3 [(0, .ref (sA i)), (1, .int x), (2, .int 0)] := hl
  refine lv_aload_n hx hb d_JString_indexOf2_0 rfl (lv_at hl 0 rfl) ?_
  refine hm_calli hS hM hA (va_runV (As := []) (rest := []) X (j_isLatin1 l D k sA sV f i  (by omega) s.heap.size) (hm_cwV hts me_JString_isLatin1 wl_JString_492 rfl rfl ⟨Nat.le_of_ble_eq_true rfl, Nat.le_of_ble_eq_true rfl⟩) (hm_preVT hZ hS hA hM hK (i := i) (by omega)) rfl rfl hl.1 rfl (lv_room (Nat.le_of_ble_eq_true rfl)) d_JString_indexOf2_1 ⟨Nat.le_of_ble_eq_true rfl, Nat.le_of_ble_eq_true rfl⟩) (fun r3 f1 H locs p2 hM hS => ?_)
  obtain ⟨rfl, rfl⟩ := p2
  refine lv_if_eq (tgt := 23) hx hb d_JString_indexOf2_4 (by decide) (fun h4 => ?_) (fun h4 => ?_)
  · exact absurd h4 (by decide)
  · refine lv_aload_n hx hb d_JString_indexOf2_7 rfl (lv_at hl 0 rfl) ?_
    refine vk_getf hx hb (hZ.1.1 i (by omega)).2.2.1 hS hown (hts _ wf_JString_9) (fun x h => h) d_JString_indexOf2_8 ?_
    refine lv_iload_n hx hb d_JString_indexOf2_11 rfl (lv_at hl 1 rfl) ?_
    refine lv_iload_n hx hb d_JString_indexOf2_12 rfl (lv_at hl 2 rfl) ?_
    refine lv_aload_n hx hb d_JString_indexOf2_13 rfl (lv_at hl 0 rfl) ?_
    refine hm_calli hS hM hA (va_runV (As := []) (rest := [.int 0, .int x, .ref (sV i)]) X (j_length l D k sA sV f i  (by omega) H.size) (hm_cwV hts me_JString_length wl_JString_505 rfl rfl ⟨Nat.le_of_ble_eq_true rfl, Nat.le_of_ble_eq_true rfl⟩) (hm_preVT hZ hS hA hM hK (i := i) (by omega)) rfl rfl hl.1 rfl (lv_room (Nat.le_of_ble_eq_true rfl)) d_JString_indexOf2_14 ⟨Nat.le_of_ble_eq_true rfl, Nat.le_of_ble_eq_true rfl⟩) (fun r7 f5 H locs p6 hM hS => ?_)
    obtain ⟨rfl, rfl⟩ := p6
    refine hm_calli hS hM hA (va_runS (As := [.ref (sV i), .int x, .int 0, .int (nI (st_len.getD i 0))]) (rest := []) X (j_indexOf1 l D k sA sV f i x y  hi hx9 hy hl0 H.size) (hm_cwT hts me_JStringLatin1_indexOf wl_JString_637 rfl rfl ⟨Nat.le_of_ble_eq_true rfl, Nat.le_of_ble_eq_true rfl⟩) (hm_preSZ hZ hS hA hM hK) rfl rfl hl.1 rfl (lv_room (Nat.le_of_ble_eq_true rfl)) d_JString_indexOf2_17 ⟨Nat.le_of_ble_eq_true rfl, Nat.le_of_ble_eq_true rfl⟩) (fun r10 f8 H locs p9 hM hS => ?_)
    obtain ⟨rfl, rfl⟩ := p9
    refine lv_goto (tgt := 36) hx hb d_JString_indexOf2_20 (by decide) ?_
    exact hm_iret X hQ hr hlk hK hM hS d_JString_indexOf2_36 ⟨rfl, rfl⟩
set_option maxHeartbeats 4000000 in
set_option maxRecDepth 100000 in
theorem j_indexOf (l : Launch) (D : va_G) (k : Nat → ClassId) (sA sV : Nat → Nat) (f : hm) (i : Nat) (x : Int32) (y : Int32) (hi : i < 12) (hx9 : ¬ z_enc x = 0) (hy : x.toInt8.toInt32 = y) (hl0 : 0 < st_len.getD i 0) : hm_MiZ l sA sV D vwCl (tyL k) y_JString_indexOf (Cond.code y_JString_indexOf b_JString_indexOf 2 (some .int) :: TB) ({ frames := 3, cells := 0, slots := 0, locals := 70 }) [.ref (sA i), .int x] f (fun (r : Int32) (f1 : hm) => st_fi i y (st_len.getD i 0) 0 = r ∧ f = f1) 0 0 := by
  refine hm_enterZ (Qc := fun sz => va_Qi _ (hm_R D vwCl (tyL k) f sz) (hm_A f sz)) (by decide) rfl (Nat.le_of_ble_eq_true rfl) ?_
  intro p e s m below meth cd ls hZ X0 hr hlk hin hK hM hS hA hl Q hQ
  have X : CallFix p m cd b_JString_indexOf 2 s ([.ref (sA i), .int x] : List Value).toArray TB R_JString := ⟨X0.1, X0.2.1, X0.2.2.1, X0.2.2.2.1, fun w h => X0.2.2.2.2 w (List.mem_cons_of_mem _ h)⟩
  have hx := X.1; have hb := X.2.1; have hml := X.2.2.1; have hown := X.2.2.2.1; have hts := X.2.2.2.2
  have hl : lv_has ls 2 [(0, .ref (sA i)), (1, .int x)] := hl
  refine lv_aload_n hx hb d_JString_indexOf_0 rfl (lv_at hl 0 rfl) ?_
  refine lv_iload_n hx hb d_JString_indexOf_1 rfl (lv_at hl 1 rfl) ?_
  refine lv_iconst (v := 0) hx hb d_JString_indexOf_2 (by decide) ?_
  refine hm_calli hS hM hA (va_runV (As := [.int x, .int 0]) (rest := []) X (j_indexOf2 l D k sA sV f i x y  hi hx9 hy hl0 s.heap.size) (hm_cwV hts me_JString_indexOf2 wl_JString_633 rfl rfl ⟨Nat.le_of_ble_eq_true rfl, Nat.le_of_ble_eq_true rfl⟩) (hm_preVT hZ hS hA hM hK (i := i) (by omega)) rfl rfl hl.1 rfl (lv_room (Nat.le_of_ble_eq_true rfl)) d_JString_indexOf_3 ⟨Nat.le_of_ble_eq_true rfl, Nat.le_of_ble_eq_true rfl⟩) (fun r3 f1 H locs p2 hM hS => ?_)
  obtain ⟨rfl, rfl⟩ := p2
  exact hm_iret X hQ hr hlk hK hM hS d_JString_indexOf_6 ⟨rfl, rfl⟩
end
section
theorem s_l : ∀ n, n < 32 → ((nI n &&& 31).toBitVec.smod 32).toNat = n := by decide +kernel
theorem z_or {a b : Nat} (hb : b < 256) : nI (a * 256) ||| nI b = nI (a * 256 + b) := by
  have h1 : a * 2 ^ 8 ||| b = a * 2 ^ 8 + b := by rw [← Nat.shiftLeft_eq, Nat.shiftLeft_add_eq_or_of_lt hb]
  have h2 : nI (a * 256) ||| nI b = nI (a * 256 ||| b) := by
    apply Int32.toBitVec_inj.1
    show BitVec.ofNat 32 (a * 256) ||| BitVec.ofNat 32 b = BitVec.ofNat 32 (a * 256 ||| b)
    apply BitVec.eq_of_getLsbD_eq
    intro i hi
    simp [hi]
  rw [h2]
  exact congrArg nI h1
/-- six bits of two characters -/
theorem z_six_eq {a b t : Nat} (ha : a < 256) (hb : b < 256) (ht : t ≤ 10) : (((nI a <<< ((8 : Int32) &&& 31)) ||| nI b) >>> ((10 - nI t) &&& 31)) &&& 63 = nI ((a * 256 + b) / 2 ^ (10 - t) % 64) := by
  have e1 : nI a <<< ((8 : Int32) &&& 31) = nI (a * 256) := pk_shlN _ 8 (by decide) (by omega)
  have e2 : (10 : Int32) - nI t = nI (10 - t) := pk_sub (a := 10) ht
  have e4 : (a * 256 + b) / 2 ^ (10 - t) ≤ a * 256 + b := Nat.div_le_self _ _
  rw [e1, z_or hb, e2, pk_shrN (by omega) _ (10 - t) (s_l _ (by omega)), pk_andN (by omega) 6 (by decide)]
def z_c2 (n : Nat) (ch : Nat → Nat) (j : Nat) : Nat := if j < n then ch j else 0
def z_six (n : Nat) (ch : Nat → Nat) (i : Nat) : Nat := (ch (6 * i / 8) * 256 + z_c2 n ch (6 * i / 8 + 1)) / 2 ^ (10 - 6 * i % 8) % 64
theorem z_six_lt (n : Nat) (ch : Nat → Nat) (i : Nat) : z_six n ch i < 64 := Nat.mod_lt _ (by decide)
def z_ss (z : Int64) (t : Nat) : Nat := ((z.toUInt64 >>> ((6 * (9 - nI t) : Int32).toInt64.toUInt64 &&& Int64.toUInt64 63)).toInt64).toInt32.toBitVec.toNat % 2 ^ 6
theorem z_ss_lt (z : Int64) (t : Nat) : z_ss z t < 64 := Nat.mod_lt _ (by decide)
def z_mix (z : Int64) (y : Int32) : Int64 := ((z ^^^ y.toInt64) * (-7046029254386353131)) ^^^ ((((z ^^^ y.toInt64) * (-7046029254386353131)).toUInt64 >>> ((29 : Int32).toInt64.toUInt64 &&& Int64.toUInt64 63)).toInt64)
def z_seal (z : Int64) (y : Nat → Int32) : Nat → Int64
  | 0 => z
  | j + 1 => z_mix (z_seal z y j) (y j)
theorem z_sg {n : Nat} (h : n ≤ 120) : (nI n * 8 + 5) / 6 = nI ((n * 8 + 5) / 6) := by
  have e1 : nI n * 8 = nI (n * 8) := pk_mul n 8
  have e2 : nI (n * 8) + 5 = nI (n * 8 + 5) := nI_add (n * 8) 5
  rw [e1, e2]
  exact pk_div (d := 6) (by omega) (by decide) (by decide)
theorem z_seal_congr {z : Int64} {y y' : Nat → Int32} : ∀ {j : Nat}, (∀ i, i < j → y i = y' i) → z_seal z y j = z_seal z y' j := by
  intro j
  induction j with
  | zero => intro _; rfl
  | succ j ih => intro h; show z_mix _ _ = z_mix _ _; rw [ih (fun i hi => h i (by omega)), h j (by omega)]
theorem z_chr {i j : Nat} (hi : i < 12) (hj : j < st_len.getD i 0) : vp_nar .char (nI (st_chr i j)) = nI (st_chr i j) := by
  have h9 := (pk_charN (q := st_chr i j) (by have h9 := (st_ok i hi j hj).2.1; omega)).1
  unfold vp_nar
  rw [h9]
theorem z_max0 {n : Nat} {x : Nat → Int32} {ch : Nat → Nat} {j : Nat} (hx : ∀ j, j < n → x j = nI (ch j) ∧ ch j < 256) (hj : j ≤ n) (hn : n ≤ 120) : (if (0 : Int32) < z_at n x (nI j) then z_at n x (nI j) else 0) = nI (z_c2 n ch j) := by
  by_cases h : j < n
  · rw [z_at_in h (by omega), (hx j h).1]
    have h8 := (hx j h).2
    by_cases h0 : ch j = 0
    · simp [z_c2, h, h0, nI_0]
    · have h7 : (0 : Int32) < nI (ch j) := nI_lt (a := 0) (b := ch j) (by omega) (by omega)
      rw [if_pos h7]
      simp [z_c2, h]
  · have h1 : z_at n x (nI j) = -1 := by
      unfold z_at
      rw [if_pos (Or.inr (nI_le (by omega) (by omega)))]
    rw [h1]
    simp [z_c2, h, nI_0]
theorem z_c2_lt {n : Nat} {x : Nat → Int32} {ch : Nat → Nat} (hx : ∀ j, j < n → x j = nI (ch j) ∧ ch j < 256) (j : Nat) : z_c2 n ch j < 256 := by
  unfold z_c2
  split
  · exact (hx j (by assumption)).2
  · decide
theorem z_ss_in (z : Int64) (t : Nat) : z_ss z t < st_len.getD 6 0 := z_ss_lt z t
theorem z_six_in (n : Nat) (ch : Nat → Nat) (i : Nat) : z_six n ch i < st_len.getD 6 0 := z_six_lt n ch i
end
section
theorem d_Wrapping_sizeOfWrapped_0 : decode b_Wrapping_sizeOfWrapped 0 = .ok (.aload_n 1, 1) := by decide +kernel
theorem d_Wrapping_sizeOfWrapped_1 : decode b_Wrapping_sizeOfWrapped 1 = .ok (.invokestatic 13, 3) := by decide +kernel
theorem d_Wrapping_sizeOfWrapped_4 : decode b_Wrapping_sizeOfWrapped 4 = .ok (.bipush 11, 2) := by decide +kernel
theorem d_Wrapping_sizeOfWrapped_6 : decode b_Wrapping_sizeOfWrapped 6 = .ok (.iadd, 1) := by decide +kernel
theorem d_Wrapping_sizeOfWrapped_7 : decode b_Wrapping_sizeOfWrapped 7 = .ok (.ireturn, 1) := by decide +kernel
theorem d_Wrapping_wrapInto_0 : decode b_Wrapping_wrapInto 0 = .ok (.aload_n 1, 1) := by decide +kernel
theorem d_Wrapping_wrapInto_1 : decode b_Wrapping_wrapInto 1 = .ok (.invokestatic 13, 3) := by decide +kernel
theorem d_Wrapping_wrapInto_4 : decode b_Wrapping_wrapInto 4 = .ok (.istore_n 3, 1) := by decide +kernel
theorem d_Wrapping_wrapInto_5 : decode b_Wrapping_wrapInto 5 = .ok (.aload_n 2, 1) := by decide +kernel
theorem d_Wrapping_wrapInto_6 : decode b_Wrapping_wrapInto 6 = .ok (.invokevirtual 17, 3) := by decide +kernel
theorem d_Wrapping_wrapInto_9 : decode b_Wrapping_wrapInto 9 = .ok (.iconst 0, 1) := by decide +kernel
theorem d_Wrapping_wrapInto_10 : decode b_Wrapping_wrapInto 10 = .ok (.istore 4, 2) := by decide +kernel
theorem d_Wrapping_wrapInto_12 : decode b_Wrapping_wrapInto 12 = .ok (.iload 4, 2) := by decide +kernel
theorem d_Wrapping_wrapInto_14 : decode b_Wrapping_wrapInto 14 = .ok (.iload_n 3, 1) := by decide +kernel
theorem d_Wrapping_wrapInto_15 : decode b_Wrapping_wrapInto 15 = .ok (.if_icmp .ge 28, 3) := by decide +kernel
theorem d_Wrapping_wrapInto_18 : decode b_Wrapping_wrapInto 18 = .ok (.aload_n 2, 1) := by decide +kernel
theorem d_Wrapping_wrapInto_19 : decode b_Wrapping_wrapInto 19 = .ok (.ldc 22, 2) := by decide +kernel
theorem d_Wrapping_wrapInto_21 : decode b_Wrapping_wrapInto 21 = .ok (.aload_n 1, 1) := by decide +kernel
theorem d_Wrapping_wrapInto_22 : decode b_Wrapping_wrapInto 22 = .ok (.bipush 6, 2) := by decide +kernel
theorem d_Wrapping_wrapInto_24 : decode b_Wrapping_wrapInto 24 = .ok (.iload 4, 2) := by decide +kernel
theorem d_Wrapping_wrapInto_26 : decode b_Wrapping_wrapInto 26 = .ok (.imul, 1) := by decide +kernel
theorem d_Wrapping_wrapInto_27 : decode b_Wrapping_wrapInto 27 = .ok (.invokestatic 24, 3) := by decide +kernel
theorem d_Wrapping_wrapInto_30 : decode b_Wrapping_wrapInto 30 = .ok (.invokevirtual 28, 3) := by decide +kernel
theorem d_Wrapping_wrapInto_33 : decode b_Wrapping_wrapInto 33 = .ok (.invokevirtual 34, 3) := by decide +kernel
theorem d_Wrapping_wrapInto_36 : decode b_Wrapping_wrapInto 36 = .ok (.pop, 1) := by decide +kernel
theorem d_Wrapping_wrapInto_37 : decode b_Wrapping_wrapInto 37 = .ok (.iinc 4 1, 3) := by decide +kernel
theorem d_Wrapping_wrapInto_40 : decode b_Wrapping_wrapInto 40 = .ok (.goto (-28), 3) := by decide +kernel
theorem d_Wrapping_wrapInto_43 : decode b_Wrapping_wrapInto 43 = .ok (.aload_n 0, 1) := by decide +kernel
theorem d_Wrapping_wrapInto_44 : decode b_Wrapping_wrapInto 44 = .ok (.aload_n 2, 1) := by decide +kernel
theorem d_Wrapping_wrapInto_45 : decode b_Wrapping_wrapInto 45 = .ok (.iload_n 3, 1) := by decide +kernel
theorem d_Wrapping_wrapInto_46 : decode b_Wrapping_wrapInto 46 = .ok (.invokevirtual 38, 3) := by decide +kernel
theorem d_Wrapping_wrapInto_49 : decode b_Wrapping_wrapInto 49 = .ok (.lstore 4, 2) := by decide +kernel
theorem d_Wrapping_wrapInto_51 : decode b_Wrapping_wrapInto 51 = .ok (.aload_n 2, 1) := by decide +kernel
theorem d_Wrapping_wrapInto_52 : decode b_Wrapping_wrapInto 52 = .ok (.bipush 46, 2) := by decide +kernel
theorem d_Wrapping_wrapInto_54 : decode b_Wrapping_wrapInto 54 = .ok (.invokevirtual 34, 3) := by decide +kernel
theorem d_Wrapping_wrapInto_57 : decode b_Wrapping_wrapInto 57 = .ok (.pop, 1) := by decide +kernel
theorem d_Wrapping_wrapInto_58 : decode b_Wrapping_wrapInto 58 = .ok (.iconst 0, 1) := by decide +kernel
theorem d_Wrapping_wrapInto_59 : decode b_Wrapping_wrapInto 59 = .ok (.istore 6, 2) := by decide +kernel
theorem d_Wrapping_wrapInto_61 : decode b_Wrapping_wrapInto 61 = .ok (.iload 6, 2) := by decide +kernel
theorem d_Wrapping_wrapInto_63 : decode b_Wrapping_wrapInto 63 = .ok (.bipush 10, 2) := by decide +kernel
theorem d_Wrapping_wrapInto_65 : decode b_Wrapping_wrapInto 65 = .ok (.if_icmp .ge 21, 3) := by decide +kernel
theorem d_Wrapping_wrapInto_68 : decode b_Wrapping_wrapInto 68 = .ok (.aload_n 2, 1) := by decide +kernel
theorem d_Wrapping_wrapInto_69 : decode b_Wrapping_wrapInto 69 = .ok (.lload 4, 2) := by decide +kernel
theorem d_Wrapping_wrapInto_71 : decode b_Wrapping_wrapInto 71 = .ok (.iload 6, 2) := by decide +kernel
theorem d_Wrapping_wrapInto_73 : decode b_Wrapping_wrapInto 73 = .ok (.invokestatic 42, 3) := by decide +kernel
theorem d_Wrapping_wrapInto_76 : decode b_Wrapping_wrapInto 76 = .ok (.invokevirtual 34, 3) := by decide +kernel
theorem d_Wrapping_wrapInto_79 : decode b_Wrapping_wrapInto 79 = .ok (.pop, 1) := by decide +kernel
theorem d_Wrapping_wrapInto_80 : decode b_Wrapping_wrapInto 80 = .ok (.iinc 6 1, 3) := by decide +kernel
theorem d_Wrapping_wrapInto_83 : decode b_Wrapping_wrapInto 83 = .ok (.goto (-22), 3) := by decide +kernel
theorem d_Wrapping_wrapInto_86 : decode b_Wrapping_wrapInto 86 = .ok (.return_, 1) := by decide +kernel
theorem d_Wrapping_signsFor_0 : decode b_Wrapping_signsFor 0 = .ok (.aload_n 0, 1) := by decide +kernel
theorem d_Wrapping_signsFor_1 : decode b_Wrapping_signsFor 1 = .ok (.invokevirtual 46, 3) := by decide +kernel
theorem d_Wrapping_signsFor_4 : decode b_Wrapping_signsFor 4 = .ok (.bipush 8, 2) := by decide +kernel
theorem d_Wrapping_signsFor_6 : decode b_Wrapping_signsFor 6 = .ok (.imul, 1) := by decide +kernel
theorem d_Wrapping_signsFor_7 : decode b_Wrapping_signsFor 7 = .ok (.iconst 5, 1) := by decide +kernel
theorem d_Wrapping_signsFor_8 : decode b_Wrapping_signsFor 8 = .ok (.iadd, 1) := by decide +kernel
theorem d_Wrapping_signsFor_9 : decode b_Wrapping_signsFor 9 = .ok (.bipush 6, 2) := by decide +kernel
theorem d_Wrapping_signsFor_11 : decode b_Wrapping_signsFor 11 = .ok (.idiv, 1) := by decide +kernel
theorem d_Wrapping_signsFor_12 : decode b_Wrapping_signsFor 12 = .ok (.ireturn, 1) := by decide +kernel
theorem d_Wrapping_sixBits_0 : decode b_Wrapping_sixBits 0 = .ok (.aload_n 0, 1) := by decide +kernel
theorem d_Wrapping_sixBits_1 : decode b_Wrapping_sixBits 1 = .ok (.iload_n 1, 1) := by decide +kernel
theorem d_Wrapping_sixBits_2 : decode b_Wrapping_sixBits 2 = .ok (.bipush 8, 2) := by decide +kernel
theorem d_Wrapping_sixBits_4 : decode b_Wrapping_sixBits 4 = .ok (.idiv, 1) := by decide +kernel
theorem d_Wrapping_sixBits_5 : decode b_Wrapping_sixBits 5 = .ok (.invokevirtual 50, 3) := by decide +kernel
theorem d_Wrapping_sixBits_8 : decode b_Wrapping_sixBits 8 = .ok (.istore_n 2, 1) := by decide +kernel
theorem d_Wrapping_sixBits_9 : decode b_Wrapping_sixBits 9 = .ok (.iconst 0, 1) := by decide +kernel
theorem d_Wrapping_sixBits_10 : decode b_Wrapping_sixBits 10 = .ok (.aload_n 0, 1) := by decide +kernel
theorem d_Wrapping_sixBits_11 : decode b_Wrapping_sixBits 11 = .ok (.iload_n 1, 1) := by decide +kernel
theorem d_Wrapping_sixBits_12 : decode b_Wrapping_sixBits 12 = .ok (.bipush 8, 2) := by decide +kernel
theorem d_Wrapping_sixBits_14 : decode b_Wrapping_sixBits 14 = .ok (.idiv, 1) := by decide +kernel
theorem d_Wrapping_sixBits_15 : decode b_Wrapping_sixBits 15 = .ok (.iconst 1, 1) := by decide +kernel
theorem d_Wrapping_sixBits_16 : decode b_Wrapping_sixBits 16 = .ok (.iadd, 1) := by decide +kernel
theorem d_Wrapping_sixBits_17 : decode b_Wrapping_sixBits 17 = .ok (.invokevirtual 50, 3) := by decide +kernel
theorem d_Wrapping_sixBits_20 : decode b_Wrapping_sixBits 20 = .ok (.invokestatic 60, 3) := by decide +kernel
theorem d_Wrapping_sixBits_23 : decode b_Wrapping_sixBits 23 = .ok (.istore_n 3, 1) := by decide +kernel
theorem d_Wrapping_sixBits_24 : decode b_Wrapping_sixBits 24 = .ok (.iload_n 2, 1) := by decide +kernel
theorem d_Wrapping_sixBits_25 : decode b_Wrapping_sixBits 25 = .ok (.bipush 8, 2) := by decide +kernel
theorem d_Wrapping_sixBits_27 : decode b_Wrapping_sixBits 27 = .ok (.ishl, 1) := by decide +kernel
theorem d_Wrapping_sixBits_28 : decode b_Wrapping_sixBits 28 = .ok (.iload_n 3, 1) := by decide +kernel
theorem d_Wrapping_sixBits_29 : decode b_Wrapping_sixBits 29 = .ok (.ior, 1) := by decide +kernel
theorem d_Wrapping_sixBits_30 : decode b_Wrapping_sixBits 30 = .ok (.bipush 10, 2) := by decide +kernel
theorem d_Wrapping_sixBits_32 : decode b_Wrapping_sixBits 32 = .ok (.iload_n 1, 1) := by decide +kernel
theorem d_Wrapping_sixBits_33 : decode b_Wrapping_sixBits 33 = .ok (.bipush 8, 2) := by decide +kernel
theorem d_Wrapping_sixBits_35 : decode b_Wrapping_sixBits 35 = .ok (.irem, 1) := by decide +kernel
theorem d_Wrapping_sixBits_36 : decode b_Wrapping_sixBits 36 = .ok (.isub, 1) := by decide +kernel
theorem d_Wrapping_sixBits_37 : decode b_Wrapping_sixBits 37 = .ok (.ishr, 1) := by decide +kernel
theorem d_Wrapping_sixBits_38 : decode b_Wrapping_sixBits 38 = .ok (.bipush 63, 2) := by decide +kernel
theorem d_Wrapping_sixBits_40 : decode b_Wrapping_sixBits 40 = .ok (.iand, 1) := by decide +kernel
theorem d_Wrapping_sixBits_41 : decode b_Wrapping_sixBits 41 = .ok (.ireturn, 1) := by decide +kernel
theorem d_Wrapping_sealOf_0 : decode b_Wrapping_sealOf 0 = .ok (.aload_n 0, 1) := by decide +kernel
theorem d_Wrapping_sealOf_1 : decode b_Wrapping_sealOf 1 = .ok (.getfield 9, 3) := by decide +kernel
theorem d_Wrapping_sealOf_4 : decode b_Wrapping_sealOf 4 = .ok (.i2l, 1) := by decide +kernel
theorem d_Wrapping_sealOf_5 : decode b_Wrapping_sealOf 5 = .ok (.lstore_n 3, 1) := by decide +kernel
theorem d_Wrapping_sealOf_6 : decode b_Wrapping_sealOf 6 = .ok (.iconst 0, 1) := by decide +kernel
theorem d_Wrapping_sealOf_7 : decode b_Wrapping_sealOf 7 = .ok (.istore 5, 2) := by decide +kernel
theorem d_Wrapping_sealOf_9 : decode b_Wrapping_sealOf 9 = .ok (.iload 5, 2) := by decide +kernel
theorem d_Wrapping_sealOf_11 : decode b_Wrapping_sealOf 11 = .ok (.iload_n 2, 1) := by decide +kernel
theorem d_Wrapping_sealOf_12 : decode b_Wrapping_sealOf 12 = .ok (.if_icmp .ge 30, 3) := by decide +kernel
theorem d_Wrapping_sealOf_15 : decode b_Wrapping_sealOf 15 = .ok (.lload_n 3, 1) := by decide +kernel
theorem d_Wrapping_sealOf_16 : decode b_Wrapping_sealOf 16 = .ok (.aload_n 1, 1) := by decide +kernel
theorem d_Wrapping_sealOf_17 : decode b_Wrapping_sealOf 17 = .ok (.iload 5, 2) := by decide +kernel
theorem d_Wrapping_sealOf_19 : decode b_Wrapping_sealOf 19 = .ok (.invokevirtual 50, 3) := by decide +kernel
theorem d_Wrapping_sealOf_22 : decode b_Wrapping_sealOf 22 = .ok (.i2l, 1) := by decide +kernel
theorem d_Wrapping_sealOf_23 : decode b_Wrapping_sealOf 23 = .ok (.lxor, 1) := by decide +kernel
theorem d_Wrapping_sealOf_24 : decode b_Wrapping_sealOf 24 = .ok (.ldc2_w 69, 3) := by decide +kernel
theorem d_Wrapping_sealOf_27 : decode b_Wrapping_sealOf 27 = .ok (.lmul, 1) := by decide +kernel
theorem d_Wrapping_sealOf_28 : decode b_Wrapping_sealOf 28 = .ok (.lstore_n 3, 1) := by decide +kernel
theorem d_Wrapping_sealOf_29 : decode b_Wrapping_sealOf 29 = .ok (.lload_n 3, 1) := by decide +kernel
theorem d_Wrapping_sealOf_30 : decode b_Wrapping_sealOf 30 = .ok (.lload_n 3, 1) := by decide +kernel
theorem d_Wrapping_sealOf_31 : decode b_Wrapping_sealOf 31 = .ok (.bipush 29, 2) := by decide +kernel
theorem d_Wrapping_sealOf_33 : decode b_Wrapping_sealOf 33 = .ok (.lushr, 1) := by decide +kernel
theorem d_Wrapping_sealOf_34 : decode b_Wrapping_sealOf 34 = .ok (.lxor, 1) := by decide +kernel
theorem d_Wrapping_sealOf_35 : decode b_Wrapping_sealOf 35 = .ok (.lstore_n 3, 1) := by decide +kernel
theorem d_Wrapping_sealOf_36 : decode b_Wrapping_sealOf 36 = .ok (.iinc 5 1, 3) := by decide +kernel
theorem d_Wrapping_sealOf_39 : decode b_Wrapping_sealOf 39 = .ok (.goto (-30), 3) := by decide +kernel
theorem d_Wrapping_sealOf_42 : decode b_Wrapping_sealOf 42 = .ok (.lload_n 3, 1) := by decide +kernel
theorem d_Wrapping_sealOf_43 : decode b_Wrapping_sealOf 43 = .ok (.lreturn, 1) := by decide +kernel
theorem d_Wrapping_sealSign_0 : decode b_Wrapping_sealSign 0 = .ok (.ldc 22, 2) := by decide +kernel
theorem d_Wrapping_sealSign_2 : decode b_Wrapping_sealSign 2 = .ok (.lload_n 0, 1) := by decide +kernel
theorem d_Wrapping_sealSign_3 : decode b_Wrapping_sealSign 3 = .ok (.bipush 6, 2) := by decide +kernel
theorem d_Wrapping_sealSign_5 : decode b_Wrapping_sealSign 5 = .ok (.bipush 9, 2) := by decide +kernel
theorem d_Wrapping_sealSign_7 : decode b_Wrapping_sealSign 7 = .ok (.iload_n 2, 1) := by decide +kernel
theorem d_Wrapping_sealSign_8 : decode b_Wrapping_sealSign 8 = .ok (.isub, 1) := by decide +kernel
theorem d_Wrapping_sealSign_9 : decode b_Wrapping_sealSign 9 = .ok (.imul, 1) := by decide +kernel
theorem d_Wrapping_sealSign_10 : decode b_Wrapping_sealSign 10 = .ok (.lushr, 1) := by decide +kernel
theorem d_Wrapping_sealSign_11 : decode b_Wrapping_sealSign 11 = .ok (.l2i, 1) := by decide +kernel
theorem d_Wrapping_sealSign_12 : decode b_Wrapping_sealSign 12 = .ok (.bipush 63, 2) := by decide +kernel
theorem d_Wrapping_sealSign_14 : decode b_Wrapping_sealSign 14 = .ok (.iand, 1) := by decide +kernel
theorem d_Wrapping_sealSign_15 : decode b_Wrapping_sealSign 15 = .ok (.invokevirtual 28, 3) := by decide +kernel
theorem d_Wrapping_sealSign_18 : decode b_Wrapping_sealSign 18 = .ok (.ireturn, 1) := by decide +kernel
set_option maxRecDepth 20000 in
theorem fl_Wrapping_9 : hm_fl vwCl TB R_Wrapping 9 6 0 true .int := ⟨_, _, _, _, cl_Wrapping, by decide, (TBm 162 (by decide +kernel) rfl), rfl, rfl⟩
set_option maxRecDepth 20000 in
theorem me_JString_charAt : hm_meV y_JString_charAt b_JString_charAt 2 (some .char) 1 := ⟨⟨(TBm 363 rfl rfl), (TBm 50 (by decide +kernel) rfl), by decide +kernel⟩, (TBm 361 (by decide +kernel) rfl), (TBm 362 (by decide +kernel) rfl)⟩
set_option maxRecDepth 20000 in
theorem me_Wrapping_sealOf : hm_meV y_Wrapping_sealOf b_Wrapping_sealOf 6 (some .long) 2 := ⟨⟨(TBm 438 rfl rfl), (TBm 45 (by decide +kernel) rfl), by decide +kernel⟩, (TBm 437 (by decide +kernel) rfl), (TBm 5 (by decide +kernel) rfl)⟩
set_option maxRecDepth 20000 in
theorem me_Wrapping_sealSign : hm_meS y_Wrapping_sealSign b_Wrapping_sealSign 3 (some .char) 2 := ⟨⟨(TBm 442 rfl rfl), (TBm 45 (by decide +kernel) rfl), by decide +kernel⟩, (TBm 441 (by decide +kernel) rfl)⟩
set_option maxRecDepth 20000 in
theorem me_Wrapping_signsFor : hm_meS y_Wrapping_signsFor b_Wrapping_signsFor 1 (some .int) 1 := ⟨⟨(TBm 418 rfl rfl), (TBm 45 (by decide +kernel) rfl), by decide +kernel⟩, (TBm 417 (by decide +kernel) rfl)⟩
set_option maxRecDepth 20000 in
theorem me_Wrapping_sixBits : hm_meS y_Wrapping_sixBits b_Wrapping_sixBits 4 (some .int) 2 := ⟨⟨(TBm 427 rfl rfl), (TBm 45 (by decide +kernel) rfl), by decide +kernel⟩, (TBm 426 (by decide +kernel) rfl)⟩
set_option maxRecDepth 20000 in
theorem wc_Wrapping_69 : Cond.constantLong R_Wrapping 69 (-7046029254386353131) ∈ TB := TBm 439 (by decide +kernel) rfl
set_option maxRecDepth 20000 in
theorem wl_Wrapping_13 : Cond.methodLink R_Wrapping 13 y_Wrapping_signsFor ∈ TB := TBm 416 (by decide +kernel) rfl
set_option maxRecDepth 20000 in
theorem wl_Wrapping_17 : Cond.methodLink R_Wrapping 17 y_Text_clear ∈ TB := TBm 423 (by decide +kernel) rfl
set_option maxRecDepth 20000 in
theorem wl_Wrapping_24 : Cond.methodLink R_Wrapping 24 y_Wrapping_sixBits ∈ TB := TBm 425 (by decide +kernel) rfl
set_option maxRecDepth 20000 in
theorem wl_Wrapping_28 : Cond.methodLink R_Wrapping 28 y_JString_charAt ∈ TB := TBm 433 (by decide +kernel) rfl
set_option maxRecDepth 20000 in
theorem wl_Wrapping_34 : Cond.methodLink R_Wrapping 34 y_Text_add ∈ TB := TBm 434 (by decide +kernel) rfl
set_option maxRecDepth 20000 in
theorem wl_Wrapping_38 : Cond.methodLink R_Wrapping 38 y_Wrapping_sealOf ∈ TB := TBm 435 (by decide +kernel) rfl
set_option maxRecDepth 20000 in
theorem wl_Wrapping_42 : Cond.methodLink R_Wrapping 42 y_Wrapping_sealSign ∈ TB := TBm 440 (by decide +kernel) rfl
set_option maxRecDepth 20000 in
theorem wl_Wrapping_46 : Cond.methodLink R_Wrapping 46 y_Text_size ∈ TB := TBm 419 (by decide +kernel) rfl
set_option maxRecDepth 20000 in
theorem wl_Wrapping_50 : Cond.methodLink R_Wrapping 50 y_Text_codeAt ∈ TB := TBm 428 (by decide +kernel) rfl
set_option maxRecDepth 20000 in
theorem wl_Wrapping_60 : Cond.methodLink R_Wrapping 60 Lib.Math.max.name ∈ TB := TBm 432 (by decide +kernel) rfl
set_option maxHeartbeats 4000000 in
set_option maxRecDepth 100000 in
theorem c_signsFor (l : Launch) (D : va_G) (k : Nat → ClassId) (f : hm) (t : Nat) (a : Nat) (n : Nat) (ht : f t = some (.inr (5, [.ref a, .int (nI n)]))) (hn : n ≤ 120) : hm_Mi l D vwCl (tyL k) y_Wrapping_signsFor (Cond.code y_Wrapping_signsFor b_Wrapping_signsFor 1 (some .int) :: TB) ({ frames := 1, cells := 0, slots := 0, locals := 20 }) [.ref t] f (fun (r : Int32) (f1 : hm) => nI ((n * 8 + 5) / 6) = r ∧ f = f1) 0 0 := by
  refine hm_enter (Qc := fun sz => va_Qi _ (hm_R D vwCl (tyL k) f sz) (hm_A f sz)) (by decide) rfl (Nat.le_of_ble_eq_true rfl) ?_
  intro p e s m below meth cd ls X0 hr hlk hin hK hM hS hA hl Q hQ
  have X : CallFix p m cd b_Wrapping_signsFor 1 s ([.ref t] : List Value).toArray TB R_Wrapping := ⟨X0.1, X0.2.1, X0.2.2.1, X0.2.2.2.1, fun w h => X0.2.2.2.2 w (List.mem_cons_of_mem _ h)⟩
  have hx := X.1; have hb := X.2.1; have hml := X.2.2.1; have hown := X.2.2.2.1; have hts := X.2.2.2.2
  have hl : lv_has ls 1 [(0, .ref t)] := hl
  refine lv_aload_n hx hb d_Wrapping_signsFor_0 rfl (lv_at hl 0 rfl) ?_
  refine hm_calli hS hM hA (va_runV (As := []) (rest := []) X (c_Text_size l D k f t a (nI n) ht  s.heap.size) (hm_cwV hts me_Text_size wl_Wrapping_46 rfl rfl ⟨Nat.le_of_ble_eq_true rfl, Nat.le_of_ble_eq_true rfl⟩) (hm_preV hM hK ht rfl) rfl rfl hl.1 rfl (lv_room (Nat.le_of_ble_eq_true rfl)) d_Wrapping_signsFor_1 ⟨Nat.le_of_ble_eq_true rfl, Nat.le_of_ble_eq_true rfl⟩) (fun r3 f1 H locs p2 hM hS => ?_)
  obtain ⟨rfl, rfl⟩ := p2
  refine lv_bipush (v := 8) hx hb d_Wrapping_signsFor_4 (by decide) ?_
  refine lv_imul hx hb d_Wrapping_signsFor_6 ?_
  refine lv_iconst (v := 5) hx hb d_Wrapping_signsFor_7 (by decide) ?_
  refine lv_iadd hx hb d_Wrapping_signsFor_8 ?_
  refine lv_bipush (v := 6) hx hb d_Wrapping_signsFor_9 (by decide) ?_
  refine lv_idiv hx hb d_Wrapping_signsFor_11 (by decide) ?_
  refine hm_top (z := nI ((n * 8 + 5) / 6)) (z_sg hn) ?_
  exact hm_iret X hQ hr hlk hK hM hS d_Wrapping_signsFor_12 ⟨rfl, rfl⟩
set_option maxHeartbeats 4000000 in
set_option maxRecDepth 100000 in
theorem c_sizeOfWrapped (l : Launch) (D : va_G) (k : Nat → ClassId) (f : hm) (h : Nat) (t : Nat) (a : Nat) (n : Nat) (ht : f t = some (.inr (5, [.ref a, .int (nI n)]))) (hn : n ≤ 120) : hm_Mi l D vwCl (tyL k) y_Wrapping_sizeOfWrapped (Cond.code y_Wrapping_sizeOfWrapped b_Wrapping_sizeOfWrapped 2 (some .int) :: TB) ({ frames := 2, cells := 0, slots := 0, locals := 40 }) [.ref h, .ref t] f (fun (r : Int32) (f1 : hm) => nI ((n * 8 + 5) / 6 + 11) = r ∧ f = f1) 0 0 := by
  refine hm_enter (Qc := fun sz => va_Qi _ (hm_R D vwCl (tyL k) f sz) (hm_A f sz)) (by decide) rfl (Nat.le_of_ble_eq_true rfl) ?_
  intro p e s m below meth cd ls X0 hr hlk hin hK hM hS hA hl Q hQ
  have X : CallFix p m cd b_Wrapping_sizeOfWrapped 2 s ([.ref h, .ref t] : List Value).toArray TB R_Wrapping := ⟨X0.1, X0.2.1, X0.2.2.1, X0.2.2.2.1, fun w h => X0.2.2.2.2 w (List.mem_cons_of_mem _ h)⟩
  have hx := X.1; have hb := X.2.1; have hml := X.2.2.1; have hown := X.2.2.2.1; have hts := X.2.2.2.2
  have hl : lv_has ls 2 [(0, .ref h), (1, .ref t)] := hl
  refine lv_aload_n hx hb d_Wrapping_sizeOfWrapped_0 rfl (lv_at hl 1 rfl) ?_
  refine hm_calli hS hM hA (va_runS (As := [.ref t]) (rest := []) X (c_signsFor l D k f t a n ht (by omega) s.heap.size) (hm_cwS hts me_Wrapping_signsFor wl_Wrapping_13 rfl rfl ⟨Nat.le_of_ble_eq_true rfl, Nat.le_of_ble_eq_true rfl⟩) (hm_preS hM hK) rfl rfl hl.1 rfl (lv_room (Nat.le_of_ble_eq_true rfl)) d_Wrapping_sizeOfWrapped_1 ⟨Nat.le_of_ble_eq_true rfl, Nat.le_of_ble_eq_true rfl⟩) (fun r3 f1 H locs p2 hM hS => ?_)
  obtain ⟨rfl, rfl⟩ := p2
  refine lv_bipush (v := 11) hx hb d_Wrapping_sizeOfWrapped_4 (by decide) ?_
  refine lv_iadd hx hb d_Wrapping_sizeOfWrapped_6 ?_
  refine hm_top (z := nI ((n * 8 + 5) / 6 + 11)) (nI_add _ 11) ?_
  exact hm_iret X hQ hr hlk hK hM hS d_Wrapping_sizeOfWrapped_7 ⟨rfl, rfl⟩
set_option maxHeartbeats 4000000 in
set_option maxRecDepth 100000 in
theorem c_sixBits (l : Launch) (D : va_G) (k : Nat → ClassId) (f : hm) (t : Nat) (a : Nat) (n : Nat) (x : Nat → Int32) (ch : Nat → Nat) (i : Nat) (ht : f t = some (.inr (5, [.ref a, .int (nI n)]))) (ha : f a = some (.inl (k 2, 120, .inl x))) (hn : n ≤ 120) (hx9 : ∀ j, j < n → x j = nI (ch j) ∧ ch j < 256) (hi : 6 * i < 8 * n) : hm_Mi l D vwCl (tyL k) y_Wrapping_sixBits (Cond.code y_Wrapping_sixBits b_Wrapping_sixBits 4 (some .int) :: TB) ({ frames := 1, cells := 0, slots := 0, locals := 24 }) [.ref t, .int (nI (6 * i))] f (fun (r : Int32) (f1 : hm) => nI (z_six n ch i) = r ∧ f = f1) 0 0 := by
  refine hm_enter (Qc := fun sz => va_Qi _ (hm_R D vwCl (tyL k) f sz) (hm_A f sz)) (by decide) rfl (Nat.le_of_ble_eq_true rfl) ?_
  intro p e s m below meth cd ls X0 hr hlk hin hK hM hS hA hl Q hQ
  have X : CallFix p m cd b_Wrapping_sixBits 4 s ([.ref t, .int (nI (6 * i))] : List Value).toArray TB R_Wrapping := ⟨X0.1, X0.2.1, X0.2.2.1, X0.2.2.2.1, fun w h => X0.2.2.2.2 w (List.mem_cons_of_mem _ h)⟩
  have hx := X.1; have hb := X.2.1; have hml := X.2.2.1; have hown := X.2.2.2.1; have hts := X.2.2.2.2
  have hl : lv_has ls 4 [(0, .ref t), (1, .int (nI (6 * i)))] := hl
  refine lv_aload_n hx hb d_Wrapping_sixBits_0 rfl (lv_at hl 0 rfl) ?_
  refine lv_iload_n hx hb d_Wrapping_sixBits_1 rfl (lv_at hl 1 rfl) ?_
  refine lv_bipush (v := 8) hx hb d_Wrapping_sixBits_2 (by decide) ?_
  refine lv_idiv hx hb d_Wrapping_sixBits_4 (by decide) ?_
  refine hm_top (z := nI (6 * i / 8)) (pk_div (d := 8) (by omega) (by decide) (by decide)) ?_
  refine hm_calli hS hM hA (va_runV (As := [.int (nI (6 * i / 8))]) (rest := []) X (c_Text_codeAt l D k f t a n x (nI (6 * i / 8)) ht ha hn s.heap.size) (hm_cwV hts me_Text_codeAt wl_Wrapping_50 rfl rfl ⟨Nat.le_of_ble_eq_true rfl, Nat.le_of_ble_eq_true rfl⟩) (hm_preV hM hK ht rfl) rfl rfl hl.1 rfl (lv_room (Nat.le_of_ble_eq_true rfl)) d_Wrapping_sixBits_5 ⟨Nat.le_of_ble_eq_true rfl, Nat.le_of_ble_eq_true rfl⟩) (fun r3 f1 H locs p2 hM hS => ?_)
  obtain ⟨rfl, rfl⟩ := p2
  refine hm_top (z := nI (ch (6 * i / 8))) (by rw [z_at_in (by omega) (by omega)]; exact (hx9 _ (by omega)).1) ?_
  refine lv_istore_n (lv' := [(2, .int (nI (ch (6 * i / 8)))), (0, .ref t), (1, .int (nI (6 * i)))]) hx hb d_Wrapping_sixBits_8 rfl hl (by decide) rfl (fun ls hl => ?_)
  refine lv_iconst (v := 0) hx hb d_Wrapping_sixBits_9 (by decide) ?_
  refine lv_aload_n hx hb d_Wrapping_sixBits_10 rfl (lv_at hl 1 rfl) ?_
  refine lv_iload_n hx hb d_Wrapping_sixBits_11 rfl (lv_at hl 2 rfl) ?_
  refine lv_bipush (v := 8) hx hb d_Wrapping_sixBits_12 (by decide) ?_
  refine lv_idiv hx hb d_Wrapping_sixBits_14 (by decide) ?_
  refine hm_top (z := nI (6 * i / 8)) (pk_div (d := 8) (by omega) (by decide) (by decide)) ?_
  refine lv_iconst (v := 1) hx hb d_Wrapping_sixBits_15 (by decide) ?_
  refine lv_iadd hx hb d_Wrapping_sixBits_16 ?_
  refine hm_top (nI_1 _) ?_
  refine hm_calli hS hM hA (va_runV (As := [.int (nI ((6 * i / 8) + 1))]) (rest := [.int 0]) X (c_Text_codeAt l D k f t a n x (nI ((6 * i / 8) + 1)) ht ha hn H.size) (hm_cwV hts me_Text_codeAt wl_Wrapping_50 rfl rfl ⟨Nat.le_of_ble_eq_true rfl, Nat.le_of_ble_eq_true rfl⟩) (hm_preV hM hK ht rfl) rfl rfl hl.1 rfl (lv_room (Nat.le_of_ble_eq_true rfl)) d_Wrapping_sixBits_17 ⟨Nat.le_of_ble_eq_true rfl, Nat.le_of_ble_eq_true rfl⟩) (fun r6 f4 H locs p5 hM hS => ?_)
  obtain ⟨rfl, rfl⟩ := p5
  refine va_mmax hx hb (hml.trans hl.1.symm) hown (hts _ wl_Wrapping_60) (hts _ ws_Mmax) (hts _ wn_Math) (hts _ wd_Mmax) (Nat.le_of_ble_eq_true rfl) (Nat.le_of_ble_eq_true rfl) (Nat.zero_le _) (Nat.zero_le _) d_Wrapping_sixBits_20 ?_
  refine hm_top (z := nI (z_c2 n ch (6 * i / 8 + 1))) (z_max0 hx9 (by omega) hn) ?_
  refine lv_istore_n (lv' := [(3, .int (nI (z_c2 n ch (6 * i / 8 + 1)))), (2, .int (nI (ch (6 * i / 8)))), (0, .ref t), (1, .int (nI (6 * i)))]) hx hb d_Wrapping_sixBits_23 rfl hl (by decide) rfl (fun ls hl => ?_)
  refine lv_iload_n hx hb d_Wrapping_sixBits_24 rfl (lv_at hl 1 rfl) ?_
  refine lv_bipush (v := 8) hx hb d_Wrapping_sixBits_25 (by decide) ?_
  refine lv_ishl hx hb d_Wrapping_sixBits_27 ?_
  refine lv_iload_n hx hb d_Wrapping_sixBits_28 rfl (lv_at hl 0 rfl) ?_
  refine lv_ior hx hb d_Wrapping_sixBits_29 ?_
  refine lv_bipush (v := 10) hx hb d_Wrapping_sixBits_30 (by decide) ?_
  refine lv_iload_n hx hb d_Wrapping_sixBits_32 rfl (lv_at hl 3 rfl) ?_
  refine lv_bipush (v := 8) hx hb d_Wrapping_sixBits_33 (by decide) ?_
  refine lv_irem hx hb d_Wrapping_sixBits_35 (by decide) ?_
  refine hm_top (z := nI (6 * i % 8)) (pk_rem (d := 8) (by omega) (by decide) (by decide)) ?_
  refine lv_isub hx hb d_Wrapping_sixBits_36 ?_
  refine lv_ishr hx hb d_Wrapping_sixBits_37 ?_
  refine lv_bipush (v := 63) hx hb d_Wrapping_sixBits_38 (by decide) ?_
  refine lv_iand hx hb d_Wrapping_sixBits_40 ?_
  refine hm_top (z := nI (z_six n ch i)) (z_six_eq (hx9 _ (by omega)).2 (z_c2_lt hx9 _) (by omega)) ?_
  exact hm_iret X hQ hr hlk hK hM hS d_Wrapping_sixBits_41 ⟨rfl, rfl⟩
set_option maxHeartbeats 4000000 in
set_option maxRecDepth 100000 in
theorem c_sealOf (l : Launch) (D : va_G) (k : Nat → ClassId) (f : hm) (h : Nat) (ky : Int32) (t : Nat) (a : Nat) (n : Nat) (x : Nat → Int32) (g9 : Nat) (hh : f h = some (.inr (6, [.int ky]))) (ht : f t = some (.inr (5, [.ref a, .int (nI n)]))) (ha : f a = some (.inl (k 2, 120, .inl x))) (hn : n ≤ 120) (hg : g9 ≤ n) : hm_Ml l D vwCl (tyL k) y_Wrapping_sealOf (Cond.code y_Wrapping_sealOf b_Wrapping_sealOf 6 (some .long) :: TB) ({ frames := 1, cells := 0, slots := 0, locals := 21 }) [.ref h, .ref t, .int (nI g9)] f (fun (r : Int64) (f1 : hm) => z_seal ky.toInt64 x g9 = r ∧ f = f1) 0 0 := by
  refine hm_enter (Qc := fun sz => va_Ql _ (hm_R D vwCl (tyL k) f sz) (hm_A f sz)) (by decide) rfl (Nat.le_of_ble_eq_true rfl) ?_
  intro p e s m below meth cd ls X0 hr hlk hin hK hM hS hA hl Q hQ
  have X : CallFix p m cd b_Wrapping_sealOf 6 s ([.ref h, .ref t, .int (nI g9)] : List Value).toArray TB R_Wrapping := ⟨X0.1, X0.2.1, X0.2.2.1, X0.2.2.2.1, fun w h => X0.2.2.2.2 w (List.mem_cons_of_mem _ h)⟩
  have hx := X.1; have hb := X.2.1; have hml := X.2.2.1; have hown := X.2.2.2.1; have hts := X.2.2.2.2
  have hl : lv_has ls 6 [(0, .ref h), (1, .ref t), (2, .int (nI g9))] := hl
  refine lv_aload_n hx hb d_Wrapping_sealOf_0 rfl (lv_at hl 0 rfl) ?_
  refine hm_get X hK hM hh fl_Wrapping_9 (v := .int ky) rfl d_Wrapping_sealOf_1 ?_
  refine lv_i2l hx hb d_Wrapping_sealOf_4 rfl ?_
  refine lv_lstore_n (lv' := [(3, .long ky.toInt64), (0, .ref h), (1, .ref t), (2, .int (nI g9))]) hx hb d_Wrapping_sealOf_5 rfl hl (by decide) rfl (fun ls hl => ?_)
  refine lv_iconst (v := 0) hx hb d_Wrapping_sealOf_6 (by decide) ?_
  refine lv_istore (lv' := [(5, .int 0), (3, .long ky.toInt64), (0, .ref h), (1, .ref t), (2, .int (nI g9))]) hx hb d_Wrapping_sealOf_7 hl (by decide) rfl (fun ls hl => ?_)
  have loop9 : ∀ (fu : Nat) (j : Nat) (H : Heap) (locs : List Loc) (ls : Array Slot) (hmu : g9 - j < fu) (hj : j ≤ g9) (hM : hm_W D vwCl (hm_A f s.heap.size) f H) (hS : va_S (hm_A f s.heap.size) s.heap H locs) (hl : lv_has ls 6 [(0, .ref h), (1, .ref t), (2, .int (nI g9)), (3, .long (z_seal ky.toInt64 x j)), (5, .int (nI j))]), W p l e ({ frames := 1, cells := 0, slots := 0, locals := 21 }) s m ([.ref h, .ref t, .int (nI g9)] : List Value).toArray below meth cd H locs 0 0 Q (F0 m 9 ls []) := by
    intro fu
    induction fu with
    | zero => intro j H locs ls hmu; exact absurd hmu (Nat.not_lt_zero _)
    | succ fu ih =>
      intro j H locs ls hmu hj  hM hS hl
      refine lv_iload hx hb d_Wrapping_sealOf_9 (lv_at hl 4 rfl) ?_
      refine lv_iload_n hx hb d_Wrapping_sealOf_11 rfl (lv_at hl 2 rfl) ?_
      refine lv_icmp_ge (tgt := 42) hx hb d_Wrapping_sealOf_12 (by decide) (fun h1 => ?_) (fun h1 => ?_)
      · have hge : j = g9 := by have z := h1; rw [nI_leI (by omega) (by omega)] at z; omega
        subst hge
        refine lv_lload_n hx hb d_Wrapping_sealOf_42 rfl (lv_at hl 3 rfl) ?_
        exact hm_lret X hQ hr hlk hK hM hS d_Wrapping_sealOf_43 ⟨rfl, rfl⟩
      · have hlt : j < g9 := by have z := h1; rw [nI_leI (by omega) (by omega)] at z; omega
        refine lv_lload_n hx hb d_Wrapping_sealOf_15 rfl (lv_at hl 3 rfl) ?_
        refine lv_aload_n hx hb d_Wrapping_sealOf_16 rfl (lv_at hl 1 rfl) ?_
        refine lv_iload hx hb d_Wrapping_sealOf_17 (lv_at hl 4 rfl) ?_
        refine hm_calli hS hM hA (va_runV (As := [.int (nI j)]) (rest := [.long (z_seal ky.toInt64 x j)]) X (c_Text_codeAt l D k f t a n x (nI j) ht ha hn H.size) (hm_cwV hts me_Text_codeAt wl_Wrapping_50 rfl rfl ⟨Nat.le_of_ble_eq_true rfl, Nat.le_of_ble_eq_true rfl⟩) (hm_preV hM hK ht rfl) rfl rfl hl.1 rfl (lv_room (Nat.le_of_ble_eq_true rfl)) d_Wrapping_sealOf_19 ⟨Nat.le_of_ble_eq_true rfl, Nat.le_of_ble_eq_true rfl⟩) (fun r4 f2 H locs p3 hM hS => ?_)
        obtain ⟨rfl, rfl⟩ := p3
        refine hm_top (z := x j) (z_at_in (by omega) (by omega)) ?_
        refine lv_i2l hx hb d_Wrapping_sealOf_22 rfl ?_
        refine lv_lxor hx hb d_Wrapping_sealOf_23 ?_
        refine lv_ldc2 (v := (-7046029254386353131)) hx hb hown (hts _ wc_Wrapping_69) d_Wrapping_sealOf_24 ?_
        refine lv_lmul hx hb d_Wrapping_sealOf_27 ?_
        refine lv_lstore_n (lv' := [(3, .long (((z_seal ky.toInt64 x j) ^^^ ((x j).toInt64)) * (-7046029254386353131))), (0, .ref h), (1, .ref t), (2, .int (nI g9)), (5, .int (nI j))]) hx hb d_Wrapping_sealOf_28 rfl hl (by decide) rfl (fun ls hl => ?_)
        refine lv_lload_n hx hb d_Wrapping_sealOf_29 rfl (lv_at hl 0 rfl) ?_
        refine lv_lload_n hx hb d_Wrapping_sealOf_30 rfl (lv_at hl 0 rfl) ?_
        refine lv_bipush (v := 29) hx hb d_Wrapping_sealOf_31 (by decide) ?_
        refine lv_lushr hx hb d_Wrapping_sealOf_33 rfl ?_
        refine lv_lxor hx hb d_Wrapping_sealOf_34 ?_
        refine lv_lstore_n (lv' := [(3, .long ((((z_seal ky.toInt64 x j) ^^^ ((x j).toInt64)) * (-7046029254386353131)) ^^^ (((((z_seal ky.toInt64 x j) ^^^ ((x j).toInt64)) * (-7046029254386353131)).toUInt64 >>> ((29 : Int32).toInt64.toUInt64 &&& Int64.toUInt64 63)).toInt64))), (0, .ref h), (1, .ref t), (2, .int (nI g9)), (5, .int (nI j))]) hx hb d_Wrapping_sealOf_35 rfl hl (by decide) rfl (fun ls hl => ?_)
        refine lv_iinc (lv' := [(5, .int (nI (j + 1))), (3, .long ((((z_seal ky.toInt64 x j) ^^^ ((x j).toInt64)) * (-7046029254386353131)) ^^^ (((((z_seal ky.toInt64 x j) ^^^ ((x j).toInt64)) * (-7046029254386353131)).toUInt64 >>> ((29 : Int32).toInt64.toUInt64 &&& Int64.toUInt64 63)).toInt64))), (0, .ref h), (1, .ref t), (2, .int (nI g9))]) hx hb d_Wrapping_sealOf_36 hl (k := 4) rfl (hm_inc _) (by decide) rfl (fun ls hl => ?_)
        refine lv_goto (tgt := 9) hx hb d_Wrapping_sealOf_39 (by decide) ?_
        exact ih (j + 1)  H locs ls (by omega) (by omega)  hM hS (lv_sub hl [2, 3, 4, 1, 0] rfl)
  exact loop9 _ 0  s.heap [] ls (Nat.lt_succ_self _) (Nat.zero_le _)  hM hS (lv_sub hl [2, 3, 4, 1, 0] rfl)
set_option maxHeartbeats 4000000 in
set_option maxRecDepth 100000 in
theorem c_sealSign (l : Launch) (D : va_G) (k : Nat → ClassId) (sA sV : Nat → Nat) (f : hm) (z : Int64) (t : Nat) : hm_MiZ l sA sV D vwCl (tyL k) y_Wrapping_sealSign (Cond.code y_Wrapping_sealSign b_Wrapping_sealSign 3 (some .char) :: TB) ({ frames := 4, cells := 0, slots := 0, locals := 85 }) [.long z, .int (nI t)] f (fun (r : Int32) (f1 : hm) => nI (st_chr 6 (z_ss z t)) = r ∧ f = f1) 0 0 := by
  refine hm_enterZ (Qc := fun sz => va_Qi _ (hm_R D vwCl (tyL k) f sz) (hm_A f sz)) (by decide) rfl (Nat.le_of_ble_eq_true rfl) ?_
  intro p e s m below meth cd ls hZ X0 hr hlk hin hK hM hS hA hl Q hQ
  have X : CallFix p m cd b_Wrapping_sealSign 3 s ([.long z, .int (nI t)] : List Value).toArray TB R_Wrapping := ⟨X0.1, X0.2.1, X0.2.2.1, X0.2.2.2.1, fun w h => X0.2.2.2.2 w (List.mem_cons_of_mem _ h)⟩
  have hx := X.1; have hb := X.2.1; have hml := X.2.2.1; have hown := X.2.2.2.1; have hts := X.2.2.2.2
  have hl : lv_has ls 3 [(0, .long z), (2, .int (nI t))] := hl
  refine va_ldcS hx hb hown (hZ.2.2.1 6 (by decide)) d_Wrapping_sealSign_0 ?_
  refine lv_lload_n hx hb d_Wrapping_sealSign_2 rfl (lv_at hl 0 rfl) ?_
  refine lv_bipush (v := 6) hx hb d_Wrapping_sealSign_3 (by decide) ?_
  refine lv_bipush (v := 9) hx hb d_Wrapping_sealSign_5 (by decide) ?_
  refine lv_iload_n hx hb d_Wrapping_sealSign_7 rfl (lv_at hl 1 rfl) ?_
  refine lv_isub hx hb d_Wrapping_sealSign_8 ?_
  refine lv_imul hx hb d_Wrapping_sealSign_9 ?_
  refine lv_lushr hx hb d_Wrapping_sealSign_10 rfl ?_
  refine lv_l2i hx hb d_Wrapping_sealSign_11 rfl ?_
  refine lv_bipush (v := 63) hx hb d_Wrapping_sealSign_12 (by decide) ?_
  refine lv_iand hx hb d_Wrapping_sealSign_14 ?_
  refine hm_top (z := nI (z_ss z t)) (pk_and _ 6 (by decide)) ?_
  refine hm_calli hS hM hA (va_runV (As := [.int (nI (z_ss z t))]) (rest := []) X (j_charAt l D k sA sV f 6 (z_ss z t)  (by decide) (z_ss_in z t) s.heap.size) (hm_cwV hts me_JString_charAt wl_Wrapping_28 rfl rfl ⟨Nat.le_of_ble_eq_true rfl, Nat.le_of_ble_eq_true rfl⟩) (hm_preVT hZ hS hA hM hK (i := 6) (by decide)) rfl rfl hl.1 rfl (lv_room (Nat.le_of_ble_eq_true rfl)) d_Wrapping_sealSign_15 ⟨Nat.le_of_ble_eq_true rfl, Nat.le_of_ble_eq_true rfl⟩) (fun r3 f1 H locs p2 hM hS => ?_)
  obtain ⟨rfl, rfl⟩ := p2
  exact hm_zret X hQ hr hlk hK hM hS (pk_charN (q := st_chr 6 (z_ss z t)) (by have h9 := (st_ok 6 (by decide) _ (z_ss_in z t)).2.1; omega)).1 d_Wrapping_sealSign_18 ⟨rfl, rfl⟩
set_option maxHeartbeats 4000000 in
set_option maxRecDepth 100000 in
theorem c_wrapInto (l : Launch) (D : va_G) (k : Nat → ClassId) (sA sV : Nat → Nat) (f : hm) (h : Nat) (ky : Int32) (t : Nat) (a : Nat) (n : Nat) (x : Nat → Int32) (ch : Nat → Nat) (t2 : Nat) (a2 : Nat) (n2 : Int32) (y : Nat → Int32) (hh : f h = some (.inr (6, [.int ky]))) (ht : f t = some (.inr (5, [.ref a, .int (nI n)]))) (ha : f a = some (.inl (k 2, 120, .inl x))) (ht2 : f t2 = some (.inr (5, [.ref a2, .int n2]))) (ha2 : f a2 = some (.inl (k 2, 120, .inl y))) (hn : n ≤ 120) (hx9 : ∀ j, j < n → x j = nI (ch j) ∧ ch j < 256) (hs : (n * 8 + 5) / 6 + 11 ≤ 120) (htt : t ≠ t2) (haa : a ≠ a2) : hm_MvZ l sA sV D vwCl (tyL k) y_Wrapping_wrapInto (Cond.code y_Wrapping_wrapInto b_Wrapping_wrapInto 7 none :: TB) ({ frames := 5, cells := 0, slots := 0, locals := 107 }) [.ref h, .ref t, .ref t2] f (fun (f1 : hm) => ∃ (y2 : Nat → Int32), (∀ i, i < (n * 8 + 5) / 6 → y2 i = nI (st_chr 6 (z_six n ch i))) ∧ (y2 ((n * 8 + 5) / 6) = 46) ∧ (∀ i, i < 10 → y2 ((n * 8 + 5) / 6 + 1 + i) = nI (st_chr 6 (z_ss (z_seal ky.toInt64 y2 ((n * 8 + 5) / 6)) i))) ∧ f1 t2 = some (.inr (5, [.ref a2, .int (nI ((n * 8 + 5) / 6 + 11))])) ∧ f1 a2 = some (.inl (k 2, 120, .inl y2)) ∧ ∀ (q : Nat) (x : va_E), q ≠ t2 → q ≠ a2 → f q = some x → f1 q = some x) 0 0 := by
  refine hm_enterZ (Qc := fun sz => va_Qv _ (hm_R D vwCl (tyL k) f sz) (hm_A f sz)) (by decide) rfl (Nat.le_of_ble_eq_true rfl) ?_
  intro p e s m below meth cd ls hZ X0 hr hlk hin hK hM hS hA hl Q hQ
  have X : CallFix p m cd b_Wrapping_wrapInto 7 s ([.ref h, .ref t, .ref t2] : List Value).toArray TB R_Wrapping := ⟨X0.1, X0.2.1, X0.2.2.1, X0.2.2.2.1, fun w h => X0.2.2.2.2 w (List.mem_cons_of_mem _ h)⟩
  have hx := X.1; have hb := X.2.1; have hml := X.2.2.1; have hown := X.2.2.2.1; have hts := X.2.2.2.2
  have hl : lv_has ls 7 [(0, .ref h), (1, .ref t), (2, .ref t2)] := hl
  refine lv_aload_n hx hb d_Wrapping_wrapInto_0 rfl (lv_at hl 1 rfl) ?_
  refine hm_calli hS hM hA (va_runS (As := [.ref t]) (rest := []) X (c_signsFor l D k f t a n ht hn s.heap.size) (hm_cwS hts me_Wrapping_signsFor wl_Wrapping_13 rfl rfl ⟨Nat.le_of_ble_eq_true rfl, Nat.le_of_ble_eq_true rfl⟩) (hm_preS hM hK) rfl rfl hl.1 rfl (lv_room (Nat.le_of_ble_eq_true rfl)) d_Wrapping_wrapInto_1 ⟨Nat.le_of_ble_eq_true rfl, Nat.le_of_ble_eq_true rfl⟩) (fun r3 f1 H locs p2 hM hS => ?_)
  obtain ⟨rfl, rfl⟩ := p2
  refine lv_istore_n (lv' := [(3, .int (nI ((n * 8 + 5) / 6))), (0, .ref h), (1, .ref t), (2, .ref t2)]) hx hb d_Wrapping_wrapInto_4 rfl hl (by decide) rfl (fun ls hl => ?_)
  refine lv_aload_n hx hb d_Wrapping_wrapInto_5 rfl (lv_at hl 3 rfl) ?_
  refine hm_callv hS hM hA (va_runV (As := []) (rest := []) X (c_Text_clear l D k f t2 a2 n2 ht2  H.size) (hm_cwV hts me_Text_clear wl_Wrapping_17 rfl rfl ⟨Nat.le_of_ble_eq_true rfl, Nat.le_of_ble_eq_true rfl⟩) (hm_preV hM hK ht2 rfl) rfl rfl hl.1 rfl (lv_room (Nat.le_of_ble_eq_true rfl)) d_Wrapping_wrapInto_6 ⟨Nat.le_of_ble_eq_true rfl, Nat.le_of_ble_eq_true rfl⟩) (fun f4 H locs p5 hM hS => ?_)
  obtain ⟨g6, hfr7⟩ := p5
  refine lv_iconst (v := 0) hx hb d_Wrapping_wrapInto_9 (by decide) ?_
  refine lv_istore (lv' := [(4, .int 0), (3, .int (nI ((n * 8 + 5) / 6))), (0, .ref h), (1, .ref t), (2, .ref t2)]) hx hb d_Wrapping_wrapInto_10 hl (by decide) rfl (fun ls hl => ?_)
  have g8 : f4 h = some (.inr (6, [.int ky])) := hfr7 _ _ (hm_neI hh ht2 (by decide)) hh
  have g9 : f4 t = some (.inr (5, [.ref a, .int (nI n)])) := hfr7 _ _ htt ht
  have g10 : f4 a = some (.inl (k 2, 120, .inl x)) := hfr7 _ _ ((hm_neA ht2 ha).symm) ha
  have g11 : f4 a2 = some (.inl (k 2, 120, .inl y)) := hfr7 _ _ ((hm_neA ht2 ha2).symm) ha2
  have loop12 : ∀ (fu : Nat) (j : Nat) (y1 : Nat → Int32) (fL : hm) (H : Heap) (locs : List Loc) (ls : Array Slot) (hmu : (n * 8 + 5) / 6 - j < fu) (hj : j ≤ (n * 8 + 5) / 6) (hy1 : ∀ i, i < j → y1 i = nI (st_chr 6 (z_six n ch i))) (hh : fL h = some (.inr (6, [.int ky]))) (ht : fL t = some (.inr (5, [.ref a, .int (nI n)]))) (ha : fL a = some (.inl (k 2, 120, .inl x))) (ht2 : fL t2 = some (.inr (5, [.ref a2, .int (nI j)]))) (ha2 : fL a2 = some (.inl (k 2, 120, .inl y1))) (hfr : ∀ (q : Nat) (x : va_E), q ≠ t2 → q ≠ a2 → f q = some x → fL q = some x) (hM : hm_W D vwCl (hm_A f s.heap.size) fL H) (hS : va_S (hm_A f s.heap.size) s.heap H locs) (hl : lv_has ls 7 [(0, .ref h), (1, .ref t), (2, .ref t2), (3, .int (nI ((n * 8 + 5) / 6))), (4, .int (nI j))]), W p l e ({ frames := 5, cells := 0, slots := 0, locals := 107 }) s m ([.ref h, .ref t, .ref t2] : List Value).toArray below meth cd H locs 0 0 Q (F0 m 12 ls []) := by
    intro fu
    induction fu with
    | zero => intro j y1 fL H locs ls hmu; exact absurd hmu (Nat.not_lt_zero _)
    | succ fu ih =>
      intro j y1 fL H locs ls hmu hj hy1 hh ht ha ht2 ha2 hfr hM hS hl
      refine lv_iload hx hb d_Wrapping_wrapInto_12 (lv_at hl 4 rfl) ?_
      refine lv_iload_n hx hb d_Wrapping_wrapInto_14 rfl (lv_at hl 3 rfl) ?_
      refine lv_icmp_ge (tgt := 43) hx hb d_Wrapping_wrapInto_15 (by decide) (fun h12 => ?_) (fun h12 => ?_)
      · have hge : j = (n * 8 + 5) / 6 := by have z := h12; rw [nI_leI (by omega) (by omega)] at z; omega
        subst hge
        refine lv_aload_n hx hb d_Wrapping_wrapInto_43 rfl (lv_at hl 0 rfl) ?_
        refine lv_aload_n hx hb d_Wrapping_wrapInto_44 rfl (lv_at hl 2 rfl) ?_
        refine lv_iload_n hx hb d_Wrapping_wrapInto_45 rfl (lv_at hl 3 rfl) ?_
        refine hm_calll hS hM hA (va_runV (As := [.ref t2, .int (nI ((n * 8 + 5) / 6))]) (rest := []) X (c_sealOf l D k fL h ky t2 a2 ((n * 8 + 5) / 6) y1 ((n * 8 + 5) / 6) hh ht2 ha2 (by omega) (Nat.le_refl _) H.size) (hm_cwV hts me_Wrapping_sealOf wl_Wrapping_38 rfl rfl ⟨Nat.le_of_ble_eq_true rfl, Nat.le_of_ble_eq_true rfl⟩) (hm_preV hM hK hh rfl) rfl rfl hl.1 rfl (lv_room (Nat.le_of_ble_eq_true rfl)) d_Wrapping_wrapInto_46 ⟨Nat.le_of_ble_eq_true rfl, Nat.le_of_ble_eq_true rfl⟩) (fun r15 f13 H locs p14 hM hS => ?_)
        obtain ⟨rfl, rfl⟩ := p14
        refine lv_lstore (lv' := [(4, .long (z_seal ky.toInt64 y1 ((n * 8 + 5) / 6))), (0, .ref h), (1, .ref t), (2, .ref t2), (3, .int (nI ((n * 8 + 5) / 6)))]) hx hb d_Wrapping_wrapInto_49 hl (by decide) rfl (fun ls hl => ?_)
        refine lv_aload_n hx hb d_Wrapping_wrapInto_51 rfl (lv_at hl 3 rfl) ?_
        refine lv_bipush (v := 46) hx hb d_Wrapping_wrapInto_52 (by decide) ?_
        refine hm_calli hS hM hA (va_runV (As := [.int 46]) (rest := []) X (c_Text_add l D k fL t2 a2 ((n * 8 + 5) / 6) y1 46 ht2 ha2 (by omega) (by decide) H.size) (hm_cwV hts me_Text_add wl_Wrapping_34 rfl rfl ⟨Nat.le_of_ble_eq_true rfl, Nat.le_of_ble_eq_true rfl⟩) (hm_preV hM hK ht2 rfl) rfl rfl hl.1 rfl (lv_room (Nat.le_of_ble_eq_true rfl)) d_Wrapping_wrapInto_54 ⟨Nat.le_of_ble_eq_true rfl, Nat.le_of_ble_eq_true rfl⟩) (fun r18 f16 H locs p17 hM hS => ?_)
        obtain ⟨rfl, g19, g20, hfr21⟩ := p17
        refine lv_pop hx hb d_Wrapping_wrapInto_57 rfl ?_
        refine lv_iconst (v := 0) hx hb d_Wrapping_wrapInto_58 (by decide) ?_
        refine lv_istore (lv' := [(6, .int 0), (4, .long (z_seal ky.toInt64 y1 ((n * 8 + 5) / 6))), (0, .ref h), (1, .ref t), (2, .ref t2), (3, .int (nI ((n * 8 + 5) / 6)))]) hx hb d_Wrapping_wrapInto_59 hl (by decide) rfl (fun ls hl => ?_)
        have g22 : f16 h = some (.inr (6, [.int ky])) := hfr21 _ _ (hm_neI hh ht2 (by decide)) (hm_neA hh ha2) hh
        have g23 : f16 t = some (.inr (5, [.ref a, .int (nI n)])) := hfr21 _ _ htt (hm_neA ht ha2) ht
        have g24 : f16 a = some (.inl (k 2, 120, .inl x)) := hfr21 _ _ ((hm_neA ht2 ha).symm) haa ha
        have loop61 : ∀ (fu : Nat) (j2 : Nat) (y2 : Nat → Int32) (fL : hm) (H : Heap) (locs : List Loc) (ls : Array Slot) (hmu : 10 - j2 < fu) (hj2 : j2 ≤ 10) (hy2 : ∀ i, i < (n * 8 + 5) / 6 → y2 i = y1 i) (hdot : y2 ((n * 8 + 5) / 6) = 46) (hy3 : ∀ i, i < j2 → y2 ((n * 8 + 5) / 6 + 1 + i) = nI (st_chr 6 (z_ss (z_seal ky.toInt64 y1 ((n * 8 + 5) / 6)) i))) (hh : fL h = some (.inr (6, [.int ky]))) (ht : fL t = some (.inr (5, [.ref a, .int (nI n)]))) (ha : fL a = some (.inl (k 2, 120, .inl x))) (ht2 : fL t2 = some (.inr (5, [.ref a2, .int (nI ((n * 8 + 5) / 6 + 1 + j2))]))) (ha2 : fL a2 = some (.inl (k 2, 120, .inl y2))) (hfr : ∀ (q : Nat) (x : va_E), q ≠ t2 → q ≠ a2 → f q = some x → fL q = some x) (hM : hm_W D vwCl (hm_A f s.heap.size) fL H) (hS : va_S (hm_A f s.heap.size) s.heap H locs) (hl : lv_has ls 7 [(0, .ref h), (1, .ref t), (2, .ref t2), (4, .long (z_seal ky.toInt64 y1 ((n * 8 + 5) / 6))), (6, .int (nI j2))]), W p l e ({ frames := 5, cells := 0, slots := 0, locals := 107 }) s m ([.ref h, .ref t, .ref t2] : List Value).toArray below meth cd H locs 0 0 Q (F0 m 61 ls []) := by
          intro fu
          induction fu with
          | zero => intro j2 y2 fL H locs ls hmu; exact absurd hmu (Nat.not_lt_zero _)
          | succ fu ih =>
            intro j2 y2 fL H locs ls hmu hj2 hy2 hdot hy3 hh ht ha ht2 ha2 hfr hM hS hl
            refine lv_iload hx hb d_Wrapping_wrapInto_61 (lv_at hl 4 rfl) ?_
            refine lv_bipush (v := 10) hx hb d_Wrapping_wrapInto_63 (by decide) ?_
            refine lv_icmp_ge (tgt := 86) hx hb d_Wrapping_wrapInto_65 (by decide) (fun h25 => ?_) (fun h25 => ?_)
            · have hge : j2 = 10 := by have z := h25; have z2 := (nI_leI (a := 10) (b := j2) (by decide) (by omega)).mp z; omega
              subst hge
              have hy4 : ∀ i, i < (n * 8 + 5) / 6 → y2 i = nI (st_chr 6 (z_six n ch i)) := fun i h9 => (hy2 i h9).trans (hy1 i (by omega))
              have hy5 : ∀ i, i < 10 → y2 ((n * 8 + 5) / 6 + 1 + i) = nI (st_chr 6 (z_ss (z_seal ky.toInt64 y2 ((n * 8 + 5) / 6)) i)) := fun i h9 => by rw [z_seal_congr (j := (n * 8 + 5) / 6) (fun i h8 => hy2 i h8)]; exact hy3 i h9
              exact hm_vret X hQ hr hlk hK hM hS d_Wrapping_wrapInto_86 ⟨y2, hy4, hdot, hy5, ht2, ha2, hfr⟩
            · have hlt : j2 < 10 := by have z := h25; have z2 := mt (nI_leI (a := 10) (b := j2) (by decide) (by omega)).mpr z; omega
              refine lv_aload_n hx hb d_Wrapping_wrapInto_68 rfl (lv_at hl 2 rfl) ?_
              refine lv_lload hx hb d_Wrapping_wrapInto_69 (lv_at hl 3 rfl) ?_
              refine lv_iload hx hb d_Wrapping_wrapInto_71 (lv_at hl 4 rfl) ?_
              refine hm_calli hS hM hA (va_runS (As := [.long (z_seal ky.toInt64 y1 ((n * 8 + 5) / 6)), .int (nI j2)]) (rest := [.ref t2]) X (c_sealSign l D k sA sV fL (z_seal ky.toInt64 y1 ((n * 8 + 5) / 6)) j2   H.size) (hm_cwS hts me_Wrapping_sealSign wl_Wrapping_42 rfl rfl ⟨Nat.le_of_ble_eq_true rfl, Nat.le_of_ble_eq_true rfl⟩) (hm_preSZ hZ hS hA hM hK) rfl rfl hl.1 rfl (lv_room (Nat.le_of_ble_eq_true rfl)) d_Wrapping_wrapInto_73 ⟨Nat.le_of_ble_eq_true rfl, Nat.le_of_ble_eq_true rfl⟩) (fun r28 f26 H locs p27 hM hS => ?_)
              obtain ⟨rfl, rfl⟩ := p27
              refine hm_calli hS hM hA (va_runV (As := [.int (nI (st_chr 6 (z_ss (z_seal ky.toInt64 y1 ((n * 8 + 5) / 6)) j2)))]) (rest := []) X (c_Text_add l D k fL t2 a2 ((n * 8 + 5) / 6 + 1 + j2) y2 (nI (st_chr 6 (z_ss (z_seal ky.toInt64 y1 ((n * 8 + 5) / 6)) j2))) ht2 ha2 (by omega) (z_chr (by decide) (z_ss_in _ _)) H.size) (hm_cwV hts me_Text_add wl_Wrapping_34 rfl rfl ⟨Nat.le_of_ble_eq_true rfl, Nat.le_of_ble_eq_true rfl⟩) (hm_preV hM hK ht2 rfl) rfl rfl hl.1 rfl (lv_room (Nat.le_of_ble_eq_true rfl)) d_Wrapping_wrapInto_76 ⟨Nat.le_of_ble_eq_true rfl, Nat.le_of_ble_eq_true rfl⟩) (fun r31 f29 H locs p30 hM hS => ?_)
              obtain ⟨rfl, g32, g33, hfr34⟩ := p30
              refine lv_pop hx hb d_Wrapping_wrapInto_79 rfl ?_
              refine lv_iinc (lv' := [(6, .int (nI (j2 + 1))), (0, .ref h), (1, .ref t), (2, .ref t2), (4, .long (z_seal ky.toInt64 y1 ((n * 8 + 5) / 6)))]) hx hb d_Wrapping_wrapInto_80 hl (k := 4) rfl (hm_inc _) (by decide) rfl (fun ls hl => ?_)
              refine lv_goto (tgt := 61) hx hb d_Wrapping_wrapInto_83 (by decide) ?_
              have g35 : f29 h = some (.inr (6, [.int ky])) := hfr34 _ _ (hm_neI hh ht2 (by decide)) (hm_neA hh ha2) hh
              have g36 : f29 t = some (.inr (5, [.ref a, .int (nI n)])) := hfr34 _ _ htt (hm_neA ht ha2) ht
              have g37 : f29 a = some (.inl (k 2, 120, .inl x)) := hfr34 _ _ ((hm_neA ht2 ha).symm) haa ha
              exact ih (j2 + 1) (upd y2 ((n * 8 + 5) / 6 + 1 + j2) (nI (st_chr 6 (z_ss (z_seal ky.toInt64 y1 ((n * 8 + 5) / 6)) j2)))) f29 H locs ls (by omega) (by omega) (fun i h9 => by simp [upd, show i ≠ (n * 8 + 5) / 6 + 1 + j2 by omega]; exact hy2 i h9) (by simp [upd, show (n * 8 + 5) / 6 ≠ (n * 8 + 5) / 6 + 1 + j2 by omega]; exact hdot) (fun i h9 => by by_cases e9 : i = j2 <;> simp [upd, e9]; exact hy3 i (by omega)) g35 g36 g37 g32 g33 (fun q x n0 n1 hq => by have t0 := hfr _ _ n0 n1 hq; have t1 := hfr34 _ _ n0 n1 t0; exact t1) hM hS (lv_sub hl [1, 2, 3, 4, 0] rfl)
        exact loop61 _ 0 (upd y1 ((n * 8 + 5) / 6) 46) f16 H locs ls (Nat.lt_succ_self _) (Nat.zero_le _) (fun i h9 => by simp [upd, show i ≠ (n * 8 + 5) / 6 by omega]) (by simp [upd]) (fun i h9 => absurd h9 (Nat.not_lt_zero _)) g22 g23 g24 g19 g20 (fun q x n0 n1 hq => by have t0 := hfr _ _ n0 n1 hq; have t1 := hfr21 _ _ n0 n1 t0; exact t1) hM hS (lv_sub hl [2, 3, 4, 1, 0] rfl)
      · have hlt : j < (n * 8 + 5) / 6 := by have z := h12; rw [nI_leI (by omega) (by omega)] at z; omega
        refine lv_aload_n hx hb d_Wrapping_wrapInto_18 rfl (lv_at hl 2 rfl) ?_
        refine va_ldcS hx hb hown (hZ.2.2.1 6 (by decide)) d_Wrapping_wrapInto_19 ?_
        refine lv_aload_n hx hb d_Wrapping_wrapInto_21 rfl (lv_at hl 1 rfl) ?_
        refine lv_bipush (v := 6) hx hb d_Wrapping_wrapInto_22 (by decide) ?_
        refine lv_iload hx hb d_Wrapping_wrapInto_24 (lv_at hl 4 rfl) ?_
        refine lv_imul hx hb d_Wrapping_wrapInto_26 ?_
        refine hm_top (z := nI (6 * j)) (pk_mul 6 j) ?_
        refine hm_calli hS hM hA (va_runS (As := [.ref t, .int (nI (6 * j))]) (rest := [.ref (sA 6), .ref t2]) X (c_sixBits l D k fL t a n x ch j ht ha hn hx9 (by omega) H.size) (hm_cwS hts me_Wrapping_sixBits wl_Wrapping_24 rfl rfl ⟨Nat.le_of_ble_eq_true rfl, Nat.le_of_ble_eq_true rfl⟩) (hm_preS hM hK) rfl rfl hl.1 rfl (lv_room (Nat.le_of_ble_eq_true rfl)) d_Wrapping_wrapInto_27 ⟨Nat.le_of_ble_eq_true rfl, Nat.le_of_ble_eq_true rfl⟩) (fun r15 f13 H locs p14 hM hS => ?_)
        obtain ⟨rfl, rfl⟩ := p14
        refine hm_calli hS hM hA (va_runV (As := [.int (nI (z_six n ch j))]) (rest := [.ref t2]) X (j_charAt l D k sA sV fL 6 (z_six n ch j)  (by decide) (z_six_in n ch j) H.size) (hm_cwV hts me_JString_charAt wl_Wrapping_28 rfl rfl ⟨Nat.le_of_ble_eq_true rfl, Nat.le_of_ble_eq_true rfl⟩) (hm_preVT hZ hS hA hM hK (i := 6) (by decide)) rfl rfl hl.1 rfl (lv_room (Nat.le_of_ble_eq_true rfl)) d_Wrapping_wrapInto_30 ⟨Nat.le_of_ble_eq_true rfl, Nat.le_of_ble_eq_true rfl⟩) (fun r18 f16 H locs p17 hM hS => ?_)
        obtain ⟨rfl, rfl⟩ := p17
        refine hm_calli hS hM hA (va_runV (As := [.int (nI (st_chr 6 (z_six n ch j)))]) (rest := []) X (c_Text_add l D k fL t2 a2 j y1 (nI (st_chr 6 (z_six n ch j))) ht2 ha2 (by omega) (z_chr (by decide) (z_six_in n ch j)) H.size) (hm_cwV hts me_Text_add wl_Wrapping_34 rfl rfl ⟨Nat.le_of_ble_eq_true rfl, Nat.le_of_ble_eq_true rfl⟩) (hm_preV hM hK ht2 rfl) rfl rfl hl.1 rfl (lv_room (Nat.le_of_ble_eq_true rfl)) d_Wrapping_wrapInto_33 ⟨Nat.le_of_ble_eq_true rfl, Nat.le_of_ble_eq_true rfl⟩) (fun r21 f19 H locs p20 hM hS => ?_)
        obtain ⟨rfl, g22, g23, hfr24⟩ := p20
        refine lv_pop hx hb d_Wrapping_wrapInto_36 rfl ?_
        refine lv_iinc (lv' := [(4, .int (nI (j + 1))), (0, .ref h), (1, .ref t), (2, .ref t2), (3, .int (nI ((n * 8 + 5) / 6)))]) hx hb d_Wrapping_wrapInto_37 hl (k := 4) rfl (hm_inc _) (by decide) rfl (fun ls hl => ?_)
        refine lv_goto (tgt := 12) hx hb d_Wrapping_wrapInto_40 (by decide) ?_
        have g25 : f19 h = some (.inr (6, [.int ky])) := hfr24 _ _ (hm_neI hh ht2 (by decide)) (hm_neA hh ha2) hh
        have g26 : f19 t = some (.inr (5, [.ref a, .int (nI n)])) := hfr24 _ _ htt (hm_neA ht ha2) ht
        have g27 : f19 a = some (.inl (k 2, 120, .inl x)) := hfr24 _ _ ((hm_neA ht2 ha).symm) haa ha
        exact ih (j + 1) (upd y1 j (nI (st_chr 6 (z_six n ch j)))) f19 H locs ls (by omega) (by omega) (fun i h9 => by by_cases e9 : i = j <;> simp [upd, e9]; exact hy1 i (by omega)) g25 g26 g27 g22 g23 (fun q x n0 n1 hq => by have t0 := hfr _ _ n0 n1 hq; have t1 := hfr24 _ _ n0 n1 t0; exact t1) hM hS (lv_sub hl [1, 2, 3, 4, 0] rfl)
  exact loop12 _ 0 y f4 H locs ls (Nat.lt_succ_self _) (Nat.zero_le _) (fun i h9 => absurd h9 (Nat.not_lt_zero _)) g8 g9 g10 g6 g11 (fun q x n0 n1 hq => by have t0 := hq; have t1 := hfr7 _ _ n0 t0; exact t1) hM hS (lv_sub hl [2, 3, 4, 1, 0] rfl)
end
section
theorem upd_uu (f : Nat → Int32) (k : Nat) (a b : Int32) : upd (upd f k a) k b = upd f k b := by
  funext j
  by_cases h : j = k <;> simp [upd, h]
section HML
variable {p : Program} {l : Launch} {e : Env} {R : Room} {s : State} {m : MethodId} {args : Array Value} {below : List Frame} {meth : Method} {c : Code} {H : Heap} {locs : List Loc} {cells slots : Nat} {Q : State → Prop} {pc : Nat} {ls : Array Slot} {rest : List Value}
theorem hm_topl {x z : Int64} (h : x = z) (k : W p l e R s m args below meth c H locs cells slots Q (F0 m pc ls (.long z :: rest))) : W p l e R s m args below meth c H locs cells slots Q (F0 m pc ls (.long x :: rest)) := h ▸ k
end HML
def m_sign (x : Int32) : Int32 := if ¬ 26 ≤ x then 65 + x else if ¬ 52 ≤ x then 97 + x - 26 else if ¬ 62 ≤ x then 48 + x - 52 else if x = 62 then 45 else 95
theorem m_sign_eq : ∀ v, v < 64 → m_sign (nI v) = nI (st_chr 6 v) := by decide +kernel
def m_sval (x : Int32) : Int32 := if ¬ x < 65 ∧ ¬ 90 < x then x - 65 else if ¬ x < 97 ∧ ¬ 122 < x then x - 97 + 26 else if ¬ x < 48 ∧ ¬ 57 < x then x - 48 + 52 else if x = 45 then 62 else if x = 95 then 63 else -1
def m_bit (n : Nat) (ch : Nat → Nat) (q : Nat) : Nat := if q < 8 * n then ch (q / 8) / 2 ^ (7 - q % 8) % 2 else 0
def m_six (n : Nat) (ch : Nat → Nat) (b : Nat) : Nat → Nat
  | 0 => 0
  | t + 1 => 2 * m_six n ch b t + m_bit n ch (b + t)
theorem m_bit_lt (n : Nat) (ch : Nat → Nat) (q : Nat) : m_bit n ch q < 2 := by
  unfold m_bit
  split
  · exact Nat.mod_lt _ (by decide)
  · decide
theorem m_six_lt (n : Nat) (ch : Nat → Nat) (b : Nat) : ∀ t, m_six n ch b t < 2 ^ t := by
  intro t
  induction t with
  | zero => simp [m_six]
  | succ t ih =>
    have h := m_bit_lt n ch (b + t)
    rw [m_six, Nat.pow_succ]
    omega
theorem m_bit_eq {c9 t : Nat} (hc : c9 < 256) (ht : t ≤ 7) : (nI c9 >>> ((7 - nI t) &&& 31)) &&& 1 = nI (c9 / 2 ^ (7 - t) % 2) := by
  have e2 : (7 : Int32) - nI t = nI (7 - t) := pk_sub (a := 7) ht
  have e4 : c9 / 2 ^ (7 - t) ≤ c9 := Nat.div_le_self _ _
  rw [e2, pk_shrN (by omega) _ (7 - t) (s_l _ (by omega)), pk_andN (by omega) 1 (by decide)]
theorem m_six_eq {n : Nat} {x : Nat → Int32} {ch : Nat → Nat} {i : Nat} (hx : ∀ j, j < n → x j = nI (ch j) ∧ ch j < 256) (hi : 6 * i < 8 * n) : m_six n ch (6 * i) 6 = z_six n ch i := by
  have hr : 6 * i % 8 = 0 ∨ 6 * i % 8 = 2 ∨ 6 * i % 8 = 4 ∨ 6 * i % 8 = 6 := by omega
  have h0 := (hx (6 * i / 8) (by omega)).2
  have h1 := z_c2_lt hx (6 * i / 8 + 1)
  have hb : ∀ t, t < 6 → m_bit n ch (6 * i + t) = if 6 * i % 8 + t < 8 then ch (6 * i / 8) / 2 ^ (7 - (6 * i % 8 + t)) % 2 else z_c2 n ch (6 * i / 8 + 1) / 2 ^ (15 - (6 * i % 8 + t)) % 2 := by
    intro t ht
    unfold m_bit z_c2
    by_cases hq : 6 * i % 8 + t < 8
    · rw [if_pos (by omega), if_pos hq, show (6 * i + t) / 8 = 6 * i / 8 by omega, show (6 * i + t) % 8 = 6 * i % 8 + t by omega]
    · rw [if_neg hq]
      by_cases hz : 6 * i / 8 + 1 < n
      · rw [if_pos (by omega), if_pos hz, show (6 * i + t) / 8 = 6 * i / 8 + 1 by omega, show 7 - (6 * i + t) % 8 = 15 - (6 * i % 8 + t) by omega]
      · rw [if_neg (by omega), if_neg hz]
        simp
  have e : m_six n ch (6 * i) 6 = 32 * m_bit n ch (6 * i + 0) + 16 * m_bit n ch (6 * i + 1) + 8 * m_bit n ch (6 * i + 2) + 4 * m_bit n ch (6 * i + 3) + 2 * m_bit n ch (6 * i + 4) + m_bit n ch (6 * i + 5) := by
    simp only [m_six]
    omega
  rw [e, hb 0 (by decide), hb 1 (by decide), hb 2 (by decide), hb 3 (by decide), hb 4 (by decide), hb 5 (by decide)]
  unfold z_six
  generalize ch (6 * i / 8) = a at *
  generalize z_c2 n ch (6 * i / 8 + 1) = b at *
  rcases hr with hr | hr | hr | hr <;> rw [hr] <;> simp <;> omega
theorem hm_inc6 (j : Nat) : nI (6 * j) + Int32.ofInt 6 = nI (6 * (j + 1)) := nI_add (6 * j) 6
theorem z_seal_upd {z : Int64} {g : Nat → Int32} {j : Nat} {x : Int32} : z_mix (z_seal z g j) x = z_seal z (upd g j x) (j + 1) := by
  show _ = z_mix (z_seal z (upd g j x) j) (upd g j x j)
  rw [z_seal_congr (y := upd g j x) (y' := g) (fun i hi => by simp [upd, show i ≠ j by omega])]
  simp [upd]
def m_ss (z : Int64) (t : Nat) : Int32 := ((z >>> ((6 * (9 - nI t) : Int32).toInt64 &&& 63)) &&& 63).toInt32
theorem m_k9 : ∀ j, j < 11 → ((9 - nI j : Int32) < 0 ↔ 9 < j) := by decide +kernel
theorem m_dec : ∀ j, j < 11 → (9 - nI j : Int32) + Int32.ofInt (-1) = 9 - nI (j + 1) := by decide +kernel
/-- the sweep's first j slots -/
def m_sw (g e : Nat → Int32) (t : Int32) (j : Nat) : Nat → Int32 := fun i => if i < j ∧ ¬ g i = 0 ∧ e i ≤ t then 0 else g i
def m_swc (g e : Nat → Int32) (t : Int32) : Nat → Nat
  | 0 => 0
  | j + 1 => m_swc g e t j + (if ¬ g j = 0 ∧ e j ≤ t then 1 else 0)
theorem m_sw_hit {g e : Nat → Int32} {t : Int32} {j : Nat} (h1 : ¬ g j = 0) (h2 : e j ≤ t) : upd (m_sw g e t j) j 0 = m_sw g e t (j + 1) := by
  funext i
  by_cases h : i = j
  · simp [upd, m_sw, h, h1, h2]
  · have h3 : i < j + 1 ↔ i < j := by omega
    simp [upd, m_sw, h, h3]
theorem m_sw_miss {g e : Nat → Int32} {t : Int32} {j : Nat} (h1 : g j = 0 ∨ ¬ e j ≤ t) : m_sw g e t j = m_sw g e t (j + 1) := by
  funext i
  by_cases h : i = j
  · rcases h1 with h1 | h1 <;> simp [m_sw, h, h1]
  · have h3 : i < j + 1 ↔ i < j := by omega
    simp [m_sw, h3]
theorem m_sw_at {g e : Nat → Int32} {t : Int32} {j : Nat} : m_sw g e t j j = g j := by simp [m_sw]
theorem m_sw_0 {g e : Nat → Int32} {t : Int32} : m_sw g e t 0 = g := by funext i; simp [m_sw]
def m_cnt (v : Nat → Int32) (c : Nat → Nat → Int32) (y : Int32) (a : Nat) : Nat → Nat
  | 0 => 0
  | t + 1 => m_cnt v c y a t + (if c 10 (a + t) = 0 ∨ (¬ y = 0 ∧ m_act v c (a + t) = 0) then 0 else 1)
def m_tok (v : Nat → Int32) (c : Nat → Nat → Int32) : Nat → Nat
  | 0 => 0
  | t + 1 => m_tok v c t + (if m_act v c (16 + t) = 0 then 0 else 1)
theorem m_act_01 (v : Nat → Int32) (c : Nat → Nat → Int32) (j : Nat) : m_act v c j = 0 ∨ m_act v c j = 1 := by
  unfold m_act
  split
  · exact Or.inl rfl
  · exact Or.inr rfl
theorem m_act_b {v : Nat → Int32} {c : Nat → Nat → Int32} {j : Nat} (h : ¬ m_act v c j = 0) : m_act v c j = 1 := (m_act_01 v c j).resolve_left h
end
