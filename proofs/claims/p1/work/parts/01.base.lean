/-! The world as a finite map from addresses to cells: every method gets the whole map and gives a whole map back. Rows over the kit's, proved once. -/
abbrev hm : Type := Nat → Option va_E
def hm_up (f : hm) (a : Nat) (e : va_E) : hm := fun q => if q = a then some e else f q
theorem hm_up_s (f : hm) (a : Nat) (e : va_E) : hm_up f a e a = some e := by simp [hm_up]
theorem hm_up_n {f : hm} {a b : Nat} {e : va_E} (h : b ≠ a) : hm_up f a e b = f b := by simp [hm_up, h]
def hm_ok (ws : va_W) (f : hm) : Prop := ∀ (a : Nat) (e : va_E), f a = some e ↔ ∃ k : Nat, ws[k]? = some (a, e)
def hm_W (D : va_G) (cl : List vw_C) (A : Nat → Prop) (f : hm) (H : Heap) : Prop := ∃ ws : va_W, va_P D cl ws H ∧ va_D A ws ∧ hm_ok ws f
def hm_A (f : hm) (sz : Nat) : Nat → Prop := fun q => f q ≠ none ∨ sz ≤ q
/-- the classes of whose arrays the class makes some -/
def hm_ao : List String := ["GrantServer$Grant", "GrantServer$Client"]
/-- what the tables say: classes, array classes, arrays of references -/
def hm_K (D : va_G) (cl : List vw_C) (tys : List (ClassId × FieldType)) (U : State) : Prop := va_K D cl tys U ∧ ∀ C ∈ hm_ao, va_AO C U
theorem hm_K.moved {D : va_G} {cl : List vw_C} {tys : List (ClassId × FieldType)} {u U : State} (hvm : u.vm.Alike U.vm) (h : hm_K D cl tys u) : hm_K D cl tys U := ⟨va_K.moved hvm h.1, fun C hC => va_AO.moved hvm (h.2 C hC)⟩
def hm_B (D : va_G) (cl : List vw_C) (tys : List (ClassId × FieldType)) (f : hm) (sz : Nat) (U : State) : Prop := U.heap.size = sz ∧ hm_W D cl (fun _ => True) f U.heap ∧ hm_K D cl tys U
def hm_R (D : va_G) (cl : List vw_C) (tys : List (ClassId × FieldType)) (f : hm) (sz : Nat) (f1 : hm) (t : State) : Prop := hm_W D cl (hm_A f sz) f1 t.heap ∧ hm_K D cl tys t
theorem hm_new1 {f f1 : hm} {a : Nat} {e : va_E} (h : f1 = hm_up f a e) : f1 a = some e := by rw [h, hm_up_s]
theorem hm_keep {f f1 : hm} {a b : Nat} {e : va_E} {x : Option va_E} (h : f1 = hm_up f a e) (hn : b ≠ a) (hb : f b = x) : f1 b = x := by rw [h, hm_up_n hn, hb]
theorem hm_ne {f : hm} {a b : Nat} {x y : va_E} (ha : f a = some x) (hb : f b = some y) (h : x ≠ y) : a ≠ b := fun q => h (by rw [q, hb] at ha; exact (Option.some.inj ha).symm)
theorem hm_ne0 {f : hm} {a b : Nat} {x : va_E} (ha : f a = some x) (hb : f b = none) : a ≠ b := fun q => by rw [q, hb] at ha; cases ha
theorem hm_ok.set {ws : va_W} {f : hm} {A : Nat → Prop} {k a : Nat} {e0 : va_E} (e : va_E) (hD : va_D A ws) (h : hm_ok ws f) (hk : ws[k]? = some (a, e0)) : hm_ok (ws.set k (a, e)) (hm_up f a e) := by
  have hl := (List.getElem?_eq_some_iff.mp hk).1
  intro b e'
  by_cases hb : b = a
  · rw [hb, hm_up_s]
    constructor
    · intro q
      cases q
      exact ⟨k, List.getElem?_set_self hl⟩
    · rintro ⟨j, hj⟩
      by_cases hjk : j = k
      · rw [hjk, List.getElem?_set_self hl] at hj
        cases hj
        rfl
      · rw [List.getElem?_set_ne (Ne.symm hjk)] at hj
        exact absurd (hD.1 j k _ _ hj hk rfl) hjk
  · rw [hm_up_n hb, h b e']
    constructor
    · rintro ⟨j, hj⟩
      refine ⟨j, ?_⟩
      rw [List.getElem?_set_ne]
      · exact hj
      · intro q
        rw [q, hj] at hk
        cases hk
        exact hb rfl
    · rintro ⟨j, hj⟩
      by_cases hjk : j = k
      · rw [hjk, List.getElem?_set_self hl] at hj
        cases hj
        exact absurd rfl hb
      · rw [List.getElem?_set_ne (Ne.symm hjk)] at hj
        exact ⟨j, hj⟩
theorem hm_ok.push {ws : va_W} {f : hm} {A : Nat → Prop} {q : Nat} {e : va_E} (hD : va_D A (ws ++ [(q, e)])) (h : hm_ok ws f) : hm_ok (ws ++ [(q, e)]) (hm_up f q e) ∧ f q = none := by
  have h2 : (ws ++ [(q, e)])[ws.length]? = some (q, e) := by rw [List.getElem?_append_right (Nat.le_refl _), Nat.sub_self]; rfl
  have up : ∀ (k : Nat) (x : Nat × va_E), ws[k]? = some x → (ws ++ [(q, e)])[k]? = some x := fun k x hx => by
    rw [List.getElem?_append_left (List.getElem?_eq_some_iff.mp hx).1]; exact hx
  have hn : f q = none := by
    cases hf : f q with
    | none => rfl
    | some e1 =>
      obtain ⟨k, hk⟩ := (h q e1).mp hf
      have h3 := hD.1 _ _ _ _ (up k _ hk) h2 rfl
      have hl := (List.getElem?_eq_some_iff.mp hk).1
      omega
  refine ⟨fun b e' => ?_, hn⟩
  by_cases hb : b = q
  · rw [hb, hm_up_s]
    constructor
    · intro z
      cases z
      exact ⟨_, h2⟩
    · rintro ⟨j, hj⟩
      have hj2 := hD.1 _ _ _ _ hj h2 rfl
      rw [hj2, h2] at hj
      cases hj
      rfl
  · rw [hm_up_n hb, h b e']
    constructor
    · rintro ⟨j, hj⟩
      exact ⟨j, up j _ hj⟩
    · rintro ⟨j, hj⟩
      by_cases hl : j < ws.length
      · rw [List.getElem?_append_left hl] at hj
        exact ⟨j, hj⟩
      · rw [List.getElem?_append_right (by omega)] at hj
        have hz : j - ws.length < 1 := (List.getElem?_eq_some_iff.mp hj).1
        rw [show j - ws.length = 0 by omega] at hj
        cases hj
        exact absurd rfl hb
theorem hm_W.weaken {D : va_G} {cl : List vw_C} {A B : Nat → Prop} {f : hm} {H : Heap} (h : hm_W D cl A f H) (hab : ∀ q, A q → B q) : hm_W D cl B f H := by
  obtain ⟨ws, a, b, c⟩ := h
  exact ⟨ws, a, b.weaken (fun _ q _ h => hab q.1 h), c⟩
theorem hm_W.self {D : va_G} {cl : List vw_C} {A : Nat → Prop} {f : hm} {H : Heap} {sz : Nat} (h : hm_W D cl A f H) : hm_W D cl (hm_A f sz) f H := by
  obtain ⟨ws, a, b, c⟩ := h
  exact ⟨ws, a, ⟨b.1, fun k q hk => Or.inl (by rw [(c q.1 q.2).mpr ⟨k, hk⟩]; exact fun z => by cases z)⟩, c⟩
theorem hm_W.inA {D : va_G} {cl : List vw_C} {A : Nat → Prop} {f : hm} {H : Heap} (h : hm_W D cl A f H) {q : Nat} (hq : f q ≠ none) : A q := by
  obtain ⟨ws, hP, hD, hc⟩ := h
  cases hf : f q with
  | none => exact absurd hf hq
  | some e =>
    obtain ⟨k, hk⟩ := (hc q e).mp hf
    exact hD.2 k _ hk
theorem hm_W.free {D : va_G} {cl : List vw_C} {A : Nat → Prop} {f : hm} {H H0 : Heap} {locs : List Loc} (h : hm_W D cl A f H) (hS : va_S A H0 H locs) (hA : ∀ q, H0.size ≤ q → A q) : ∀ q, hm_A f H.size q → A q := by
  intro q hq
  rcases hq with hq | hq
  · exact h.inA hq
  · exact hA q (Nat.le_trans hS.1 hq)
theorem hm_W.nil {D : va_G} {cl : List vw_C} {A : Nat → Prop} {H : Heap} : hm_W D cl A (fun _ => none) H := ⟨[], fun k q h => by simp at h, ⟨fun i j x y h => by simp at h, fun k q h => by simp at h⟩, fun a e => ⟨fun h => by simp at h, fun ⟨k, hk⟩ => by simp at hk⟩⟩
theorem hm_ra {s : State} {ty : FieldType} {c1 c2 : ClassId} (h1 : va_RA s c1 ty) (h2 : va_RA s c2 ty) : c1 = c2 := by
  cases ty with
  | object C =>
    obtain ⟨_, _, _, _, _, h1⟩ := h1
    obtain ⟨_, _, _, _, _, h2⟩ := h2
    exact Option.some.inj (h1.symm.trans h2)
  | _ =>
    have a : s.vm.findClass _ = some c1 := h1
    have b : s.vm.findClass _ = some c2 := h2
    exact Option.some.inj (a.symm.trans b)
/-- a class of the tables: its place in cl, its words, its fields' types, their names apart -/
def hm_cl (cl : List vw_C) (Ts : List Cond) (ci : Nat) (C : String) (T : u_T) (N : Nat) (ty : Nat → FieldType) : Prop :=
  cl[ci]? = some (C, T, N) ∧ (∀ w ∈ u_ws C T N, w ∈ Ts) ∧ (∀ k, k < N → parseFieldDescriptor (T k).2.2.1 = some (ty k)) ∧ (∀ a, a < N → ∀ b, b < N → a ≠ b → (T a).2.1 ≠ (T b).2.1)
/-- a field as a class's code names it -/
def hm_fl (cl : List vw_C) (Ts : List Cond) (own : String) (index ci k : Nat) (fin : Bool) (tk : FieldType) : Prop :=
  ∃ (C : String) (T : u_T) (N : Nat) (ty : Nat → FieldType), hm_cl cl Ts ci C T N ty ∧ k < N ∧ Cond.fieldLink own index (T k).1 (T k).2.1 (T k).2.2.1 ∈ Ts ∧ (T k).2.2.2 = fin ∧ ty k = tk
/-- a final field as its own class's code names it -/
def hm_flF (cl : List vw_C) (Ts : List Cond) (own : String) (index ci k : Nat) (tk : FieldType) : Prop :=
  ∃ (C : String) (T : u_T) (N : Nat) (ty : Nat → FieldType), hm_cl cl Ts ci C T N ty ∧ k < N ∧ Cond.fieldLink own index (T k).1 (T k).2.1 (T k).2.2.1 ∈ Ts ∧ (T k).2.2.2 = true ∧ ty k = tk ∧ (T k).1 = own
/-- a class as a class's code makes it -/
def hm_nw (cl : List vw_C) (Ts : List Cond) (own : String) (index ci N : Nat) (fs : List Value) : Prop :=
  ∃ (C : String) (T : u_T) (ty : Nat → FieldType), hm_cl cl Ts ci C T N ty ∧ Cond.classLink own index C ∈ Ts ∧ Cond.instantiable C N ∈ Ts ∧ Cond.initialized C ∈ Ts ∧ ∀ j, j < N → defaultValue (ty j) = vp_V fs j
section HMR
variable {p : Program} {l : Launch} {e : Env} {R : Room} {s : State} {m : MethodId} {args : Array Value} {below : List Frame} {meth : Method} {c : Code} {H : Heap} {locs : List Loc} {cells slots : Nat} {Q : State → Prop}
variable {cc : ByteArray} {pc : Nat} {ls : Array Slot} {rest : List Value} {D : va_G} {cl : List vw_C} {A : Nat → Prop} {a : Nat} {tys : List (ClassId × FieldType)} {H0 : Heap} {f : hm} {nL : Nat} {Ts : List Cond} {own : String}
theorem hm_get (X : CallFix p m c cc nL s args Ts own) (hK : hm_K D cl tys s) (hM : hm_W D cl A f H) {fs : List Value} {ci k index : Nat} {fin : Bool} {tk : FieldType} (he : f a = some (.inr (ci, fs))) (hF : hm_fl cl Ts own index ci k fin tk) {v : Value} (hv : fs[k]? = some v) (hdg : decode cc pc = .ok (.getfield index, 3))
    (kk : W p l e R s m args below meth c H locs cells slots Q (F0 m (pc + 3) ls (v :: rest))) : W p l e R s m args below meth c H locs cells slots Q (F0 m pc ls (.ref a :: rest)) := by
  obtain ⟨hx, hb, -, hown, hts⟩ := X
  obtain ⟨hK, hAO⟩ := hK
  obtain ⟨ws, hP, hD, hok⟩ := hM
  obtain ⟨q0, hq⟩ := (hok _ _).mp he
  obtain ⟨C, T, N, ty, ⟨hc, hin, -, -⟩, hk, hlink, -, -⟩ := hF
  exact va_get hx hb hts hin hown hK hP q0 hq hc k hk (hts _ hlink) (fun x h => h) hv hdg kk
theorem hm_put (X : CallFix p m c cc nL s args Ts own) (hK : hm_K D cl tys s) (hM : hm_W D cl A f H) (hS : va_S A H0 H locs) {fs fs' : List Value} {ci k index : Nat} {tk : FieldType} (he : f a = some (.inr (ci, fs))) (hF : hm_fl cl Ts own index ci k false tk) {v : Value} (hn : narrow tk v = v) (hfit : fits tk v = true) (hl : k < fs.length) (hfs : fs.set k v = fs') (hdg : decode cc pc = .ok (.putfield index, 3))
    (kk : ∀ (f1 : hm) (H1 : Heap) (locs1 : List Loc), f1 = hm_up f a (.inr (ci, fs')) → hm_W D cl A f1 H1 → va_S A H0 H1 locs1 → W p l e R s m args below meth c H1 locs1 cells slots Q (F0 m (pc + 3) ls rest)) : W p l e R s m args below meth c H locs cells slots Q (F0 m pc ls (v :: .ref a :: rest)) := by
  obtain ⟨hx, hb, -, hown, hts⟩ := X
  obtain ⟨hK, hAO⟩ := hK
  obtain ⟨ws, hP, hD, hok⟩ := hM
  obtain ⟨q0, hq⟩ := (hok _ _).mp he
  obtain ⟨C, T, N, ty, ⟨hc, hin, hty, hnm⟩, hk, hlink, hfin, htk⟩ := hF
  subst hfs
  exact va_put hx hb hts hin ty hty hnm hown hK hP hD hS q0 hq hc k hk (hts _ hlink) (fun x h => h) hfin (ty := tk) (by rw [← htk]; exact hty k hk) hn hfit hl hdg (fun H1 locs1 hP1 hD1 hS1 => kk _ H1 locs1 rfl ⟨_, hP1, hD1, hok.set _ hD hq⟩ hS1)
theorem hm_putF (X : CallFix p m c cc nL s args Ts own) (hK : hm_K D cl tys s) (hM : hm_W D cl A f H) (hS : va_S A H0 H locs) {fs fs' : List Value} {ci k index : Nat} {tk : FieldType} (he : f a = some (.inr (ci, fs))) (hF : hm_flF cl Ts own index ci k tk) (hin2 : meth.name = "<init>") {v : Value} (hn : narrow tk v = v) (hfit : fits tk v = true) (hl : k < fs.length) (hfs : fs.set k v = fs') (hdg : decode cc pc = .ok (.putfield index, 3))
    (kk : ∀ (f1 : hm) (H1 : Heap) (locs1 : List Loc), f1 = hm_up f a (.inr (ci, fs')) → hm_W D cl A f1 H1 → va_S A H0 H1 locs1 → W p l e R s m args below meth c H1 locs1 cells slots Q (F0 m (pc + 3) ls rest)) : W p l e R s m args below meth c H locs cells slots Q (F0 m pc ls (v :: .ref a :: rest)) := by
  obtain ⟨hx, hb, -, hown, hts⟩ := X
  obtain ⟨hK, hAO⟩ := hK
  obtain ⟨ws, hP, hD, hok⟩ := hM
  obtain ⟨q0, hq⟩ := (hok _ _).mp he
  obtain ⟨C, T, N, ty, ⟨hc, hin, hty, hnm⟩, hk, hlink, hfin, htk, hdecl⟩ := hF
  subst hfs
  exact va_putF hx hb hts hin ty hty hnm hown hK hP hD hS q0 hq hc k hk (hts _ hlink) (fun x h => h) hfin hin2 hdecl (ty := tk) (by rw [← htk]; exact hty k hk) hn hfit hl hdg (fun H1 locs1 hP1 hD1 hS1 => kk _ H1 locs1 rfl ⟨_, hP1, hD1, hok.set _ hD hq⟩ hS1)
theorem hm_new (X : CallFix p m c cc nL s args Ts own) (hK : hm_K D cl tys s) (hM : hm_W D cl A f H) (hS : va_S A H0 H locs) (hA : ∀ q, H0.size ≤ q → A q) {fs : List Value} {ci N index : Nat} (hN : hm_nw cl Ts own index ci N fs) (hcells : cells + 1 ≤ R.cells) (hslots : slots + N ≤ R.slots) (hdg : decode cc pc = .ok (.new index, 3))
    (kk : ∀ (q : Nat) (f1 : hm) (H1 : Heap), f1 = hm_up f q (.inr (ci, fs)) → f q = none → hm_W D cl A f1 H1 → va_S A H0 H1 locs → W p l e R s m args below meth c H1 locs (cells + 1) (slots + N) Q (F0 m (pc + 3) ls (.ref q :: rest))) : W p l e R s m args below meth c H locs cells slots Q (F0 m pc ls rest) := by
  obtain ⟨hx, hb, -, hown, hts⟩ := X
  obtain ⟨hK, hAO⟩ := hK
  obtain ⟨ws, hP, hD, hok⟩ := hM
  obtain ⟨C, T, ty, ⟨hc, hin, hty, -⟩, h1, h2, h3, hfs⟩ := hN
  exact va_new hx hb hts hin ty hty hown (hts _ h1) (hts _ h2) (hts _ h3) hK hP hD hS hA hc hfs hcells hslots hdg (fun q H1 hP1 hD1 hS1 => kk q _ H1 rfl (hok.push hD1).2 ⟨_, hP1, hD1, (hok.push hD1).1⟩ hS1)
theorem hm_newa (X : CallFix p m c cc nL s args Ts own) (hK : hm_K D cl tys s) (hM : hm_W D cl A f H) (hS : va_S A H0 H locs) (hA : ∀ q, H0.size ≤ q → A q) {atype : ArrayType} {ty : FieldType} (hty : newarray.typeOf atype = ty) (harr : Cond.arrayClass ty ∈ Ts) (t0 : Nat) {cA : ClassId} (ht : tys[t0]? = some (cA, ty)) {n : Int32} {N' : Nat} {a0 : vp_A} (ha : ∀ cA : ClassId, vp_cell cA a0 = arrV cA N' (fun _ => defaultValue ty)) (hn : ¬ n < 0) (hN : n.toNatClampNeg = N') (hbytes : N' * componentBytes ty ≤ 536870912) (hcells : cells + 1 ≤ R.cells) (hslots : slots + N' ≤ R.slots) (hdg : decode cc pc = .ok (.newarray atype, 2))
    (kk : ∀ (q : Nat) (f1 : hm) (H1 : Heap), f1 = hm_up f q (.inl (cA, a0)) → f q = none → hm_W D cl A f1 H1 → va_S A H0 H1 locs → W p l e R s m args below meth c H1 locs (cells + 1) (slots + N') Q (F0 m (pc + 2) ls (.ref q :: rest))) : W p l e R s m args below meth c H locs cells slots Q (F0 m pc ls (.int n :: rest)) := by
  obtain ⟨hx, hb, -, hown, hts⟩ := X
  obtain ⟨hK, hAO⟩ := hK
  obtain ⟨ws, hP, hD, hok⟩ := hM
  refine va_newa hx hb (by rw [hty]; exact hts _ harr) hty hK hP hD hS hA ha hn hN hbytes hcells hslots hdg (fun q cA' H1 hK1 hP1 hD1 hS1 => ?_)
  have hc : cA' = cA := hm_ra (hK1.2 tys.length (cA', ty) (by rw [List.getElem?_append_right (Nat.le_refl _), Nat.sub_self]; rfl)).2 (hK.2 t0 _ ht).2
  subst hc
  exact kk q _ H1 rfl (hok.push hD1).2 ⟨_, hP1, hD1, (hok.push hD1).1⟩ hS1
theorem hm_newq (X : CallFix p m c cc nL s args Ts own) (hK : hm_K D cl tys s) (hM : hm_W D cl A f H) (hS : va_S A H0 H locs) (hA : ∀ q, H0.size ≤ q → A q) {C : String} {index : Nat} (hlk : Cond.classLink own index C ∈ Ts) (hov : C ∈ hm_ao) (t0 : Nat) {cA : ClassId} (ht : tys[t0]? = some (cA, .object C)) {n : Int32} {N' : Nat} (hn : ¬ n < 0) (hN : n.toNatClampNeg = N') (hbytes : N' * 4 ≤ 536870912) (hcells : cells + 1 ≤ R.cells) (hslots : slots + N' ≤ R.slots) (hdg : decode cc pc = .ok (.anewarray index, 3))
    (kk : ∀ (q : Nat) (f1 : hm) (H1 : Heap), f1 = hm_up f q (.inl (cA, N', .inr (.inr (.inr (.inr (fun _ => none)))))) → f q = none → hm_W D cl A f1 H1 → va_S A H0 H1 locs → W p l e R s m args below meth c H1 locs (cells + 1) (slots + N') Q (F0 m (pc + 3) ls (.ref q :: rest))) : W p l e R s m args below meth c H locs cells slots Q (F0 m pc ls (.int n :: rest)) := by
  obtain ⟨hx, hb, -, hown, hts⟩ := X
  obtain ⟨hK, hAO⟩ := hK
  obtain ⟨ws, hP, hD, hok⟩ := hM
  refine va_newq hx hb hown (hts _ hlk) (hAO C hov) hK hP hD hS hA hn hN hbytes hcells hslots hdg (fun q cA' H1 hK1 hP1 hD1 hS1 => ?_)
  have hc : cA' = cA := hm_ra (hK1.2 tys.length (cA', .object C) (by rw [List.getElem?_append_right (Nat.le_refl _), Nat.sub_self]; rfl)).2 (hK.2 t0 _ ht).2
  subst hc
  exact kk q _ H1 rfl (hok.push hD1).2 ⟨_, hP1, hD1, (hok.push hD1).1⟩ hS1
theorem hm_in {i : Int32} {j n : Nat} (hi : i = nI j) (hj : j < n) (hn : n < 2 ^ 31) : vp_in i n ∧ i.toNatClampNeg = j := by
  subst hi
  exact ⟨vp_in_nI hj hn, nI_clamp (by omega)⟩
theorem hm_iald (X : CallFix p m c cc nL s args Ts own) (hK : hm_K D cl tys s) (hM : hm_W D cl A f H) {cA : ClassId} {n : Nat} {g : Nat → Int32} (he : f a = some (.inl (cA, n, .inl g))) (t0 : Nat) (ht : tys[t0]? = some (cA, .int)) {i : Int32} (j : Nat) (hi : i = nI j) (hj : j < n) (hn : n < 2 ^ 31) (hdg : decode cc pc = .ok (.iaload, 1))
    (kk : W p l e R s m args below meth c H locs cells slots Q (F0 m (pc + 1) ls (.int (g j) :: rest))) : W p l e R s m args below meth c H locs cells slots Q (F0 m pc ls (.int i :: .ref a :: rest)) := by
  obtain ⟨hx, hb, -, hown, hts⟩ := X
  obtain ⟨hK, hAO⟩ := hK
  obtain ⟨ws, hP, hD, hok⟩ := hM
  obtain ⟨q0, hq⟩ := (hok _ _).mp he
  obtain ⟨h1, h2⟩ := hm_in hi hj hn
  exact va_iald hx hb hK hP q0 t0 hq ht h1 hdg (by rw [h2]; exact kk)
theorem hm_zald (X : CallFix p m c cc nL s args Ts own) (hK : hm_K D cl tys s) (hM : hm_W D cl A f H) {cA : ClassId} {n : Nat} {g : Nat → Int32} (he : f a = some (.inl (cA, n, .inl g))) (t0 : Nat) (ht : tys[t0]? = some (cA, .boolean)) {i : Int32} (j : Nat) (hi : i = nI j) (hj : j < n) (hn : n < 2 ^ 31) (hdg : decode cc pc = .ok (.baload, 1))
    (kk : W p l e R s m args below meth c H locs cells slots Q (F0 m (pc + 1) ls (.int (g j) :: rest))) : W p l e R s m args below meth c H locs cells slots Q (F0 m pc ls (.int i :: .ref a :: rest)) := by
  obtain ⟨hx, hb, -, hown, hts⟩ := X
  obtain ⟨hK, hAO⟩ := hK
  obtain ⟨ws, hP, hD, hok⟩ := hM
  obtain ⟨q0, hq⟩ := (hok _ _).mp he
  obtain ⟨h1, h2⟩ := hm_in hi hj hn
  exact va_zald hx hb hK hP q0 t0 hq ht h1 hdg (by rw [h2]; exact kk)
theorem hm_cald (X : CallFix p m c cc nL s args Ts own) (hK : hm_K D cl tys s) (hM : hm_W D cl A f H) {cA : ClassId} {n : Nat} {g : Nat → Int32} (he : f a = some (.inl (cA, n, .inl g))) (t0 : Nat) (ht : tys[t0]? = some (cA, .char)) {i : Int32} (j : Nat) (hi : i = nI j) (hj : j < n) (hn : n < 2 ^ 31) (hdg : decode cc pc = .ok (.caload, 1))
    (kk : W p l e R s m args below meth c H locs cells slots Q (F0 m (pc + 1) ls (.int (g j) :: rest))) : W p l e R s m args below meth c H locs cells slots Q (F0 m pc ls (.int i :: .ref a :: rest)) := by
  obtain ⟨hx, hb, -, hown, hts⟩ := X
  obtain ⟨hK, hAO⟩ := hK
  obtain ⟨ws, hP, hD, hok⟩ := hM
  obtain ⟨q0, hq⟩ := (hok _ _).mp he
  obtain ⟨h1, h2⟩ := hm_in hi hj hn
  exact va_cald hx hb hK hP q0 t0 hq ht h1 hdg (by rw [h2]; exact kk)
theorem hm_aald (X : CallFix p m c cc nL s args Ts own) (hK : hm_K D cl tys s) (hM : hm_W D cl A f H) {cA : ClassId} {n : Nat} {C : String} {g : Nat → Option Nat} (he : f a = some (.inl (cA, n, .inr (.inr (.inr (.inr g)))))) (t0 : Nat) (ht : tys[t0]? = some (cA, .object C)) {i : Int32} (j : Nat) (hi : i = nI j) (hj : j < n) (hn : n < 2 ^ 31) (hdg : decode cc pc = .ok (.aaload, 1))
    (kk : W p l e R s m args below meth c H locs cells slots Q (F0 m (pc + 1) ls (va_rf (g j) :: rest))) : W p l e R s m args below meth c H locs cells slots Q (F0 m pc ls (.int i :: .ref a :: rest)) := by
  obtain ⟨hx, hb, -, hown, hts⟩ := X
  obtain ⟨hK, hAO⟩ := hK
  obtain ⟨ws, hP, hD, hok⟩ := hM
  obtain ⟨q0, hq⟩ := (hok _ _).mp he
  obtain ⟨h1, h2⟩ := hm_in hi hj hn
  exact va_aldq hx hb hK hP q0 t0 hq ht h1 hdg (by rw [h2]; exact kk)
theorem hm_alen (X : CallFix p m c cc nL s args Ts own) (hK : hm_K D cl tys s) (hM : hm_W D cl A f H) {cA : ClassId} {x : vp_A} (he : f a = some (.inl (cA, x))) (t0 : Nat) {ty : FieldType} (ht : tys[t0]? = some (cA, ty)) {v : Int32} (hv : nI x.1 = v) (hdg : decode cc pc = .ok (.arraylength, 1))
    (kk : W p l e R s m args below meth c H locs cells slots Q (F0 m (pc + 1) ls (.int v :: rest))) : W p l e R s m args below meth c H locs cells slots Q (F0 m pc ls (.ref a :: rest)) := by
  obtain ⟨hx, hb, -, hown, hts⟩ := X
  obtain ⟨hK, hAO⟩ := hK
  obtain ⟨ws, hP, hD, hok⟩ := hM
  obtain ⟨q0, hq⟩ := (hok _ _).mp he
  exact va_alen hx hb hK hP q0 t0 hq ht hv hdg kk
theorem hm_iast (X : CallFix p m c cc nL s args Ts own) (hK : hm_K D cl tys s) (hM : hm_W D cl A f H) (hS : va_S A H0 H locs) {cA : ClassId} {n : Nat} {g : Nat → Int32} (he : f a = some (.inl (cA, n, .inl g))) (t0 : Nat) (ht : tys[t0]? = some (cA, .int)) {i x : Int32} (j : Nat) (hi : i = nI j) (hj : j < n) (hn : n < 2 ^ 31) (hdg : decode cc pc = .ok (.iastore, 1))
    (kk : ∀ (f1 : hm) (H1 : Heap) (locs1 : List Loc), f1 = hm_up f a (.inl (cA, n, .inl (upd g j x))) → hm_W D cl A f1 H1 → va_S A H0 H1 locs1 → W p l e R s m args below meth c H1 locs1 cells slots Q (F0 m (pc + 1) ls rest)) : W p l e R s m args below meth c H locs cells slots Q (F0 m pc ls (.int x :: .int i :: .ref a :: rest)) := by
  obtain ⟨hx, hb, -, hown, hts⟩ := X
  obtain ⟨hK, hAO⟩ := hK
  obtain ⟨ws, hP, hD, hok⟩ := hM
  obtain ⟨q0, hq⟩ := (hok _ _).mp he
  obtain ⟨h1, h2⟩ := hm_in hi hj hn
  refine va_iast hx hb hK hP hD hS q0 t0 hq ht h1 hdg (fun H1 locs1 hP1 hD1 hS1 => ?_)
  rw [h2] at hP1 hD1
  exact kk _ H1 locs1 rfl ⟨_, hP1, hD1, hok.set _ hD hq⟩ hS1
theorem hm_zast (X : CallFix p m c cc nL s args Ts own) (hK : hm_K D cl tys s) (hM : hm_W D cl A f H) (hS : va_S A H0 H locs) {cA : ClassId} {n : Nat} {g : Nat → Int32} (he : f a = some (.inl (cA, n, .inl g))) (t0 : Nat) (ht : tys[t0]? = some (cA, .boolean)) {i x : Int32} (j : Nat) (hi : i = nI j) (hj : j < n) (hn : n < 2 ^ 31) {y : Int32} (hy : vp_nar .boolean x = y) (hdg : decode cc pc = .ok (.bastore, 1))
    (kk : ∀ (f1 : hm) (H1 : Heap) (locs1 : List Loc), f1 = hm_up f a (.inl (cA, n, .inl (upd g j y))) → hm_W D cl A f1 H1 → va_S A H0 H1 locs1 → W p l e R s m args below meth c H1 locs1 cells slots Q (F0 m (pc + 1) ls rest)) : W p l e R s m args below meth c H locs cells slots Q (F0 m pc ls (.int x :: .int i :: .ref a :: rest)) := by
  obtain ⟨hx, hb, -, hown, hts⟩ := X
  obtain ⟨hK, hAO⟩ := hK
  obtain ⟨ws, hP, hD, hok⟩ := hM
  obtain ⟨q0, hq⟩ := (hok _ _).mp he
  obtain ⟨h1, h2⟩ := hm_in hi hj hn
  refine va_zast hx hb hK hP hD hS q0 t0 hq ht h1 hdg (fun H1 locs1 hP1 hD1 hS1 => ?_)
  rw [h2, hy] at hP1 hD1
  exact kk _ H1 locs1 rfl ⟨_, hP1, hD1, hok.set _ hD hq⟩ hS1
theorem hm_cast (X : CallFix p m c cc nL s args Ts own) (hK : hm_K D cl tys s) (hM : hm_W D cl A f H) (hS : va_S A H0 H locs) {cA : ClassId} {n : Nat} {g : Nat → Int32} (he : f a = some (.inl (cA, n, .inl g))) (t0 : Nat) (ht : tys[t0]? = some (cA, .char)) {i x : Int32} (j : Nat) (hi : i = nI j) (hj : j < n) (hn : n < 2 ^ 31) {y : Int32} (hy : vp_nar .char x = y) (hdg : decode cc pc = .ok (.castore, 1))
    (kk : ∀ (f1 : hm) (H1 : Heap) (locs1 : List Loc), f1 = hm_up f a (.inl (cA, n, .inl (upd g j y))) → hm_W D cl A f1 H1 → va_S A H0 H1 locs1 → W p l e R s m args below meth c H1 locs1 cells slots Q (F0 m (pc + 1) ls rest)) : W p l e R s m args below meth c H locs cells slots Q (F0 m pc ls (.int x :: .int i :: .ref a :: rest)) := by
  obtain ⟨hx, hb, -, hown, hts⟩ := X
  obtain ⟨hK, hAO⟩ := hK
  obtain ⟨ws, hP, hD, hok⟩ := hM
  obtain ⟨q0, hq⟩ := (hok _ _).mp he
  obtain ⟨h1, h2⟩ := hm_in hi hj hn
  refine va_cast hx hb hK hP hD hS q0 t0 hq ht h1 hdg (fun H1 locs1 hP1 hD1 hS1 => ?_)
  rw [h2, hy] at hP1 hD1
  exact kk _ H1 locs1 rfl ⟨_, hP1, hD1, hok.set _ hD hq⟩ hS1
theorem hm_aast (X : CallFix p m c cc nL s args Ts own) (hK : hm_K D cl tys s) (hM : hm_W D cl A f H) (hS : va_S A H0 H locs) {cA : ClassId} {n v ci : Nat} {r : vw_C} {vs : List Value} {g : Nat → Option Nat} (he : f a = some (.inl (cA, n, .inr (.inr (.inr (.inr g)))))) (hv : f v = some (.inr (ci, vs))) (hc : cl[ci]? = some r) (t0 : Nat) (ht : tys[t0]? = some (cA, .object r.1)) {i : Int32} (j : Nat) (hi : i = nI j) (hj : j < n) (hn : n < 2 ^ 31) (hdg : decode cc pc = .ok (.aastore, 1))
    (kk : ∀ (f1 : hm) (H1 : Heap) (locs1 : List Loc), f1 = hm_up f a (.inl (cA, n, .inr (.inr (.inr (.inr (va_up g j (some v))))))) → hm_W D cl A f1 H1 → va_S A H0 H1 locs1 → W p l e R s m args below meth c H1 locs1 cells slots Q (F0 m (pc + 1) ls rest)) : W p l e R s m args below meth c H locs cells slots Q (F0 m pc ls (.ref v :: .int i :: .ref a :: rest)) := by
  obtain ⟨hx, hb, -, hown, hts⟩ := X
  obtain ⟨hK, hAO⟩ := hK
  obtain ⟨ws, hP, hD, hok⟩ := hM
  obtain ⟨q0, hq⟩ := (hok _ _).mp he
  obtain ⟨qk, hqk⟩ := (hok _ _).mp hv
  obtain ⟨h1, h2⟩ := hm_in hi hj hn
  refine va_astq hx hb hK hP hD hS q0 t0 qk ci hq ht hqk hc h1 hdg (fun H1 locs1 hP1 hD1 hS1 => ?_)
  rw [h2] at hP1 hD1
  exact kk _ H1 locs1 rfl ⟨_, hP1, hD1, hok.set _ hD hq⟩ hS1
end HMR
/-! Calls, entries and returns over the map world. -/
section HMC
variable {p : Program} {l : Launch} {e : Env} {R : Room} {s : State} {m : MethodId} {args : Array Value} {below : List Frame} {meth : Method} {c : Code} {H : Heap} {locs : List Loc} {cells slots : Nat} {Q : State → Prop}
variable {cc : ByteArray} {pc : Nat} {ls : Array Slot} {rest st0 : List Value} {D : va_G} {cl : List vw_C} {A : Nat → Prop} {tys : List (ClassId × FieldType)} {H0 : Heap} {f f0 : hm} {nL mc ms : Nat} {Ts : List Cond} {own : String} {av : Array Value}
theorem hm_blind {sz : Nat} {as : List Value} : FrameBlind (va_Pc as (hm_B D cl tys f sz)) := fun a U g mk q => by
  obtain ⟨q0, q1, qP, qK⟩ := q
  exact ⟨q0, q1, qP, hm_K.moved (u := U) (U := U.calling g mk a) (Vm.Alike.refl U.vm) qK⟩
theorem hm_preS (hM : hm_W D cl A f H) (hK : hm_K D cl tys s) {as : List Value} : PreS s H (va_Pc as (hm_B D cl tys f H.size)) as :=
  ⟨hm_blind, fun U hU hW => ⟨rfl, by rw [hU], by rw [hU]; exact hM.weaken (fun _ _ => trivial), hm_K.moved hW.alike hK⟩⟩
theorem hm_preV (hM : hm_W D cl A f H) (hK : hm_K D cl tys s) {as : List Value} {b ci N : Nat} {fs : List Value} {C : String} {T : u_T} (he : f b = some (.inr (ci, fs))) (hc : cl[ci]? = some (C, T, N)) : PreV s H C b (va_Pc (.ref b :: as) (hm_B D cl tys f H.size)) as := by
  refine ⟨hm_blind, ?_, fun U hU hW => ⟨rfl, by rw [hU], by rw [hU]; exact hM.weaken (fun _ _ => trivial), hm_K.moved hW.alike hK⟩⟩
  obtain ⟨ws, hP, hD, hok⟩ := hM
  obtain ⟨q0, hq⟩ := (hok _ _).mp he
  exact va_recv hK.1 hP hc hq
theorem hm_calli {post : Int32 → hm → Prop} (hS : va_S A H0 H locs) (hM : hm_W D cl A f H) (hA : ∀ q, H0.size ≤ q → A q) (hr : va_Run p l e R s m args below meth c H locs cells slots mc ms (F0 m pc ls st0) rest (va_Qi post (hm_R D cl tys f H.size) (hm_A f H.size) av) (hm_A f H.size))
    (kk : ∀ (r : Int32) (f1 : hm) (H1 : Heap) (locs1 : List Loc), post r f1 → hm_W D cl A f1 H1 → va_S A H0 H1 locs1 → W p l e R s m args below meth c H1 locs1 (cells + mc) (slots + ms) Q (F0 m (pc + 3) ls (.int r :: rest))) : W p l e R s m args below meth c H locs cells slots Q (F0 m pc ls st0) := by
  have hF := hM.free hS hA
  refine va_calli hr hS (fun q _ h => hF q h) hF (fun r u t H1 locs1 ht hvm hp hB hz hk hS1 => ?_)
  obtain ⟨hM1, -⟩ := hB
  rw [ht] at hM1
  exact kk r u H1 locs1 hp (hM1.weaken hF) hS1
theorem hm_calll {post : Int64 → hm → Prop} (hS : va_S A H0 H locs) (hM : hm_W D cl A f H) (hA : ∀ q, H0.size ≤ q → A q) (hr : va_Run p l e R s m args below meth c H locs cells slots mc ms (F0 m pc ls st0) rest (va_Ql post (hm_R D cl tys f H.size) (hm_A f H.size) av) (hm_A f H.size))
    (kk : ∀ (r : Int64) (f1 : hm) (H1 : Heap) (locs1 : List Loc), post r f1 → hm_W D cl A f1 H1 → va_S A H0 H1 locs1 → W p l e R s m args below meth c H1 locs1 (cells + mc) (slots + ms) Q (F0 m (pc + 3) ls (.long r :: rest))) : W p l e R s m args below meth c H locs cells slots Q (F0 m pc ls st0) := by
  have hF := hM.free hS hA
  refine va_calll hr hS (fun q _ h => hF q h) hF (fun r u t H1 locs1 ht hvm hp hB hz hk hS1 => ?_)
  obtain ⟨hM1, -⟩ := hB
  rw [ht] at hM1
  exact kk r u H1 locs1 hp (hM1.weaken hF) hS1
theorem hm_callv {post : hm → Prop} (hS : va_S A H0 H locs) (hM : hm_W D cl A f H) (hA : ∀ q, H0.size ≤ q → A q) (hr : va_Run p l e R s m args below meth c H locs cells slots mc ms (F0 m pc ls st0) rest (va_Qv post (hm_R D cl tys f H.size) (hm_A f H.size) av) (hm_A f H.size))
    (kk : ∀ (f1 : hm) (H1 : Heap) (locs1 : List Loc), post f1 → hm_W D cl A f1 H1 → va_S A H0 H1 locs1 → W p l e R s m args below meth c H1 locs1 (cells + mc) (slots + ms) Q (F0 m (pc + 3) ls rest)) : W p l e R s m args below meth c H locs cells slots Q (F0 m pc ls st0) := by
  have hF := hM.free hS hA
  refine va_callv hr hS (fun q _ h => hF q h) hF (fun u t H1 locs1 ht hvm hp hB hz hk hS1 => ?_)
  obtain ⟨hM1, -⟩ := hB
  rw [ht] at hM1
  exact kk u H1 locs1 hp (hM1.weaken hF) hS1
theorem hm_callq {post : Option Nat → hm → Prop} (hS : va_S A H0 H locs) (hM : hm_W D cl A f H) (hA : ∀ q, H0.size ≤ q → A q) (hr : va_Run p l e R s m args below meth c H locs cells slots mc ms (F0 m pc ls st0) rest (va_Qq post (hm_R D cl tys f H.size) (hm_A f H.size) av) (hm_A f H.size))
    (kk : ∀ (r : Option Nat) (f1 : hm) (H1 : Heap) (locs1 : List Loc), post r f1 → hm_W D cl A f1 H1 → va_S A H0 H1 locs1 → W p l e R s m args below meth c H1 locs1 (cells + mc) (slots + ms) Q (F0 m (pc + 3) ls (va_rf r :: rest))) : W p l e R s m args below meth c H locs cells slots Q (F0 m pc ls st0) := by
  have hF := hM.free hS hA
  refine va_callq hr hS (fun q _ h => hF q h) hF (fun r u t H1 locs1 ht hvm hp hB hz hk hS1 => ?_)
  obtain ⟨hM1, -⟩ := hB
  rw [ht] at hM1
  exact kk r u H1 locs1 hp (hM1.weaken hF) hS1
theorem hm_iret {post : Int32 → hm → Prop} (X : CallFix p m c cc nL s args Ts own) (hQ : MQ below (va_Qi post (hm_R D cl tys f0 s.heap.size) (hm_A f0 s.heap.size)) args s cells slots (hm_A f0 s.heap.size) = Q) (hr : meth.sig.returnType = some .int) (hlk : meth.locks = false) (hK : hm_K D cl tys s) (hM : hm_W D cl (hm_A f0 s.heap.size) f H) (hS : va_S (hm_A f0 s.heap.size) s.heap H locs) {v : Int32} (hdg : decode cc pc = .ok (.ireturn, 1)) (hp : post v f) :
    W p l e R s m args below meth c H locs cells slots Q (F0 m pc ls [.int v]) := hQ ▸
  W.iret X.1 X.2.1 hr (fun t ht hW => ⟨⟨v, f, rfl, hp, by rw [ht]; exact hM, hm_K.moved hW.alike hK⟩, hS.F ht⟩) hS.2.2 hdg hlk
theorem hm_zret {post : Int32 → hm → Prop} {ty : FieldType} (X : CallFix p m c cc nL s args Ts own) (hQ : MQ below (va_Qi post (hm_R D cl tys f0 s.heap.size) (hm_A f0 s.heap.size)) args s cells slots (hm_A f0 s.heap.size) = Q) (hr : meth.sig.returnType = some ty) (hlk : meth.locks = false) (hK : hm_K D cl tys s) (hM : hm_W D cl (hm_A f0 s.heap.size) f H) (hS : va_S (hm_A f0 s.heap.size) s.heap H locs) {v : Int32} (hn : narrow ty (.int v) = .int v) (hdg : decode cc pc = .ok (.ireturn, 1)) (hp : post v f) :
    W p l e R s m args below meth c H locs cells slots Q (F0 m pc ls [.int v]) := hQ ▸
  W.zret X.1 X.2.1 hr hn (fun t ht hW => ⟨⟨v, f, rfl, hp, by rw [ht]; exact hM, hm_K.moved hW.alike hK⟩, hS.F ht⟩) hS.2.2 hdg hlk
theorem hm_lret {post : Int64 → hm → Prop} (X : CallFix p m c cc nL s args Ts own) (hQ : MQ below (va_Ql post (hm_R D cl tys f0 s.heap.size) (hm_A f0 s.heap.size)) args s cells slots (hm_A f0 s.heap.size) = Q) (hr : meth.sig.returnType = some .long) (hlk : meth.locks = false) (hK : hm_K D cl tys s) (hM : hm_W D cl (hm_A f0 s.heap.size) f H) (hS : va_S (hm_A f0 s.heap.size) s.heap H locs) {v : Int64} (hdg : decode cc pc = .ok (.lreturn, 1)) (hp : post v f) :
    W p l e R s m args below meth c H locs cells slots Q (F0 m pc ls [.long v]) := hQ ▸
  W.lret X.1 X.2.1 hr (fun t ht hW => ⟨⟨v, f, rfl, hp, by rw [ht]; exact hM, hm_K.moved hW.alike hK⟩, hS.F ht⟩) hS.2.2 hdg hlk
theorem hm_vret {post : hm → Prop} (X : CallFix p m c cc nL s args Ts own) (hQ : MQ below (va_Qv post (hm_R D cl tys f0 s.heap.size) (hm_A f0 s.heap.size)) args s cells slots (hm_A f0 s.heap.size) = Q) (hr : meth.sig.returnType = none) (hlk : meth.locks = false) (hK : hm_K D cl tys s) (hM : hm_W D cl (hm_A f0 s.heap.size) f H) (hS : va_S (hm_A f0 s.heap.size) s.heap H locs) (hdg : decode cc pc = .ok (.return_, 1)) (hp : post f) :
    W p l e R s m args below meth c H locs cells slots Q (F0 m pc ls []) := hQ ▸
  W.vret X.1 X.2.1 hr (fun t ht hW => ⟨⟨f, rfl, hp, by rw [ht]; exact hM, hm_K.moved hW.alike hK⟩, hS.F ht⟩) hS.2.2 hdg hlk
theorem hm_aret {post : Option Nat → hm → Prop} {rt : FieldType} (X : CallFix p m c cc nL s args Ts own) (hQ : MQ below (va_Qq post (hm_R D cl tys f0 s.heap.size) (hm_A f0 s.heap.size)) args s cells slots (hm_A f0 s.heap.size) = Q) (hr : meth.sig.returnType = some rt) (hrt : (∃ n, rt = .object n) ∨ ∃ t, rt = .array t) (hlk : meth.locks = false) (hK : hm_K D cl tys s) (hM : hm_W D cl (hm_A f0 s.heap.size) f H) (hS : va_S (hm_A f0 s.heap.size) s.heap H locs) (r : Option Nat) (hdg : decode cc pc = .ok (.areturn, 1)) (hp : post r f) :
    W p l e R s m args below meth c H locs cells slots Q (F0 m pc ls [va_rf r]) := hQ ▸
  W.aret X.1 X.2.1 hr hrt (va_rf_or r) (fun t ht hW => ⟨⟨r, f, rfl, hp, by rw [ht]; exact hM, hm_K.moved hW.alike hK⟩, hS.F ht⟩) hS.2.2 hdg hlk
/-- the contract: from the map f, at any size of the heap -/
theorem hm_enter {y : MethodName} {ws ws' : List Cond} {rm : Room} {as : List Value} {Qc : Nat → Array Value → State → Outcome → State → Prop} {maxL : Nat} {ret : Option FieldType} (hy : plainName y.cls = true) (hw : ws = Cond.code y cc maxL ret :: ws') (hlen : (lg_sl as).length ≤ maxL)
    (body : ∀ (p : Program) (e : Env) (s : State) (m : MethodId) (below : List Frame) (meth : Method) (c : Code) (ls : Array Slot), CallFix p m c cc maxL s as.toArray ws y.cls → meth.sig.returnType = ret → meth.locks = false → meth.name = y.name → hm_K D cl tys s → hm_W D cl (hm_A f s.heap.size) f s.heap → va_S (hm_A f s.heap.size) s.heap s.heap [] → (∀ q, s.heap.size ≤ q → hm_A f s.heap.size q) → lv_has ls maxL (lv_args 0 as) →
      ∀ Q : State → Prop, MQ below (Qc s.heap.size) as.toArray s mc ms (hm_A f s.heap.size) = Q → W p l e rm s m as.toArray below meth c s.heap [] 0 0 Q (F0 m 0 ls [])) : ∀ sz, Met l y ws rm (va_Pc as (hm_B D cl tys f sz)) (Qc sz) mc ms (hm_A f sz) := by
  intro sz
  refine Met.ofW (cc := cc) (maxL := maxL) (ret := ret) hy hw ?_
  intro p e s m args below meth c s₁ B hml hv
  obtain ⟨rfl, rfl, hM, hK⟩ := hv
  rw [lg_entry_eq]
  exact body p e s m below meth c _ ⟨B.exec, B.bytes, hml, findClass_of_methodNamed B.named, atoms_spec (ws := ws) B.pre⟩ B.returns B.notSynchronized (name_of_methodNamed B.named B.method).1 hK hM.self va_S.rf (fun q h => Or.inr h) (lv_entry as hlen) _ rfl
theorem hm_ref {o : Option Nat} {a : Nat} (h : o = some a) (k : W p l e R s m args below meth c H locs cells slots Q (F0 m pc ls (.ref a :: rest))) : W p l e R s m args below meth c H locs cells slots Q (F0 m pc ls (va_rf o :: rest)) := by
  subst h; exact k
theorem hm_nul {o : Option Nat} (h : o = none) (k : W p l e R s m args below meth c H locs cells slots Q (F0 m pc ls (.null :: rest))) : W p l e R s m args below meth c H locs cells slots Q (F0 m pc ls (va_rf o :: rest)) := by
  subst h; exact k
theorem hm_aload_nq (hx : p.tables.exec = Jvm.exec) (hb : c.code = cc) {k : Fin 4} {i : Nat} {o : Option Nat} (hdg : decode cc pc = .ok (.aload_n k, 1)) (hi : (k : Nat) = i) (hl : ls[i]? = some (.val (va_rf o))) (kk : W p l e R s m args below meth c H locs cells slots Q (F0 m (pc + 1) ls (va_rf o :: rest))) : W p l e R s m args below meth c H locs cells slots Q (F0 m pc ls rest) := by
  cases o with
  | none => exact lv_aload_nN hx hb hdg hi hl kk
  | some a => exact lv_aload_n hx hb hdg hi hl kk
theorem hm_aloadq (hx : p.tables.exec = Jvm.exec) (hb : c.code = cc) {i : Nat} {o : Option Nat} (hdg : decode cc pc = .ok (.aload i, 2)) (hl : ls[i]? = some (.val (va_rf o))) (kk : W p l e R s m args below meth c H locs cells slots Q (F0 m (pc + 2) ls (va_rf o :: rest))) : W p l e R s m args below meth c H locs cells slots Q (F0 m pc ls rest) := by
  cases o with
  | none => exact lv_aloadN hx hb hdg hl kk
  | some a => exact lv_aload hx hb hdg hl kk
theorem hm_astore_nq (hx : p.tables.exec = Jvm.exec) (hb : c.code = cc) {k : Fin 4} {i : Nat} {o : Option Nat} {lv lv' : List (Nat × Value)} (hdg : decode cc pc = .ok (.astore_n k, 1)) (hi : (k : Nat) = i) (h : lv_has ls nL lv) (hn : i < nL) (hl : (i, va_rf o) :: lv.filter (fun q => !(q.1 == i) && !(q.1 + 1 == i && q.2.category == 2)) = lv')
    (kk : ∀ ls' : Array Slot, lv_has ls' nL lv' → W p l e R s m args below meth c H locs cells slots Q (F0 m (pc + 1) ls' rest)) : W p l e R s m args below meth c H locs cells slots Q (F0 m pc ls (va_rf o :: rest)) := by
  cases o with
  | none => exact lv_astore_nN hx hb hdg hi h hn hl kk
  | some a => exact lv_astore_n hx hb hdg hi h hn hl kk
theorem hm_astoreq (hx : p.tables.exec = Jvm.exec) (hb : c.code = cc) {i : Nat} {o : Option Nat} {lv lv' : List (Nat × Value)} (hdg : decode cc pc = .ok (.astore i, 2)) (h : lv_has ls nL lv) (hn : i < nL) (hl : (i, va_rf o) :: lv.filter (fun q => !(q.1 == i) && !(q.1 + 1 == i && q.2.category == 2)) = lv')
    (kk : ∀ ls' : Array Slot, lv_has ls' nL lv' → W p l e R s m args below meth c H locs cells slots Q (F0 m (pc + 2) ls' rest)) : W p l e R s m args below meth c H locs cells slots Q (F0 m pc ls (va_rf o :: rest)) := by
  cases o with
  | none => exact lv_astoreN hx hb hdg h hn hl kk
  | some a => exact lv_astore hx hb hdg h hn hl kk
theorem hm_ifnullq (hx : p.tables.exec = Jvm.exec) (hb : c.code = cc) {o : Option Nat} {off : Int} {tgt : Nat} (hdg : decode cc pc = .ok (.ifnull off, 3)) (ht : (pc : Int) + off = (tgt : Int)) (kt : o = none → W p l e R s m args below meth c H locs cells slots Q (F0 m tgt ls rest)) (kf : ∀ a, o = some a → W p l e R s m args below meth c H locs cells slots Q (F0 m (pc + 3) ls rest)) : W p l e R s m args below meth c H locs cells slots Q (F0 m pc ls (va_rf o :: rest)) := by
  cases o with
  | none => exact lv_ifnullN hx hb hdg ht (kt rfl)
  | some a => exact lv_ifnull hx hb hdg (kf a rfl)
theorem hm_ifnonnullq (hx : p.tables.exec = Jvm.exec) (hb : c.code = cc) {o : Option Nat} {off : Int} {tgt : Nat} (hdg : decode cc pc = .ok (.ifnonnull off, 3)) (ht : (pc : Int) + off = (tgt : Int)) (kt : o = none → W p l e R s m args below meth c H locs cells slots Q (F0 m (pc + 3) ls rest)) (kf : ∀ a, o = some a → W p l e R s m args below meth c H locs cells slots Q (F0 m tgt ls rest)) : W p l e R s m args below meth c H locs cells slots Q (F0 m pc ls (va_rf o :: rest)) := by
  cases o with
  | none => exact lv_ifnonnullN hx hb hdg (kt rfl)
  | some a => exact lv_ifnonnull hx hb hdg ht (kf a rfl)
theorem hm_top {x z : Int32} (h : x = z) (k : W p l e R s m args below meth c H locs cells slots Q (F0 m pc ls (.int z :: rest))) : W p l e R s m args below meth c H locs cells slots Q (F0 m pc ls (.int x :: rest)) := h ▸ k
theorem hm_cs {cells' slots' : Nat} {g : JFrame} (hc : cells = cells') (hs : slots = slots') (k : W p l e R s m args below meth c H locs cells' slots' Q g) : W p l e R s m args below meth c H locs cells slots Q g := by
  subst hc; subst hs; exact k
end HMC
theorem hm_neI {f : hm} {a b ci cj : Nat} {fs gs : List Value} (ha : f a = some (.inr (ci, fs))) (hb : f b = some (.inr (cj, gs))) (h : ci ≠ cj) : a ≠ b := hm_ne ha hb (fun q => h (by cases q; rfl))
theorem hm_neA {f : hm} {a b : Nat} {o : Nat × List Value} {x : ClassId × vp_A} (ha : f a = some (.inr o)) (hb : f b = some (.inl x)) : a ≠ b := hm_ne ha hb (fun q => by cases q)
theorem hm_neL {f : hm} {a b n1 n2 : Nat} {c1 c2 : ClassId} {x y : (Nat → Int32) ⊕ (Nat → Int64) ⊕ (Nat → UInt32) ⊕ (Nat → UInt64) ⊕ (Nat → Option Nat)} (ha : f a = some (.inl (c1, n1, x))) (hb : f b = some (.inl (c2, n2, y))) (h : n1 ≠ n2) : a ≠ b := hm_ne ha hb (fun q => h (by cases q; rfl))
theorem hm_none {f f1 : hm} {a b : Nat} {e : va_E} (h : f1 = hm_up f a e) (hb : f1 b = none) : f b = none := by
  by_cases q : b = a
  · rw [h, q, hm_up_s] at hb
    cases hb
  · rw [h, hm_up_n q] at hb
    exact hb
theorem hm_noneF {f f1 : hm} {b : Nat} (h : ∀ x : va_E, f b = some x → f1 b = some x) (hb : f1 b = none) : f b = none := by
  cases q : f b with
  | none => rfl
  | some x =>
    rw [h x q] at hb
    cases hb
theorem hm_narq (C : String) (o : Option Nat) : narrow (.object C) (va_rf o) = va_rf o := by cases o <;> rfl
theorem hm_fitq (C : String) (o : Option Nat) : fits (.object C) (va_rf o) = true := by cases o <;> rfl
theorem hm_narZ {x : Int32} (h : x = 0 ∨ x = 1) : narrow .boolean (.int x) = .int x := by
  rcases h with h | h <;> (subst h; rfl)
theorem hm_inc (j : Nat) : nI j + Int32.ofInt 1 = nI (j + 1) := nI_1 j
/-- contracts over the map: void, int (boolean, char), long, a reference or null -/
abbrev hm_Mv (l : Launch) (D : va_G) (cl : List vw_C) (tys : List (ClassId × FieldType)) (y : MethodName) (ws : List Cond) (rm : Room) (as : List Value) (f : hm) (post : hm → Prop) (mc ms : Nat) : Prop := ∀ sz : Nat, Met l y ws rm (va_Pc as (hm_B D cl tys f sz)) (va_Qv post (hm_R D cl tys f sz) (hm_A f sz)) mc ms (hm_A f sz)
abbrev hm_Mi (l : Launch) (D : va_G) (cl : List vw_C) (tys : List (ClassId × FieldType)) (y : MethodName) (ws : List Cond) (rm : Room) (as : List Value) (f : hm) (post : Int32 → hm → Prop) (mc ms : Nat) : Prop := ∀ sz : Nat, Met l y ws rm (va_Pc as (hm_B D cl tys f sz)) (va_Qi post (hm_R D cl tys f sz) (hm_A f sz)) mc ms (hm_A f sz)
abbrev hm_Ml (l : Launch) (D : va_G) (cl : List vw_C) (tys : List (ClassId × FieldType)) (y : MethodName) (ws : List Cond) (rm : Room) (as : List Value) (f : hm) (post : Int64 → hm → Prop) (mc ms : Nat) : Prop := ∀ sz : Nat, Met l y ws rm (va_Pc as (hm_B D cl tys f sz)) (va_Ql post (hm_R D cl tys f sz) (hm_A f sz)) mc ms (hm_A f sz)
abbrev hm_Mq (l : Launch) (D : va_G) (cl : List vw_C) (tys : List (ClassId × FieldType)) (y : MethodName) (ws : List Cond) (rm : Room) (as : List Value) (f : hm) (post : Option Nat → hm → Prop) (mc ms : Nat) : Prop := ∀ sz : Nat, Met l y ws rm (va_Pc as (hm_B D cl tys f sz)) (va_Qq post (hm_R D cl tys f sz) (hm_A f sz)) mc ms (hm_A f sz)
