/-! The law's own rows: its script, its comparisons. -/
def hm_Bx (b L : Nat) (xs : Nat → Int32) (D : va_G) (cl : List vw_C) (tys : List (ClassId × FieldType)) (f : hm) (sz : Nat) (U : State) : Prop := hm_B D cl tys f sz U ∧ va_X b L xs U U.heap ∧ b < sz ∧ ¬ hm_A f sz b
section HMX
variable {p : Program} {l : Launch} {e : Env} {R : Room} {s : State} {m : MethodId} {args : Array Value} {below : List Frame} {meth : Method} {c : Code} {H : Heap} {locs : List Loc} {cells slots : Nat} {Q : State → Prop}
variable {cc : ByteArray} {pc : Nat} {ls : Array Slot} {rest : List Value} {D : va_G} {cl : List vw_C} {A : Nat → Prop} {tys : List (ClassId × FieldType)} {f f0 : hm} {nL mc ms : Nat} {Ts : List Cond} {own : String} {b L : Nat} {xs : Nat → Int32}
theorem hm_preSX (hX : va_X b L xs s s.heap) (hbl : b < s.heap.size) (hbA : ¬ A b) (hS : va_S A s.heap H locs) (hA : ∀ q, s.heap.size ≤ q → A q) (hM : hm_W D cl A f H) (hK : hm_K D cl tys s) {as : List Value} : PreS s H (va_Pc as (hm_Bx b L xs D cl tys f H.size)) as := by
  refine ⟨fun a U g mk q => ?_, fun U hU hW => ⟨rfl, ⟨by rw [hU], by rw [hU]; exact hM.weaken (fun _ _ => trivial), hm_K.moved hW.alike hK⟩, ?_, Nat.lt_of_lt_of_le hbl hS.1, fun z => hbA (hM.free hS hA b z)⟩⟩
  · obtain ⟨q0, ⟨q1, qP, qK⟩, qX, q3⟩ := q
    exact ⟨q0, ⟨q1, qP, hm_K.moved (u := U) (U := U.calling g mk a) (Vm.Alike.refl U.vm) qK⟩, va_X.moved (u := U) (U := U.calling g mk a) (Vm.Alike.refl U.vm) qX, q3⟩
  · rw [hU]
    exact (hX.kept (hS.2.1 b hbl hbA)).moved hW.alike
theorem hm_enterX {y : MethodName} {ws ws' : List Cond} {rm : Room} {as : List Value} {Qc : Nat → Array Value → State → Outcome → State → Prop} {maxL : Nat} {ret : Option FieldType} (hy : plainName y.cls = true) (hw : ws = Cond.code y cc maxL ret :: ws') (hlen : (lg_sl as).length ≤ maxL)
    (body : ∀ (p : Program) (e : Env) (s : State) (m : MethodId) (below : List Frame) (meth : Method) (c : Code) (ls : Array Slot), (va_X b L xs s s.heap ∧ b < s.heap.size ∧ ¬ hm_A f s.heap.size b) → CallFix p m c cc maxL s as.toArray ws y.cls → meth.sig.returnType = ret → meth.locks = false → meth.name = y.name → hm_K D cl tys s → hm_W D cl (hm_A f s.heap.size) f s.heap → va_S (hm_A f s.heap.size) s.heap s.heap [] → (∀ q, s.heap.size ≤ q → hm_A f s.heap.size q) → lv_has ls maxL (lv_args 0 as) →
      ∀ Q : State → Prop, MQ below (Qc s.heap.size) as.toArray s mc ms (hm_A f s.heap.size) = Q → W p l e rm s m as.toArray below meth c s.heap [] 0 0 Q (F0 m 0 ls [])) : ∀ sz, Met l y ws rm (va_Pc as (hm_Bx b L xs D cl tys f sz)) (Qc sz) mc ms (hm_A f sz) := by
  intro sz
  refine Met.ofW (cc := cc) (maxL := maxL) (ret := ret) hy hw ?_
  intro p e s m args below meth c s₁ B hml hv
  obtain ⟨rfl, ⟨rfl, hM, hK⟩, hX⟩ := hv
  rw [lg_entry_eq]
  exact body p e s m below meth c _ hX ⟨B.exec, B.bytes, hml, findClass_of_methodNamed B.named, atoms_spec (ws := ws) B.pre⟩ B.returns B.notSynchronized (name_of_methodNamed B.named B.method).1 hK hM.self va_S.rf (fun q h => Or.inr h) (lv_entry as hlen) _ rfl
end HMX
abbrev hm_MiX (l : Launch) (b L : Nat) (xs : Nat → Int32) (D : va_G) (cl : List vw_C) (tys : List (ClassId × FieldType)) (y : MethodName) (ws : List Cond) (rm : Room) (as : List Value) (f : hm) (post : Int32 → hm → Prop) (mc ms : Nat) : Prop := ∀ sz : Nat, Met l y ws rm (va_Pc as (hm_Bx b L xs D cl tys f sz)) (va_Qi post (hm_R D cl tys f sz) (hm_A f sz)) mc ms (hm_A f sz)
def z_cell (L : Nat) (xs : Nat → Int32) (j : Nat) : Int32 := if j < L then xs j else 0
theorem lw_cmp {L i : Nat} (hL : L < 2 ^ 30) (hi : i < 2 ^ 30) : (nI L - 6 < nI i) ↔ L < i + 6 := by
  have e : (nI L - 6).toInt = (L : Int) - 6 := pk_sub_toInt (b := 6) hL (by decide)
  rw [Int32.lt_iff_toInt_lt, e, nI_toInt (by omega)]
  omega
theorem hm_sw17 {x : Int32} (h0 : ¬ x = 0) (h1 : ¬ x = 1) (h2 : ¬ x = 2) (h3 : ¬ x = 3) (h4 : ¬ x = 4) (h5 : ¬ x = 5) (h6 : ¬ x = 6) (h7 : ¬ x = 7) (h8 : ¬ x = 8) (h9 : ¬ x = 9) (h10 : ¬ x = 10) (h11 : ¬ x = 11) (h12 : ¬ x = 12) (h13 : ¬ x = 13) (h14 : ¬ x = 14) (h15 : ¬ x = 15) (h16 : ¬ x = 16) : x.toInt < 0 ∨ 16 < x.toInt := by
  have a0 := lv_neT (k := 0) (a := 0) h0 rfl
  have a1 := lv_neT (k := 1) (a := 1) h1 rfl
  have a2 := lv_neT (k := 2) (a := 2) h2 rfl
  have a3 := lv_neT (k := 3) (a := 3) h3 rfl
  have a4 := lv_neT (k := 4) (a := 4) h4 rfl
  have a5 := lv_neT (k := 5) (a := 5) h5 rfl
  have a6 := lv_neT (k := 6) (a := 6) h6 rfl
  have a7 := lv_neT (k := 7) (a := 7) h7 rfl
  have a8 := lv_neT (k := 8) (a := 8) h8 rfl
  have a9 := lv_neT (k := 9) (a := 9) h9 rfl
  have a10 := lv_neT (k := 10) (a := 10) h10 rfl
  have a11 := lv_neT (k := 11) (a := 11) h11 rfl
  have a12 := lv_neT (k := 12) (a := 12) h12 rfl
  have a13 := lv_neT (k := 13) (a := 13) h13 rfl
  have a14 := lv_neT (k := 14) (a := 14) h14 rfl
  have a15 := lv_neT (k := 15) (a := 15) h15 rfl
  have a16 := lv_neT (k := 16) (a := 16) h16 rfl
  omega
theorem gs.keep {k : Nat → ClassId} {f f1 : hm} {h : Nat} {ad : Nat → Nat} {u : Nat → Int32} {cn : Nat → Option Nat} {us : Nat → Nat} {g : Nat → Nat → Option Nat} {tn : Nat → Nat} {tx : Nat → Nat → Int32} {rd rs : Nat → Int32} {ra ky : Int32} (H : gs k f h ad u cn us g tn tx rd rs ra ky) (hk : ∀ (q : Nat) (x : va_E), f q = some x → f1 q = some x) : gs k f1 h ad u cn us g tn tx rd rs ra ky := by
  obtain ⟨a, b, c, d, e, i, j, l, m, n⟩ := H
  exact ⟨hk _ _ a, hk _ _ b, fun z hz => hk _ _ (c z hz), fun z hz => hk _ _ (d z hz), fun z hz => hk _ _ (e z hz), fun z hz => hk _ _ (i z hz), hk _ _ j, hk _ _ l, hk _ _ m, hk _ _ n⟩
theorem mo.keep {k : Nat → ClassId} {f f1 : hm} {h : Nat} {ad : Nat → Nat} {sk : Int64} {v : Nat → Int32} {c : Nat → Nat → Int32} (H : mo k f h ad sk v c) (hk : ∀ (q : Nat) (x : va_E), mo_own h ad q → f q = some x → f1 q = some x) : mo k f1 h ad sk v c :=
  ⟨hk _ _ (Or.inl rfl) H.1, fun i hi hn => hk _ _ (Or.inr ⟨i, hi, hn, rfl⟩) (H.2.1 i hi hn), H.2.2⟩
/-- what a fresh object shows -/
theorem lw_nn (x : Int32) : x < 0 ∨ nI 0 ≤ x := by
  by_cases h : x < 0
  · exact Or.inl h
  · exact Or.inr (Int32.not_lt.mp h)
theorem m_isC0 (x : Int32) : m_isC 0 x = 0 := by
  rcases lw_nn x with h | h
  · simp [m_isC, h]
  · have h2 : (0 : Int32) ≤ x := h
    simp [m_isC, h2]
theorem m_findF0 (y : Int32) : ∀ t j, m_findF (fun _ => 0) y t j = -1 := by
  intro t
  induction t with
  | zero => intro j; rfl
  | succ t ih =>
    intro j
    unfold m_findF
    rw [if_neg (fun z => z.1 z.2.symm)]
    exact ih _
theorem z_at0 (w : Nat → Int32) (i : Int32) : z_at 0 w i = -1 := by
  unfold z_at
  rw [if_pos (lw_nn i)]
theorem m_letter0 (p q : Nat → Int32) (x i : Int32) : m_letter 0 0 p q x i = -1 := by
  unfold m_letter
  have h : i < 0 ∨ (if x = 0 then (0 : Int32) else 0) ≤ i := by
    rw [ite_self]
    exact lw_nn i
  rw [if_pos h]
theorem m_swc0 (e : Nat → Int32) (t : Int32) : ∀ j, m_swc (fun _ => 0) e t j = 0 := by
  intro j
  induction j with
  | zero => rfl
  | succ j ih => simp [m_swc, ih]
theorem m_cnt0 (v : Nat → Int32) (y : Int32) (a : Nat) : ∀ t, m_cnt v (fun _ _ => 0) y a t = 0 := by
  intro t
  induction t with
  | zero => rfl
  | succ t ih => simp [m_cnt, ih]
theorem lw_out {x : Int32} (h0 : ¬ x = 0) (h1 : ¬ x = 1) (h2 : ¬ x = 2) : x < 0 ∨ 2 < x := by
  rcases hm_sw3 h0 h1 h2 with h | h
  · exact Or.inl (Int32.lt_iff_toInt_lt.mpr h)
  · exact Or.inr (Int32.lt_iff_toInt_lt.mpr h)
theorem m_tick_no {x : Int32} (h : x < 0 ∨ 10000 < x) : m_tick x = 0 := by
  unfold m_tick
  rw [if_pos (h.imp id (fun z => Int32.not_le.mpr z))]
theorem m_tick_yes {x : Int32} (h : ¬ (x < 0 ∨ 10000 < x)) : m_tick x = 1 := by
  unfold m_tick
  rw [if_neg (fun z => h (z.imp id (fun y => Int32.not_le.mp y)))]
