section HMM
variable {p : Program} {l : Launch} {e : Env} {R : Room} {s : State} {m : MethodId} {args : Array Value} {below : List Frame} {meth : Method} {c : Code} {H : Heap} {locs : List Loc} {cells slots : Nat} {Q : State → Prop}
variable {cc : ByteArray} {pc : Nat} {ls : Array Slot} {rest : List Value} {D : va_G} {cl : List vw_C} {A : Nat → Prop} {a a0 : Nat} {tys : List (ClassId × FieldType)} {H0 : Heap} {f : hm} {nL : Nat} {Ts : List Cond} {own : String}
theorem hm_topq {o z : Option Nat} (h : o = z) (k : W p l e R s m args below meth c H locs cells slots Q (F0 m pc ls (va_rf z :: rest))) : W p l e R s m args below meth c H locs cells slots Q (F0 m pc ls (va_rf o :: rest)) := h ▸ k
theorem hm_copyc (X : CallFix p m c cc nL s args Ts own) (hK : hm_K D cl tys s) (hM : hm_W D cl A f H) (hS : va_S A H0 H locs) {cA : ClassId} {n0 n1 n : Nat} {x y : Nat → Int32} (he0 : f a0 = some (.inl (cA, n0, .inl x))) (he1 : f a = some (.inl (cA, n1, .inl y))) (t0 : Nat) (ht : tys[t0]? = some (cA, .char)) (h0 : n ≤ n0) (h1 : n ≤ n1) (h31 : n < 2 ^ 31) (hfit : ∀ i, i < n → fits .char (.int (x i)) = true)
    {index : Nat} (hlk : Cond.methodLink own index arraycopyName ∈ Ts) (hnat : Cond.native arraycopyName ∈ Ts) (hst : Cond.static arraycopyName ∈ Ts) (hini : Cond.initialized "java/lang/System" ∈ Ts) (hfr : 1 ≤ R.frames) (hlo : (rest.map fun v => v.category).sum + (nativeFrameWords "java/lang/System" "arraycopy" 5 + 11) ≤ R.locals) (hl : ls.size = nL) (hdg : decode cc pc = .ok (.invokestatic index, 3))
    (kk : ∀ (f1 : hm) (H1 : Heap) (locs1 : List Loc), f1 = hm_up f a (.inl (cA, n1, .inl (va_cpy x y 0 0 n))) → hm_W D cl A f1 H1 → va_S A H0 H1 locs1 → W p l e R s m args below meth c H1 locs1 cells slots Q (F0 m (pc + 3) ls rest)) : W p l e R s m args below meth c H locs cells slots Q (F0 m pc ls (.int (nI n) :: .int 0 :: .ref a :: .int 0 :: .ref a0 :: rest)) := by
  obtain ⟨hx, hb, hml, hown, hts⟩ := X
  obtain ⟨hK, hAO⟩ := hK
  obtain ⟨ws, hP, hD, hok⟩ := hM
  obtain ⟨q0, hq0⟩ := (hok _ _).mp he0
  obtain ⟨q1, hq1⟩ := (hok _ _).mp he1
  have z0 : (0 : Int32).toNatClampNeg = 0 := rfl
  have zn : (nI n).toNatClampNeg = n := nI_clamp h31
  refine va_copyi hx hb (hml.trans hl.symm) hown (hts _ hlk) (hts _ hnat) (hts _ hst) (hts _ hini) hK hP hD hS q0 q1 t0 t0 hq0 hq1 ht ht rfl (by decide) (by decide) (nI_pos h31) (by rw [z0, zn]; omega) (by rw [z0, zn]; omega) (by rw [zn, z0]; intro i hi; rw [Nat.zero_add]; exact hfit i hi) hfr hlo hdg (fun H1 locs1 hP1 hD1 hS1 => ?_)
  rw [z0, zn] at hP1 hD1
  exact kk _ H1 locs1 rfl ⟨_, hP1, hD1, hok.set _ hD hq1⟩ hS1
end HMM
/-- the first row, from j on, of t rows, whose number is x -/
def z_fi (w : Nat → Nat → Int32) (x : Int32) : Nat → Nat → Option Nat
  | 0, _ => none
  | t + 1, j => if w j 0 = x then some j else z_fi w x t (j + 1)
theorem z_fi_some {w : Nat → Nat → Int32} {x : Int32} : ∀ {t j i : Nat}, z_fi w x t j = some i → j ≤ i ∧ i < j + t ∧ w i 0 = x := by
  intro t
  induction t with
  | zero => intro j i h; simp [z_fi] at h
  | succ t ih =>
    intro j i h
    unfold z_fi at h
    split at h
    · cases h
      refine ⟨Nat.le_refl _, by omega, by assumption⟩
    · obtain ⟨a, b, d⟩ := ih h
      exact ⟨by omega, by omega, d⟩
/-- how many of the first j rows are active at time t -/
def z_cn (w : Nat → Nat → Int32) (m1 : Nat → Option Nat) (fv : Nat → Int32) (t : Int32) : Nat → Nat
  | 0 => 0
  | j + 1 => z_cn w m1 fv t j + (if z_act (w j) (m1 j) (fv j) t = 0 then 0 else 1)
theorem z_act_01 (w : Nat → Int32) (m1 : Option Nat) (fv x : Int32) : z_act w m1 fv x = 0 ∨ z_act w m1 fv x = 1 := by
  unfold z_act
  split
  · exact Or.inl rfl
  · exact Or.inr rfl
theorem z_act_b {w : Nat → Int32} {m1 : Option Nat} {fv x : Int32} (h : ¬ z_act w m1 fv x = 0) : z_act w m1 fv x = 1 := (z_act_01 w m1 fv x).resolve_left h
def z_shelf (ad : Nat → Nat) (x : Int32) : Option Nat := if x = 0 then some (ad 4) else if x = 1 then some (ad 5) else if x = 2 then some (ad 6) else none
theorem hm_sw3 {x : Int32} (h0 : ¬ x = 0) (h1 : ¬ x = 1) (h2 : ¬ x = 2) : x.toInt < 0 ∨ 2 < x.toInt := by
  have a0 := lv_neT (k := 0) (a := 0) h0 rfl
  have a1 := lv_neT (k := 1) (a := 1) h1 rfl
  have a2 := lv_neT (k := 2) (a := 2) h2 rfl
  omega
