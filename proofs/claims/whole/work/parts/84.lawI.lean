/-! The law's loop: what holds at its head, and small rows for its cases. -/
def lw_I (k : Nat → ClassId) (f : hm) (a : cA) (S : cS) (h9 : Nat) (adM : Nat → Nat) (sk : Int64) (v : Nat → Int32) (c : Nat → Nat → Int32) (sg : Nat → Nat → Nat) (B : Nat) : Prop :=
  cs k f a S ∧ (∀ n, c_ok S n → ¬ mo_own h9 adM (a.A n)) ∧ mo k f h9 adM sk v c ∧ rl S sk v c sg B
theorem va_up_s {α : Type} {f : Nat → α} {k : Nat} {x : α} : va_up f k x k = x := if_pos rfl
section RW
variable {α : Type} {f : Nat → Nat → α} {s i : Nat} {P : Prop}
theorem rw2_ne {s0 i0 : Nat} {x : α} (h : ¬ (s = s0 ∧ i = i0)) : va_up f s0 (va_up (f s0) i0 x) s i = f s i := by
  unfold va_up
  by_cases e : s = s0
  · subst e
    rw [if_pos rfl, if_neg (fun z => h ⟨rfl, z⟩)]
  · rw [if_neg e]
theorem rw2_fun (f : Nat → Nat → α) (s0 i0 : Nat) (x : α) : va_up f s0 (va_up (f s0) i0 x) = fun s i => if s = s0 ∧ i = i0 then x else f s i := by
  funext s i
  by_cases h : s = s0 ∧ i = i0
  · rw [if_pos h, h.1, h.2]
    exact (congrFun (va_up_s (f := f) (k := s0) (x := va_up (f s0) i0 x)) i0).trans va_up_s
  · rw [if_neg h]
    exact rw2_ne h
theorem rw3_ne {u1 u2 : Nat} {x1 x2 : α} (h1 : ¬ (s = 1 ∧ i = u1)) (h2 : ¬ (s = 2 ∧ i = u2)) : va_up (va_up f 1 (va_up (f 1) u1 x1)) 2 (va_up (f 2) u2 x2) s i = f s i := by
  have z := rw2_ne (f := va_up f 1 (va_up (f 1) u1 x1)) (x := x2) h2
  exact z.trans (rw2_ne h1)
theorem rw4_ne {i0 u1 u2 : Nat} {x0 x1 x2 : α} (h0 : ¬ (s = 0 ∧ i = i0)) (h1 : ¬ (s = 1 ∧ i = u1)) (h2 : ¬ (s = 2 ∧ i = u2)) : va_up (va_up (va_up f 0 (va_up (f 0) i0 x0)) 1 (va_up (f 1) u1 x1)) 2 (va_up (f 2) u2 x2) s i = f s i := by
  have z := rw3_ne (f := va_up f 0 (va_up (f 0) i0 x0)) (x1 := x1) (x2 := x2) h1 h2
  exact z.trans (rw2_ne h0)
theorem rw5_ne {i0 u1 u2 : Nat} {x0 x1 x2 : α} (h0 : ¬ (s = 1 ∧ i = i0)) (h1 : ¬ (s = 1 ∧ i = u1)) (h2 : ¬ (s = 2 ∧ i = u2)) : va_up (va_up (va_up f 1 (va_up (f 1) i0 x0)) 1 (va_up (va_up (f 1) i0 x0) u1 x1)) 2 (va_up (f 2) u2 x2) s i = f s i := by
  have z := rw3_ne (f := va_up f 1 (va_up (f 1) i0 x0)) (x1 := x1) (x2 := x2) h1 h2
  exact z.trans (rw2_ne h0)
theorem rw2_fm {s0 i0 : Nat} {x o : α} (h : va_up f s0 (va_up (f s0) i0 x) s i = o) (a0 : x = o → P) (a1 : f s i = o → P) : P := by
  by_cases e : s = s0 ∧ i = i0
  · rw [rw2_fun] at h
    exact a0 ((if_pos e).symm.trans h)
  · rw [rw2_ne e] at h
    exact a1 h
theorem rw3_fm {u1 u2 : Nat} {x1 x2 o : α} (h : va_up (va_up f 1 (va_up (f 1) u1 x1)) 2 (va_up (f 2) u2 x2) s i = o) (a1 : x1 = o → P) (a2 : x2 = o → P) (a3 : f s i = o → P) : P :=
  rw2_fm (f := va_up f 1 (va_up (f 1) u1 x1)) h a2 (fun z => rw2_fm z a1 a3)
theorem rw4_fm {i0 u1 u2 : Nat} {x0 x1 x2 o : α} (h : va_up (va_up (va_up f 0 (va_up (f 0) i0 x0)) 1 (va_up (f 1) u1 x1)) 2 (va_up (f 2) u2 x2) s i = o) (a0 : x0 = o → P) (a1 : x1 = o → P) (a2 : x2 = o → P) (a3 : f s i = o → P) : P :=
  rw3_fm (f := va_up f 0 (va_up (f 0) i0 x0)) h a1 a2 (fun z => rw2_fm z a0 a3)
end RW
section LI
variable {k : Nat → ClassId} {f f1 : hm} {a : cA} {S S' : cS} {h9 : Nat} {adM : Nat → Nat} {sk : Int64} {v : Nat → Int32} {c : Nat → Nat → Int32}
theorem dj_cv {P : cX → Prop} (e1 : S'.nf = S.nf) (e2 : S'.nc = S.nc) (hd : ∀ n, c_ok S n → P n) : ∀ n, c_ok S' n → P n := by
  intro n hn
  refine hd n ?_
  unfold c_ok at *
  rw [e1, e2] at hn
  exact hn
theorem mo.own (H : mo k f h9 adM sk v c) {q : Nat} (ho : mo_own h9 adM q) : ∃ x, f q = some x := by
  rcases ho with z | ⟨i, h1, h2, h3⟩
  · rw [z]; exact ⟨_, H.1⟩
  · rw [h3]; exact ⟨_, H.2.1 i h1 h2⟩
theorem dj_C (e1 : S'.nf = S.nf) (e2 : S'.nc = S.nc + 1) (hd : ∀ n, c_ok S n → ¬ mo_own h9 adM (a.A n)) (hmo : mo k f h9 adM sk v c) {q : Nat} (hq : f q = none) {g : Nat → Nat → Option Nat} {cn : Nat → Option Nat} : ∀ n, c_ok S' n → ¬ mo_own h9 adM ((cAm (c_new a (3, S.nc, 0) q) g cn).A n) := by
  intro n hn
  show ¬ mo_own h9 adM (c_new a (3, S.nc, 0) q n)
  unfold c_new
  by_cases e : n = (3, S.nc, 0)
  · rw [if_pos e]
    intro ho
    obtain ⟨x, hx⟩ := hmo.own ho
    rw [hq] at hx
    cases hx
  · rw [if_neg e]
    refine hd n ?_
    match n, hn, e with
    | (0, i, e0), hn, _ => exact hn
    | (1, s, i), hn, _ => exact hn
    | (2, t, e0), hn, _ =>
      have z : t < S'.nf ∧ e0 = 0 := hn
      rw [e1] at z
      exact z
    | (d + 3, j, e0), hn, e =>
      have z : j < S'.nc ∧ e0 = 0 ∧ d + 3 = 3 := hn
      obtain ⟨z1, z2, z3⟩ := z
      have z4 : d = 0 := by omega
      subst z2; subst z4
      have : j ≠ S.nc := fun z => e (by rw [z])
      exact ⟨by omega, rfl, rfl⟩
theorem dj_Y (e1 : S'.nf = S.nf + 1) (e2 : S'.nc = S.nc) (hd : ∀ n, c_ok S n → ¬ mo_own h9 adM (a.A n)) (hmo : mo k f h9 adM sk v c) {q : Nat} (hq : f q = none) {g : Nat → Nat → Option Nat} {cn : Nat → Option Nat} : ∀ n, c_ok S' n → ¬ mo_own h9 adM ((cAm (c_new a (2, S.nf, 0) q) g cn).A n) := by
  intro n hn
  show ¬ mo_own h9 adM (c_new a (2, S.nf, 0) q n)
  unfold c_new
  by_cases e : n = (2, S.nf, 0)
  · rw [if_pos e]
    intro ho
    obtain ⟨x, hx⟩ := hmo.own ho
    rw [hq] at hx
    cases hx
  · rw [if_neg e]
    refine hd n ?_
    match n, hn, e with
    | (0, i, e0), hn, _ => exact hn
    | (1, s, i), hn, _ => exact hn
    | (2, t, e0), hn, e =>
      have z : t < S'.nf ∧ e0 = 0 := hn
      obtain ⟨z1, z2⟩ := z
      subst z2
      have : t ≠ S.nf := fun z => e (by rw [z])
      exact ⟨by omega, rfl⟩
    | (d + 3, j, e0), hn, _ =>
      have z : j < S'.nc ∧ e0 = 0 ∧ d + 3 = 3 := hn
      rw [e2] at z
      exact z
theorem dj_S {p0 p1 p2 : Nat → Nat} (z0 : z_pm 16 p0) (z1 : z_pm 24 p1) (z2 : z_pm 24 p2) (hd : ∀ n, c_ok S n → ¬ mo_own h9 adM (a.A n)) {g : Nat → Nat → Option Nat} {cn : Nat → Option Nat} {us : Nat → Nat} {w : Nat → Nat → Nat → Int32} {fm : Nat → Nat → Option Nat} :
    ∀ n, c_ok (cSm S.u S.nc S.cl us w fm S.nf S.fa S.tn S.tx S.rd S.rs S.ra S.ky) n → ¬ mo_own h9 adM ((cAm (c_sw a p0 p1 p2) g cn).A n) := by
  intro n hn
  match n, hn with
  | (0, i, e0), hn => exact hd _ hn
  | (1, s, i), hn =>
    refine hd (1, s, o_pp p0 p1 p2 s i) ⟨hn.1, ?_⟩
    match s, hn with
    | 0, hn => exact z0.1 i hn.2
    | 1, hn => exact z1.1 i hn.2
    | 2, hn => exact z2.1 i hn.2
    | s + 3, hn => exact absurd hn.1 (by omega)
  | (2, t, e0), hn => exact hd _ hn
  | (d + 3, j, e0), hn => exact hd _ hn
theorem c_new_s (a : cA) (n0 : cX) (q : Nat) : c_new a n0 q n0 = q := if_pos rfl
theorem c_c_new {q n : Nat} {x y z : Int32} {u : Nat → Int32} {nc : Nat} {cl : Nat → Nat → Int32} {us : Nat → Nat} {w : Nat → Nat → Nat → Int32} {fm : Nat → Nat → Option Nat} {nf : Nat} {fa : Nat → Nat → Int32} {tn : Nat → Nat} {tx : Nat → Nat → Int32} {rd rs : Nat → Int32} {ra ky : Int32} (g : f1 q = some (.inr (1, [.int x, .int y, .int z]))) :
    f1 q = some (c_c (cSm u nc (va_up cl n (o_3 x y z)) us w fm nf fa tn tx rd rs ra ky) n) := by
  unfold c_c
  rw [show cS.cl (cSm u nc (va_up cl n (o_3 x y z)) us w fm nf fa tn tx rd rs ra ky) n = o_3 x y z from va_up_s]
  exact g
theorem c_r_at {s i q : Nat} {W : Nat → Int32} {o m : Option Nat} (hq : a.A (1, s, i) = q) (h1 : S.w s i = W) (h2 : S.fm s i = o) (hm9 : o.map (fun t => a.A (2, t, 0)) = m) (g : f1 q = some (.inr (3, gV W m))) : f1 (a.A (1, s, i)) = some (c_ct k a S (1, s, i)) := by
  show _ = some (c_r a S s i)
  unfold c_r cm
  rw [hq, h1, h2, hm9]
  exact g
theorem c_y_at {t : Nat} {F : Nat → Int32} (h : S.fa t = F) (g : f1 (a.A (2, t, 0)) = some (.inr (2, [.int (F 0), .int (F 1), .int (F 2)]))) : f1 (a.A (2, t, 0)) = some (c_ct k a S (2, t, 0)) := by
  show _ = some (c_y S t)
  unfold c_y
  rw [h]
  exact g
theorem c_y_in {t q q9 : Nat} (h : S.fa t 1 = nI q9) (g : f1 q = some (c_y S t)) : f1 q = some (.inr (2, [.int (S.fa t 0), .int (nI q9), .int (S.fa t 2)])) := by
  rw [← h]
  exact g
theorem aF_newC {n q : Nat} {g : Nat → Nat → Option Nat} {cn : Nat → Option Nat} : aF (cAm (c_new a (3, n, 0) q) g cn) = aF a := by
  funext j
  show c_new a (3, n, 0) q (0, j, 0) = a.A (0, j, 0)
  unfold c_new
  rw [if_neg (by simp)]
theorem aF_newY {n q : Nat} {g : Nat → Nat → Option Nat} {cn : Nat → Option Nat} : aF (cAm (c_new a (2, n, 0) q) g cn) = aF a := by
  funext j
  show c_new a (2, n, 0) q (0, j, 0) = a.A (0, j, 0)
  unfold c_new
  rw [if_neg (by simp)]
theorem aF_sw {p0 p1 p2 : Nat → Nat} {g : Nat → Nat → Option Nat} {cn : Nat → Option Nat} : aF (cAm (c_sw a p0 p1 p2) g cn) = aF a := by
  funext j
  rfl
theorem A_newY {n q s i : Nat} {g : Nat → Nat → Option Nat} {cn : Nat → Option Nat} : (cAm (c_new a (2, n, 0) q) g cn).A (1, s, i) = a.A (1, s, i) := by
  show c_new a (2, n, 0) q (1, s, i) = a.A (1, s, i)
  unfold c_new
  rw [if_neg (by simp)]
theorem z_fi_mark {w : Nat → Nat → Int32} {x : Int32} {u i : Nat} (h : z_fi w x u 0 = none) : z_fi (va_up w i (upd (w i) 6 1)) x u 0 = none := by
  rw [z_fi_n] at *
  intro j h1 h2
  have z := h j h1 h2
  unfold va_up
  by_cases e : j = i
  · subst e
    rw [if_pos rfl]
    exact z
  · rw [if_neg e]
    exact z
theorem z_cn_cg {w : Nat → Nat → Int32} {m1 : Nat → Option Nat} {fv fv' : Nat → Int32} {t : Int32} : ∀ {u : Nat}, (∀ i, i < u → fv i = fv' i) → z_cn w m1 fv t u = z_cn w m1 fv' t u := by
  intro u
  induction u with
  | zero => intro _; rfl
  | succ u ih =>
    intro h
    show z_cn w m1 fv t u + _ = z_cn w m1 fv' t u + _
    rw [ih (fun i hi => h i (by omega)), h u (by omega)]
theorem rv_fv (H : cs k f a S) {t s i : Nat} (ht : t < S.nf) (hs : s < 3) (hi : i < gs_N s) : (if cm a S s i = some (a.A (2, t, 0)) then (1 : Int32) else o_fv S 2 s i) = o_fv (cSm S.u S.nc S.cl S.us S.w S.fm S.nf (va_up S.fa t (upd (S.fa t) 2 1)) S.tn S.tx S.rd S.rs S.ra S.ky) 2 s i := by
  have e0 : o_fv (cSm S.u S.nc S.cl S.us S.w S.fm S.nf (va_up S.fa t (upd (S.fa t) 2 1)) S.tn S.tx S.rd S.rs S.ra S.ky) 2 s i = match S.fm s i with | none => 0 | some t' => va_up S.fa t (upd (S.fa t) 2 1) t' 2 := rfl
  rw [e0]
  unfold o_fv
  cases h : S.fm s i with
  | none =>
    rw [if_neg (fun z => by rw [(cm_n s i).mpr h] at z; cases z)]
  | some t' =>
    have ht' := H.2.2.2.2 s i t' hs hi h
    by_cases e : t' = t
    · subst e
      rw [if_pos (cm_s h)]
      show 1 = va_up S.fa t' (upd (S.fa t') 2 1) t' 2
      rw [va_up_s]
      rfl
    · rw [if_neg (fun z => by
        rw [cm_s h] at z
        have z2 := H.2.1 (2, t', 0) (2, t, 0) ⟨ht', rfl⟩ ⟨ht, rfl⟩ (Option.some.inj z)
        exact e (congrArg (fun n : cX => n.2.1) z2))]
      show S.fa t' 2 = va_up S.fa t (upd (S.fa t) 2 1) t' 2
      unfold va_up
      rw [if_neg e]
end LI
/-! The check: what is read doesn't depend on what lies behind the text. -/
section CG
variable {n : Nat} {x y : Nat → Int32}
theorem z_form_cg (h : ∀ j, j < n → x j = y j) : z_form n x ↔ z_form n y := by
  have key : ∀ (x y : Nat → Int32), (∀ j, j < n → x j = y j) → z_form n x → z_form n y := by
    intro x y h ⟨a1, a2, a3, a4, a5, a6⟩
    refine ⟨a1, by rw [← h _ (by omega)]; exact a2, a3, fun k hk hk2 => by rw [← h k hk]; exact a4 k hk hk2, fun z => by rw [← h _ (by omega)]; exact a5 z, fun z => by rw [← h _ (by omega)]; exact a6 z⟩
  exact ⟨key x y h, key y x (fun j hj => (h j hj).symm)⟩
theorem z_sealed_cg {z : Int64} (hn : 11 ≤ n) (h : ∀ j, j < n → x j = y j) : z_sealed z n x ↔ z_sealed z n y := by
  have key : ∀ (x y : Nat → Int32), (∀ j, j < n → x j = y j) → z_sealed z n x → z_sealed z n y := by
    intro x y h a i hi
    rw [← h _ (by omega), a i hi, z_seal_congr (fun j hj => h j (by omega))]
  exact ⟨key x y h, key y x (fun j hj => (h j hj).symm)⟩
theorem z_eight_cg (h : ∀ j, j < n → x j = y j) {i : Nat} (hi : i < (n - 11) * 6 / 8) : z_eight x i = z_eight y i := by
  unfold z_eight
  rw [h _ (by omega), h _ (by omega)]
theorem z_skF_cg (h : ∀ j, j < n → x j = y j) : ∀ t p, z_skF n x t p = z_skF n y t p := by
  intro t
  induction t with
  | zero => intro p; rfl
  | succ t ih =>
    intro p
    unfold z_skF
    by_cases q : p < n
    · rw [h p q, ih]
    · rw [if_neg (fun z => q z.1), if_neg (fun z => q z.1)]
theorem z_sk_cg (h : ∀ j, j < n → x j = y j) (p : Nat) : z_sk n x p = z_sk n y p := z_skF_cg h _ _
theorem m_mk_cg (h : ∀ j, j < n → x j = y j) (p : Nat) (e : Int32) : m_mk n x p e = m_mk n y p e := by
  unfold m_mk
  rw [z_sk_cg h p]
  by_cases q : z_sk n y p < n
  · rw [h _ q]
  · rw [if_neg (fun z => q z.1), if_neg (fun z => q z.1)]
theorem z_stF_cg (h : ∀ j, j < n → x j = y j) (p i : Nat) : ∀ t j, z_stF n x p i t j = z_stF n y p i t j := by
  intro t
  induction t with
  | zero => intro j; rfl
  | succ t ih =>
    intro j
    unfold z_stF
    by_cases q : p + j < n
    · rw [h _ q, ih]
    · rw [if_neg (fun z => q z.1), if_neg (fun z => q z.1)]
theorem z_nm_cg (h : ∀ j, j < n → x j = y j) (p : Nat) : z_nm n x p = z_nm n y p := by
  unfold z_nm
  have key : ∀ t j, z_nmF n x p t j = z_nmF n y p t j := by
    intro t
    induction t with
    | zero => intro j; rfl
    | succ t ih =>
      intro j
      unfold z_nmF
      rw [show z_st n x p (7 + j) = z_st n y p (7 + j) from z_stF_cg h p _ _ _, ih]
  exact key 5 0
theorem z_num_cg (h : ∀ j, j < n → x j = y j) : ∀ t p v, z_num n x t p v = z_num n y t p v := by
  intro t
  induction t with
  | zero => intro p v; rfl
  | succ t ih =>
    intro p v
    unfold z_num
    by_cases q : p < n
    · rw [h p q, ih]
    · rw [if_neg (fun z => q z.1), if_neg (fun z => q z.1)]
theorem z_nr_cg (h : ∀ j, j < n → x j = y j) (p : Nat) : z_nr n x p = z_nr n y p ∧ z_na n x p = z_na n y p := by
  unfold z_nr z_na
  rw [z_num_cg h 9 p 0]
  by_cases q : p < n
  · rw [h p q]; exact ⟨rfl, rfl⟩
  · have e1 : ¬ (p < n ∧ x p = 48) := fun z => q z.1
    have e2 : ¬ (p < n ∧ y p = 48) := fun z => q z.1
    simp only [if_neg e1, if_neg e2]
    exact ⟨trivial, trivial⟩
theorem m_mem_cg (h : ∀ j, j < n → x j = y j) (p : Nat) (cl : Nat → Int32) : m_mem n x p cl = m_mem n y p cl := by
  unfold m_mem
  simp only [m_mk_cg h, z_sk_cg h, z_nm_cg h, (z_nr_cg h _).1, (z_nr_cg h _).2]
theorem m_run_cg (h : ∀ j, j < n → x j = y j) : ∀ t p cl, m_run n x t p cl = m_run n y t p cl := by
  intro t
  induction t with
  | zero => intro p cl; rfl
  | succ t ih =>
    intro p cl
    unfold m_run
    simp only [m_mem_cg h, m_mk_cg h, z_sk_cg h, ih]
theorem m_ite_cg {α : Type} {P R : Prop} {u v : α} (h : P ↔ R) : @ite α P (Classical.propDecidable P) u v = @ite α R (Classical.propDecidable R) u v := by
  have e : P = R := propext h
  subst e
  rfl
theorem m_read_cg (h : ∀ j, j < n → x j = y j) (cl : Nat → Int32) : m_read n x cl = m_read n y cl := by
  unfold m_read
  simp only [m_run_cg h, m_mk_cg h]
  split
  · rfl
  · split
    · rfl
    · split
      · rfl
      · exact m_ite_cg (by rw [z_sk_cg h])
end CG
theorem o_ck {n : Nat} {x y y1 g : Nat → Int32} {rs rd rd9 cl cl9 : Nat → Int32} {t t' : Int32} {r1 r2 au sc : Int32} {d d' : Int32 → Int32} (hxy : ∀ j, j < n → x j = y j) (h1 : ∀ e, e < (n - 11) * 6 / 8 → y1 e = nI (z_eight x e)) (h2 : ∀ e, e < (n - 11) * 6 / 8 → g e = nI (z_eight y e))
    (c1 : (a_ck rd9 t (d (rd9 3)) au sc = r1 ∧ z_read ((n - 11) * 6 / 8) y1 rs rd = some rd9) ∨ (-9 = r1 ∧ z_read ((n - 11) * 6 / 8) y1 rs rd = none))
    (c2 : (a_ck cl9 t' (d' (cl9 3)) au sc = r2 ∧ m_read ((n - 11) * 6 / 8) g (m_cm1 cl 5) = some cl9) ∨ (-9 = r2 ∧ m_read ((n - 11) * 6 / 8) g (m_cm1 cl 5) = none)) (ht : t = t') (hd : ∀ x, d x = d' x) : r1 = r2 := by
  have e : m_read ((n - 11) * 6 / 8) g (m_cm1 cl 5) = m_read ((n - 11) * 6 / 8) y1 (m_cm1 cl 5) := m_read_cg (fun j hj => by rw [h1 j hj, h2 j hj, z_eight_cg hxy hj]) _
  have key := o_read (n := (n - 11) * 6 / 8) (x := y1) (rs := rs) (rd := rd) (cl := cl)
  rw [← e] at key
  rcases key with ⟨k1, k2⟩ | ⟨b1, b2, k1, k2, k3⟩
  · rcases c1 with ⟨-, q⟩ | ⟨q1, -⟩
    · rw [k1] at q; cases q
    · rcases c2 with ⟨-, q⟩ | ⟨q2, -⟩
      · rw [k2] at q; cases q
      · exact q1.symm.trans q2
  · rcases c1 with ⟨q1, q⟩ | ⟨-, q⟩
    · rw [k1] at q
      cases q
      rcases c2 with ⟨q2, q⟩ | ⟨-, q⟩
      · rw [k2] at q
        cases q
        rw [← q1, ← q2, ht]
        unfold a_ck
        rw [k3 0 (by decide), k3 1 (by decide), k3 2 (by decide), k3 3 (by decide), k3 4 (by decide), hd]
      · rw [k2] at q; cases q
    · rw [k1] at q; cases q
theorem m_tickV_no {v : Nat → Int32} {x : Int32} (h : x < 0 ∨ 10000 < x) : m_tickV v x = v := if_pos (h.imp id (fun z => Int32.not_le.mpr z))
theorem va_cpy_in {f g : Nat → Int32} {n j : Nat} (h : j < n) : va_cpy f g 0 0 n j = f j := by
  unfold va_cpy
  rw [if_pos ⟨Nat.zero_le _, by omega⟩]
  congr 1
  omega
