/-! The class's cells by names: (0, i) its own, (1, s, i) the rows, (2, t) the families, (3, j) the clients. -/
abbrev cX : Type := Nat × Nat × Nat
def cA : Type := (cX → Nat) × (Nat → Nat → Option Nat) × (Nat → Option Nat)
def cAm (A : cX → Nat) (g : Nat → Nat → Option Nat) (cn : Nat → Option Nat) : cA := (A, g, cn)
def cA.A (a : cA) : cX → Nat := a.1
def cA.g (a : cA) : Nat → Nat → Option Nat := a.2.1
def cA.cn (a : cA) : Nat → Option Nat := a.2.2
def aF (a : cA) : Nat → Nat := fun i => a.A (0, i, 0)
/-- the rows' families as addresses -/
def cm (a : cA) (S : cS) : Nat → Nat → Option Nat := fun s i => (S.fm s i).map (fun t => a.A (2, t, 0))
theorem cm_n {a : cA} {S : cS} (s i : Nat) : cm a S s i = none ↔ S.fm s i = none := by
  unfold cm
  cases S.fm s i <;> simp
theorem cm_s {a : cA} {S : cS} {s i t : Nat} (h : S.fm s i = some t) : cm a S s i = some (a.A (2, t, 0)) := by
  unfold cm
  rw [h]
  rfl
def c_f (k : Nat → ClassId) (a : cA) (S : cS) (i : Nat) : va_E := match i with
  | 0 => .inr (0, gsV S.u (aF a))
  | 3 => .inl (k 4, 4, .inr (.inr (.inr (.inr a.cn))))
  | 4 => .inr (4, [.ref (aF a 14), .int (nI (S.us 0))])
  | 5 => .inr (4, [.ref (aF a 15), .int (nI (S.us 1))])
  | 6 => .inr (4, [.ref (aF a 16), .int (nI (S.us 2))])
  | 7 => .inr (5, [.ref (aF a 17), .int (nI (S.tn 0))])
  | 8 => .inr (5, [.ref (aF a 18), .int (nI (S.tn 1))])
  | 9 => .inr (5, [.ref (aF a 19), .int (nI (S.tn 2))])
  | 10 => .inr (7, [.ref (aF a 20), .ref (aF a 21), .int S.ra])
  | 11 => .inr (6, [.int S.ky])
  | 14 => .inl (k 3, 16, .inr (.inr (.inr (.inr (a.g 0)))))
  | 15 => .inl (k 3, 24, .inr (.inr (.inr (.inr (a.g 1)))))
  | 16 => .inl (k 3, 24, .inr (.inr (.inr (.inr (a.g 2)))))
  | 17 => .inl (k 2, 120, .inl (S.tx 0))
  | 18 => .inl (k 2, 120, .inl (S.tx 1))
  | 19 => .inl (k 2, 120, .inl (S.tx 2))
  | 20 => .inl (k 0, 5, .inl S.rd)
  | 21 => .inl (k 1, 5, .inl S.rs)
  | _ => .inr (6, [])
def c_r (a : cA) (S : cS) (s i : Nat) : va_E := .inr (3, gV (S.w s i) (cm a S s i))
def c_y (S : cS) (t : Nat) : va_E := .inr (2, [.int (S.fa t 0), .int (S.fa t 1), .int (S.fa t 2)])
def c_c (S : cS) (j : Nat) : va_E := .inr (1, [.int (S.cl j 0), .int (S.cl j 1), .int (S.cl j 2)])
def c_ct (k : Nat → ClassId) (a : cA) (S : cS) (n : cX) : va_E := match n with
  | (0, i, _) => c_f k a S i
  | (1, s, i) => c_r a S s i
  | (2, t, _) => c_y S t
  | (_, j, _) => c_c S j
def c_ix (i : Nat) : Bool := i == 0 || gs_ix i
def c_ok (S : cS) (n : cX) : Prop := match n with
  | (0, i, e) => c_ix i = true ∧ e = 0
  | (1, s, i) => s < 3 ∧ i < gs_N s
  | (2, t, e) => t < S.nf ∧ e = 0
  | (d, j, e) => j < S.nc ∧ e = 0 ∧ d = 3
def cs (k : Nat → ClassId) (f : hm) (a : cA) (S : cS) : Prop :=
  (∀ n, c_ok S n → f (a.A n) = some (c_ct k a S n)) ∧ (∀ n m, c_ok S n → c_ok S m → a.A n = a.A m → n = m) ∧ (∀ s i, s < 3 → i < gs_N s → a.g s i = some (a.A (1, s, i))) ∧ (∀ j, j < S.nc → a.cn j = some (a.A (3, j, 0))) ∧ (∀ s i t, s < 3 → i < gs_N s → S.fm s i = some t → t < S.nf)
section CS
variable {k : Nat → ClassId} {f f1 : hm} {a : cA} {S S' : cS}
theorem cs.F (H : cs k f a S) (i : Nat) (h : c_ix i = true) : f (aF a i) = some (c_f k a S i) := H.1 (0, i, 0) ⟨h, rfl⟩
theorem cs.R (H : cs k f a S) {s i : Nat} (hs : s < 3) (hi : i < gs_N s) : f (a.A (1, s, i)) = some (c_r a S s i) := H.1 (1, s, i) ⟨hs, hi⟩
theorem cs.Y (H : cs k f a S) {t : Nat} (ht : t < S.nf) : f (a.A (2, t, 0)) = some (c_y S t) := H.1 (2, t, 0) ⟨ht, rfl⟩
theorem cs.C (H : cs k f a S) {j : Nat} (hj : j < S.nc) : f (a.A (3, j, 0)) = some (c_c S j) := H.1 (3, j, 0) ⟨hj, rfl, rfl⟩
theorem cs.g (H : cs k f a S) {s i : Nat} (hs : s < 3) (hi : i < gs_N s) : a.g s i = some (a.A (1, s, i)) := H.2.2.1 s i hs hi
theorem cs.gx (H : cs k f a S) : ∀ s, s < 3 → ∀ i, i < gs_N s → ∃ q, a.g s i = some q := fun s hs i hi => ⟨_, H.g hs hi⟩
theorem cs.cn (H : cs k f a S) {j : Nat} (hj : j < S.nc) : a.cn j = some (a.A (3, j, 0)) := H.2.2.2.1 j hj
theorem cs.ap (H : cs k f a S) : gs_ap (aF a) := fun i j _ _ hi hj e => by
  have z := H.2.1 (0, i, 0) (0, j, 0) ⟨by simp [c_ix, hi], rfl⟩ ⟨by simp [c_ix, hj], rfl⟩ e
  exact congrArg (fun n : cX => n.2.1) z
theorem cs.rows (H : cs k f a S) {s u : Nat} (hs : s < 3) (hu : u ≤ gs_N s) : ∀ i, i < u → ∃ q, a.g s i = some q ∧ f q = some (.inr (3, gV (S.w s i) (cm a S s i))) := fun i hi => ⟨_, H.g hs (Nat.lt_of_lt_of_le hi hu), H.R hs (Nat.lt_of_lt_of_le hi hu)⟩
theorem cs.fam (H : cs k f a S) {s u : Nat} (hs : s < 3) (hu : u ≤ gs_N s) : ∀ i, i < u → ∀ z, cm a S s i = some z → f z = some (.inr (2, [.int (o_fv S 0 s i), .int (o_fv S 1 s i), .int (o_fv S 2 s i)])) := by
  intro i hi z hz
  cases h : S.fm s i with
  | none => rw [(cm_n s i).mpr h] at hz; cases hz
  | some t =>
    rw [cm_s h] at hz
    cases hz
    unfold o_fv
    rw [h]
    exact H.Y (H.2.2.2.2 s i t hs (Nat.lt_of_lt_of_le hi hu) h)
theorem cs.rne (H : cs k f a S) {s i s' i' : Nat} (hs : s < 3) (hi : i < gs_N s) (hs' : s' < 3) (hi' : i' < gs_N s') (h : ¬ (s = s' ∧ i = i')) : a.A (1, s, i) ≠ a.A (1, s', i') := fun e => by
  have z := H.2.1 (1, s, i) (1, s', i') ⟨hs, hi⟩ ⟨hs', hi'⟩ e
  exact h ⟨congrArg (fun n : cX => n.2.1) z, congrArg (fun n : cX => n.2.2) z⟩
/-- some cells are changed -/
theorem cs.up (H : cs k f a S) (L : List cX) (hL : ∀ n, n ∈ L → c_ok S n → f1 (a.A n) = some (c_ct k a S' n)) (hfr : ∀ (q : Nat) (x : va_E), (∀ n, n ∈ L → c_ok S n → q ≠ a.A n) → f q = some x → f1 q = some x)
    (hs : ∀ n, c_ok S n → ¬ n ∈ L → c_ct k a S' n = c_ct k a S n) (hn : S'.nf = S.nf) (hc : S'.nc = S.nc) (hf : ∀ s i t, s < 3 → i < gs_N s → S'.fm s i = some t → t < S.nf) : cs k f1 a S' := by
  have ho : ∀ n, c_ok S' n → c_ok S n := by
    intro n h
    unfold c_ok at *
    rw [hn, hc] at h
    exact h
  refine ⟨fun n h => ?_, fun n m h1 h2 => H.2.1 n m (ho n h1) (ho m h2), H.2.2.1, fun j hj => H.2.2.2.1 j (hc ▸ hj), fun s i t h1 h2 h3 => by rw [hn]; exact hf s i t h1 h2 h3⟩
  have h' := ho n h
  by_cases q : n ∈ L
  · exact hL n q h'
  · rw [hs n h' q]
    exact hfr _ _ (fun m hm hm' e => q (by rw [H.2.1 n m h' hm' e]; exact hm)) (H.1 n h')
/-- outside the named cells nothing is changed -/
theorem c_same {L : List cX} (hF : ∀ i, c_ix i = true → ¬ ((0, i, 0) : cX) ∈ L → c_f k a S' i = c_f k a S i) (hR : ∀ s i, s < 3 → i < gs_N s → ¬ ((1, s, i) : cX) ∈ L → S'.w s i = S.w s i ∧ S'.fm s i = S.fm s i) (hY : ∀ t, ¬ ((2, t, 0) : cX) ∈ L → S'.fa t = S.fa t) (hC : S'.cl = S.cl) : ∀ n, c_ok S n → ¬ n ∈ L → c_ct k a S' n = c_ct k a S n := by
  intro n hn hl
  match n, hn, hl with
  | (0, i, e), hn, hl =>
    have he : e = 0 := hn.2
    subst he
    exact hF i hn.1 hl
  | (1, s, i), hn, hl =>
    obtain ⟨e1, e2⟩ := hR s i hn.1 hn.2 hl
    show c_r a S' s i = c_r a S s i
    unfold c_r cm
    rw [e1, e2]
  | (2, t, e), hn, hl =>
    have he : e = 0 := hn.2
    subst he
    show c_y S' t = c_y S t
    unfold c_y
    rw [hY t hl]
  | (d + 3, j, e), hn, hl =>
    show c_c S' j = c_c S j
    unfold c_c
    rw [hC]
theorem c_ixs {i : Nat} (h : c_ix i = true) : i = 0 ∨ i = 3 ∨ i = 4 ∨ i = 5 ∨ i = 6 ∨ i = 7 ∨ i = 8 ∨ i = 9 ∨ i = 10 ∨ i = 11 ∨ i = 14 ∨ i = 15 ∨ i = 16 ∨ i = 17 ∨ i = 18 ∨ i = 19 ∨ i = 20 ∨ i = 21 := by
  simp [c_ix, gs_ix] at h
  omega
/-- the reference's cells stay where the class's change -/
theorem cs.mo {h9 : Nat} {adM : Nat → Nat} {sk : Int64} {v : Nat → Int32} {c : Nat → Nat → Int32} {L : List cX} (hdj : ∀ n, c_ok S n → ¬ mo_own h9 adM (a.A n)) (hfr : ∀ (q : Nat) (x : va_E), (∀ n, n ∈ L → c_ok S n → q ≠ a.A n) → f q = some x → f1 q = some x) (hmo : mo k f h9 adM sk v c) : mo k f1 h9 adM sk v c :=
  hmo.keep (fun zq zx ho hq => hfr zq zx (fun n _ hn e => hdj n hn (e ▸ ho)) hq)
/-- the reference's call leaves the class's cells -/
theorem cs.keep {h9 : Nat} {adM : Nat → Nat} (H : cs k f a S) (hdj : ∀ n, c_ok S n → ¬ mo_own h9 adM (a.A n)) (hfr : mo_fr h9 adM f f1) : cs k f1 a S := ⟨fun n hn => hfr _ _ (hdj n hn) (H.1 n hn), H.2⟩
/-- a new cell: a family or a client -/
def c_new (a : cA) (n0 : cX) (q : Nat) : cX → Nat := fun n => if n = n0 then q else a.A n
theorem cs.newY (H : cs k f a S) {q : Nat} (hq : f q = none) (h1 : f1 q = some (c_y S' S.nf)) (hfr : ∀ (z : Nat) (x : va_E), f z = some x → f1 z = some x) (hn : S'.nf = S.nf + 1) (hc : S'.nc = S.nc) (hcl : S'.cl = S.cl) (hw : S'.w = S.w) (hm : S'.fm = S.fm) (hy : ∀ t, t < S.nf → S'.fa t = S.fa t) (hF : ∀ i, c_f k a S' i = c_f k a S i) :
    cs k f1 (cAm (c_new a (2, S.nf, 0) q) a.g a.cn) S' := by
  have ho : ∀ n, c_ok S' n → n = (2, S.nf, 0) ∨ (c_ok S n ∧ n ≠ (2, S.nf, 0)) := by
    intro n h
    by_cases e : n = (2, S.nf, 0)
    · exact Or.inl e
    · refine Or.inr ⟨?_, e⟩
      match n, h, e with
      | (0, i, e0), h, _ => exact h
      | (1, s, i), h, _ => exact h
      | (2, t, e0), h, e =>
        have z1 : t < S'.nf := h.1
        have z2 : e0 = 0 := h.2
        subst z2
        refine ⟨?_, rfl⟩
        have : t ≠ S.nf := fun z => e (by rw [z])
        omega
      | (d + 3, j, e0), h, _ =>
        have z : j < S'.nc ∧ e0 = 0 ∧ d + 3 = 3 := h
        rw [hc] at z
        exact z
  have hA : ∀ n, n ≠ (2, S.nf, 0) → c_new a (2, S.nf, 0) q n = a.A n := fun n h => if_neg h
  have hct : ∀ n, c_ok S n → n ≠ (2, S.nf, 0) → c_ct k (cAm (c_new a (2, S.nf, 0) q) a.g a.cn) S' n = c_ct k a S n := by
    intro n h e
    match n, h, e with
    | (0, i, e0), h, _ =>
      have e3 : aF (cAm (c_new a (2, S.nf, 0) q) a.g a.cn) = aF a := by
        funext j
        exact hA (0, j, 0) (by simp)
      have e4 : c_f k (cAm (c_new a (2, S.nf, 0) q) a.g a.cn) S' i = c_f k a S' i := by
        unfold c_f
        rw [e3]
        rfl
      exact e4.trans (hF i)
    | (1, s, i), h, _ =>
      show c_r _ S' s i = c_r a S s i
      unfold c_r
      have e3 : cm (cAm (c_new a (2, S.nf, 0) q) a.g a.cn) S' s i = cm a S s i := by
        unfold cm
        rw [hm]
        cases hf : S.fm s i with
        | none => rfl
        | some t =>
          have := H.2.2.2.2 s i t h.1 h.2 hf
          show some (c_new a (2, S.nf, 0) q (2, t, 0)) = some (a.A (2, t, 0))
          rw [hA _ (fun z => by have z2 := congrArg (fun n : cX => n.2.1) z; have z3 : t = S.nf := z2; omega)]
      rw [e3, hw]
    | (2, t, e0), h, _ =>
      show c_y S' t = c_y S t
      unfold c_y
      rw [hy t h.1]
    | (d + 3, j, e0), h, _ =>
      show c_c S' j = c_c S j
      unfold c_c
      rw [hcl]
  refine ⟨fun n h => ?_, fun n m h1' h2' e => ?_, fun s i h1' h2' => ?_, fun j hj => ?_, fun s i t h1' h2' h3' => ?_⟩
  · rcases ho n h with z | ⟨z1, z2⟩
    · subst z
      show f1 (c_new a (2, S.nf, 0) q (2, S.nf, 0)) = _
      rw [show c_new a (2, S.nf, 0) q (2, S.nf, 0) = q from if_pos rfl]
      exact h1
    · rw [hct n z1 z2]
      show f1 (c_new a (2, S.nf, 0) q n) = _
      rw [hA n z2]
      exact hfr _ _ (H.1 n z1)
  · have e' : c_new a (2, S.nf, 0) q n = c_new a (2, S.nf, 0) q m := e
    rcases ho n h1' with z | ⟨z1, z2⟩
    · rcases ho m h2' with y | ⟨y1, y2⟩
      · rw [z, y]
      · rw [z, hA m y2, show c_new a (2, S.nf, 0) q (2, S.nf, 0) = q from if_pos rfl] at e'
        exact absurd e'.symm (hm_ne0 (H.1 m y1) hq)
    · rcases ho m h2' with y | ⟨y1, y2⟩
      · rw [y, hA n z2, show c_new a (2, S.nf, 0) q (2, S.nf, 0) = q from if_pos rfl] at e'
        exact absurd e' (hm_ne0 (H.1 n z1) hq)
      · rw [hA n z2, hA m y2] at e'
        exact H.2.1 n m z1 y1 e'
  · show a.g s i = some (c_new a (2, S.nf, 0) q (1, s, i))
    rw [hA _ (by simp)]
    exact H.g h1' h2'
  · show a.cn j = some (c_new a (2, S.nf, 0) q (3, j, 0))
    rw [hA _ (by simp)]
    exact H.cn (hc ▸ hj)
  · rw [hm] at h3'
    have := H.2.2.2.2 s i t h1' h2' h3'
    omega
theorem cs.newC (H : cs k f a S) {q : Nat} (hq : f q = none) (h1 : f1 q = some (c_c S' S.nc)) (h2 : f1 (aF a 0) = some (.inr (0, gsV S'.u (aF a)))) (h3 : f1 (aF a 3) = some (.inl (k 4, 4, .inr (.inr (.inr (.inr (va_up a.cn S.nc (some q))))))))
    (hfr : ∀ (z : Nat) (x : va_E), z ≠ aF a 0 → z ≠ aF a 3 → f z = some x → f1 z = some x) (hn : S'.nf = S.nf) (hc : S'.nc = S.nc + 1) (hcl : ∀ j, j < S.nc → S'.cl j = S.cl j) (hw : S'.w = S.w) (hm : S'.fm = S.fm) (hy : S'.fa = S.fa) (hF : ∀ i, i ≠ 0 → i ≠ 3 → c_f k a S' i = c_f k a S i) :
    cs k f1 (cAm (c_new a (3, S.nc, 0) q) a.g (va_up a.cn S.nc (some q))) S' := by
  have ho : ∀ n, c_ok S' n → n = (3, S.nc, 0) ∨ (c_ok S n ∧ n ≠ (3, S.nc, 0)) := by
    intro n h
    by_cases e : n = (3, S.nc, 0)
    · exact Or.inl e
    · refine Or.inr ⟨?_, e⟩
      match n, h, e with
      | (0, i, e0), h, _ => exact h
      | (1, s, i), h, _ => exact h
      | (2, t, e0), h, e =>
        have z : t < S'.nf ∧ e0 = 0 := h
        rw [hn] at z
        exact z
      | (d + 3, j, e0), h, e =>
        have z : j < S'.nc ∧ e0 = 0 ∧ d + 3 = 3 := h
        obtain ⟨z1, z2, z3⟩ := z
        have z4 : d = 0 := by omega
        subst z2; subst z4
        refine ⟨?_, rfl, rfl⟩
        have : j ≠ S.nc := fun z => e (by rw [z])
        omega
  have hA : ∀ n, n ≠ (3, S.nc, 0) → c_new a (3, S.nc, 0) q n = a.A n := fun n h => if_neg h
  have e3 : aF (cAm (c_new a (3, S.nc, 0) q) a.g (va_up a.cn S.nc (some q))) = aF a := by
    funext j
    exact hA (0, j, 0) (by simp)
  have h0 := H.F 0 rfl
  have h30 := H.F 3 rfl
  refine ⟨fun n h => ?_, fun n m h1' h2' e => ?_, fun s i h1' h2' => ?_, fun j hj => ?_, fun s i t h1' h2' h3' => ?_⟩
  · rcases ho n h with z | ⟨z1, z2⟩
    · subst z
      show f1 (c_new a (3, S.nc, 0) q (3, S.nc, 0)) = _
      rw [show c_new a (3, S.nc, 0) q (3, S.nc, 0) = q from if_pos rfl]
      exact h1
    · show f1 (c_new a (3, S.nc, 0) q n) = _
      rw [hA n z2]
      have hne : ∀ i, c_ix i = true → n ≠ (0, i, 0) → a.A n ≠ aF a i := fun i hi hh e => hh (H.2.1 n (0, i, 0) z1 ⟨hi, rfl⟩ e)
      match n, z1, z2, hne with
      | (0, i, e0), z1, z2, hne =>
        have he : e0 = 0 := z1.2
        subst he
        show f1 (aF a i) = some (c_f k _ S' i)
        by_cases i0 : i = 0
        · subst i0
          rw [h2]
          show _ = some (Sum.inr (0, gsV S'.u (aF _)))
          rw [e3]
        · by_cases i3 : i = 3
          · subst i3
            exact h3
          · have e4 : c_f k (cAm (c_new a (3, S.nc, 0) q) a.g (va_up a.cn S.nc (some q))) S' i = c_f k a S' i := by
              rcases c_ixs z1.1 with r | r | r | r | r | r | r | r | r | r | r | r | r | r | r | r | r | r <;> subst r <;> first | exact absurd rfl i0 | exact absurd rfl i3 | rfl | (unfold c_f; simp only [e3])
            rw [e4, hF i i0 i3]
            exact hfr _ _ (hne 0 rfl (fun z => i0 (congrArg (fun n : cX => n.2.1) z))) (hne 3 rfl (fun z => i3 (congrArg (fun n : cX => n.2.1) z))) (H.1 _ z1)
      | (1, s, i), z1, z2, hne =>
        have e5 : c_r (cAm (c_new a (3, S.nc, 0) q) a.g (va_up a.cn S.nc (some q))) S' s i = c_r a S s i := by
          unfold c_r cm
          rw [hw, hm]
          have e6 : (fun t => (cAm (c_new a (3, S.nc, 0) q) a.g (va_up a.cn S.nc (some q))).A (2, t, 0)) = fun t => a.A (2, t, 0) := by
            funext t
            exact hA (2, t, 0) (by simp)
          rw [e6]
        show f1 _ = some (c_r _ S' s i)
        rw [e5]
        exact hfr _ _ (hne 0 rfl (by simp)) (hne 3 rfl (by simp)) (H.1 _ z1)
      | (2, t, e0), z1, z2, hne =>
        show f1 _ = some (c_y S' t)
        have e5 : c_y S' t = c_y S t := by unfold c_y; rw [hy]
        rw [e5]
        exact hfr _ _ (hne 0 rfl (by simp)) (hne 3 rfl (by simp)) (H.1 _ z1)
      | (d + 3, j, e0), z1, z2, hne =>
        show f1 _ = some (c_c S' j)
        have e5 : c_c S' j = c_c S j := by unfold c_c; rw [hcl j z1.1]
        rw [e5]
        exact hfr _ _ (hne 0 rfl (by simp)) (hne 3 rfl (by simp)) (H.1 _ z1)
  · have e' : c_new a (3, S.nc, 0) q n = c_new a (3, S.nc, 0) q m := e
    rcases ho n h1' with z | ⟨z1, z2⟩
    · rcases ho m h2' with y | ⟨y1, y2⟩
      · rw [z, y]
      · rw [z, hA m y2, show c_new a (3, S.nc, 0) q (3, S.nc, 0) = q from if_pos rfl] at e'
        exact absurd e'.symm (hm_ne0 (H.1 m y1) hq)
    · rcases ho m h2' with y | ⟨y1, y2⟩
      · rw [y, hA n z2, show c_new a (3, S.nc, 0) q (3, S.nc, 0) = q from if_pos rfl] at e'
        exact absurd e' (hm_ne0 (H.1 n z1) hq)
      · rw [hA n z2, hA m y2] at e'
        exact H.2.1 n m z1 y1 e'
  · show a.g s i = some (c_new a (3, S.nc, 0) q (1, s, i))
    rw [hA _ (by simp)]
    exact H.g h1' h2'
  · show va_up a.cn S.nc (some q) j = some (c_new a (3, S.nc, 0) q (3, j, 0))
    by_cases e : j = S.nc
    · subst e
      simp [va_up, c_new]
    · rw [hA _ (fun z => e (congrArg (fun n : cX => n.2.1) z))]
      simp only [va_up, if_neg e]
      exact H.cn (by omega)
  · rw [hm] at h3'
    rw [hn]
    exact H.2.2.2.2 s i t h1' h2' h3'
/-- the rows of the shelves stand in another order -/
def c_sw (a : cA) (p0 p1 p2 : Nat → Nat) : cX → Nat := fun n => match n with
  | (1, s, i) => a.A (1, s, o_pp p0 p1 p2 s i)
  | n => a.A n
theorem cs.sweep (H : cs k f a S) {k0 k1 k2 : Nat} {p0 p1 p2 : Nat → Nat} (z0 : z_pm 16 p0) (z1 : z_pm 24 p1) (z2 : z_pm 24 p2)
    (g4 : f1 (aF a 4) = some (.inr (4, [.ref (aF a 14), .int (nI k0)]))) (g5 : f1 (aF a 5) = some (.inr (4, [.ref (aF a 15), .int (nI k1)]))) (g6 : f1 (aF a 6) = some (.inr (4, [.ref (aF a 16), .int (nI k2)])))
    (g14 : f1 (aF a 14) = some (.inl (k 3, 16, .inr (.inr (.inr (.inr (fun i => a.g 0 (p0 i)))))))) (g15 : f1 (aF a 15) = some (.inl (k 3, 24, .inr (.inr (.inr (.inr (fun i => a.g 1 (p1 i)))))))) (g16 : f1 (aF a 16) = some (.inl (k 3, 24, .inr (.inr (.inr (.inr (fun i => a.g 2 (p2 i))))))))
    (hfr : ∀ (q : Nat) (x : va_E), (∀ n, n ∈ [((0, 4, 0) : cX), (0, 5, 0), (0, 6, 0), (0, 14, 0), (0, 15, 0), (0, 16, 0)] → c_ok S n → q ≠ a.A n) → f q = some x → f1 q = some x) :
    cs k f1 (cAm (c_sw a p0 p1 p2) (fun s i => a.g s (o_pp p0 p1 p2 s i)) a.cn) (cSm S.u S.nc S.cl (o_pk k0 k1 k2) (fun s i => S.w s (o_pp p0 p1 p2 s i)) (fun s i => S.fm s (o_pp p0 p1 p2 s i)) S.nf S.fa S.tn S.tx S.rd S.rs S.ra S.ky) := by
  have hp : ∀ s i, s < 3 → i < gs_N s → o_pp p0 p1 p2 s i < gs_N s := by
    intro s i hs hi
    match s, hs, hi with
    | 0, _, hi => exact z0.1 i hi
    | 1, _, hi => exact z1.1 i hi
    | 2, _, hi => exact z2.1 i hi
  have hpi : ∀ s i j, s < 3 → i < gs_N s → j < gs_N s → o_pp p0 p1 p2 s i = o_pp p0 p1 p2 s j → i = j := by
    intro s i j hs hi hj
    match s, hs, hi, hj with
    | 0, _, hi, hj => exact z0.2 i j hi hj
    | 1, _, hi, hj => exact z1.2 i j hi hj
    | 2, _, hi, hj => exact z2.2 i j hi hj
  have fr : ∀ n, c_ok S n → ¬ n ∈ [((0, 4, 0) : cX), (0, 5, 0), (0, 6, 0), (0, 14, 0), (0, 15, 0), (0, 16, 0)] → f1 (a.A n) = some (c_ct k a S n) := fun n hn hl => hfr _ _ (fun m hm hm' e => hl (by rw [H.2.1 n m hn hm' e]; exact hm)) (H.1 n hn)
  refine ⟨fun n hn => ?_, fun n m hn hm e => ?_, fun s i hs hi => H.g hs (hp s i hs hi), fun j hj => H.cn hj, fun s i t hs hi h => H.2.2.2.2 s _ t hs (hp s i hs hi) h⟩
  · match n, hn with
    | (0, i, e0), hn =>
      have he : e0 = 0 := hn.2
      subst he
      rcases c_ixs hn.1 with r | r | r | r | r | r | r | r | r | r | r | r | r | r | r | r | r | r <;> subst r <;> first | exact g4 | exact g5 | exact g6 | exact g14 | exact g15 | exact g16 | exact fr _ ⟨rfl, rfl⟩ (by simp)
    | (1, s, i), hn => exact fr (1, s, o_pp p0 p1 p2 s i) ⟨hn.1, hp s i hn.1 hn.2⟩ (by simp)
    | (2, t, e0), hn => exact fr (2, t, e0) hn (by simp)
    | (d + 3, j, e0), hn => exact fr (d + 3, j, e0) hn (by simp)
  · match n, m, hn, hm, e with
    | (0, i, e0), (0, j, e1), hn, hm, e => exact H.2.1 _ _ hn hm e
    | (0, i, e0), (1, s, j), hn, hm, e => exact absurd (H.2.1 (0, i, e0) (1, s, _) hn ⟨hm.1, hp s j hm.1 hm.2⟩ e) (by simp)
    | (0, i, e0), (2, t, e1), hn, hm, e => exact H.2.1 _ _ hn hm e
    | (0, i, e0), (d + 3, t, e1), hn, hm, e => exact H.2.1 _ _ hn hm e
    | (1, s, i), (0, j, e1), hn, hm, e => exact absurd (H.2.1 (1, s, _) (0, j, e1) ⟨hn.1, hp s i hn.1 hn.2⟩ hm e) (by simp)
    | (1, s, i), (1, s', j), hn, hm, e =>
      have z := H.2.1 (1, s, _) (1, s', _) ⟨hn.1, hp s i hn.1 hn.2⟩ ⟨hm.1, hp s' j hm.1 hm.2⟩ e
      have z3 : s = s' := congrArg (fun n : cX => n.2.1) z
      subst z3
      have z4 : o_pp p0 p1 p2 s i = o_pp p0 p1 p2 s j := congrArg (fun n : cX => n.2.2) z
      rw [hpi s i j hn.1 hn.2 hm.2 z4]
    | (1, s, i), (2, t, e1), hn, hm, e => exact absurd (H.2.1 (1, s, _) (2, t, e1) ⟨hn.1, hp s i hn.1 hn.2⟩ hm e) (by simp)
    | (1, s, i), (d + 3, t, e1), hn, hm, e => exact absurd (H.2.1 (1, s, _) (d + 3, t, e1) ⟨hn.1, hp s i hn.1 hn.2⟩ hm e) (by simp)
    | (2, t, e0), (0, j, e1), hn, hm, e => exact H.2.1 _ _ hn hm e
    | (2, t, e0), (1, s, j), hn, hm, e => exact absurd (H.2.1 (2, t, e0) (1, s, _) hn ⟨hm.1, hp s j hm.1 hm.2⟩ e) (by simp)
    | (2, t, e0), (2, t', e1), hn, hm, e => exact H.2.1 _ _ hn hm e
    | (2, t, e0), (d + 3, t', e1), hn, hm, e => exact H.2.1 _ _ hn hm e
    | (d + 3, t, e0), (0, j, e1), hn, hm, e => exact H.2.1 _ _ hn hm e
    | (d + 3, t, e0), (1, s, j), hn, hm, e => exact absurd (H.2.1 (d + 3, t, e0) (1, s, _) hn ⟨hm.1, hp s j hm.1 hm.2⟩ e) (by simp)
    | (d + 3, t, e0), (2, t', e1), hn, hm, e => exact H.2.1 _ _ hn hm e
    | (d + 3, t, e0), (d' + 3, t', e1), hn, hm, e => exact H.2.1 _ _ hn hm e
end CS
