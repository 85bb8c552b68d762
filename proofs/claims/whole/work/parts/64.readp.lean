/-! Pure words of the reading of claims. -/
theorem z_at_eq {n q : Nat} {x : Nat → Int32} {y : Int32} (hy : ¬ y < 0) (hn : n < 2 ^ 31) (hq : q < 2 ^ 31) : z_at n x (nI q) = y ↔ (q < n ∧ x q = y) := by
  by_cases h : q < n
  · rw [z_at_in h hn]
    exact ⟨fun z => ⟨h, z⟩, fun z => z.2⟩
  · have h1 : z_at n x (nI q) = -1 := by
      unfold z_at
      rw [if_pos (Or.inr (nI_le (by omega) hq))]
    rw [h1]
    constructor
    · intro z
      exact absurd (by rw [← z]; decide) hy
    · intro z
      exact absurd z.1 h
def z_skF (n : Nat) (x : Nat → Int32) : Nat → Nat → Nat
  | 0, p => p
  | t + 1, p => if p < n ∧ x p = 32 then z_skF n x t (p + 1) else p
/-- behind the spaces from p on -/
def z_sk (n : Nat) (x : Nat → Int32) (p : Nat) : Nat := z_skF n x (n - p) p
theorem z_sk_y {n p : Nat} {x : Nat → Int32} (h : p < n) (h2 : x p = 32) : z_sk n x p = z_sk n x (p + 1) := by
  unfold z_sk
  rw [show n - p = (n - (p + 1)) + 1 by omega]
  show (if p < n ∧ x p = 32 then z_skF n x (n - (p + 1)) (p + 1) else p) = _
  rw [if_pos ⟨h, h2⟩]
theorem z_sk_n {n p : Nat} {x : Nat → Int32} (h : ¬ (p < n ∧ x p = 32)) : z_sk n x p = p := by
  unfold z_sk
  cases n - p with
  | zero => rfl
  | succ t => show (if p < n ∧ x p = 32 then _ else p) = p; rw [if_neg h]
theorem z_sk_ind {n : Nat} {x : Nat → Int32} : ∀ (t p : Nat), n - p = t → p ≤ n → p ≤ z_sk n x p ∧ z_sk n x p ≤ n ∧ ¬ (z_sk n x p < n ∧ x (z_sk n x p) = 32) := by
  intro t
  induction t with
  | zero =>
    intro p h hp
    rw [z_sk_n (by omega)]
    omega
  | succ t ih =>
    intro p h hp
    by_cases q : p < n ∧ x p = 32
    · rw [z_sk_y q.1 q.2]
      have z := ih (p + 1) (by omega) (by omega)
      exact ⟨by omega, z.2⟩
    · rw [z_sk_n q]
      exact ⟨Nat.le_refl _, hp, q⟩
theorem z_sk_le {n p : Nat} {x : Nat → Int32} (h : p ≤ n) : p ≤ z_sk n x p ∧ z_sk n x p ≤ n := ⟨(z_sk_ind _ p rfl h).1, (z_sk_ind _ p rfl h).2.1⟩
theorem z_sk_idem {n p : Nat} {x : Nat → Int32} (h : p ≤ n) : z_sk n x (z_sk n x p) = z_sk n x p := z_sk_n (z_sk_ind _ p rfl h).2.2
/-- a mark with the spaces around it -/
def z_mk (n : Nat) (x : Nat → Int32) (p : Nat) (y : Int32) : Option Nat := if z_sk n x p < n ∧ x (z_sk n x p) = y then some (z_sk n x (z_sk n x p + 1)) else none
def z_mkA (n : Nat) (x : Nat → Int32) (p : Nat) (y : Int32) : Nat := if z_sk n x p < n ∧ x (z_sk n x p) = y then z_sk n x (z_sk n x p + 1) else z_sk n x p
def z_b {α : Type} (o : Option α) : Int32 := match o with | none => 0 | some _ => 1
theorem z_b_some {α : Type} {o : Option α} (h : ¬ z_b o = 0) : ∃ a, o = some a := by
  cases o with
  | none => exact absurd rfl h
  | some a => exact ⟨a, rfl⟩
theorem z_b_none {α : Type} {o : Option α} (h : z_b o = 0) : o = none := by
  cases o with
  | none => rfl
  | some a => exact absurd (show (1 : Int32) = 0 from h) (by decide)
theorem z_mk_A {n p q : Nat} {x : Nat → Int32} {y : Int32} (h : z_mk n x p y = some q) : z_mkA n x p y = q := by
  unfold z_mk at h
  unfold z_mkA
  split at h
  · rw [if_pos (by assumption)]
    exact Option.some.inj h
  · cases h
theorem z_mk_le {n p q : Nat} {x : Nat → Int32} {y : Int32} (hp : p ≤ n) (h : z_mk n x p y = some q) : q ≤ n ∧ p < q := by
  have h1 := z_sk_le (x := x) hp
  unfold z_mk at h
  split at h
  · rename_i h9
    have h2 := z_sk_le (x := x) (show z_sk n x p + 1 ≤ n by omega)
    rw [Option.some.inj h] at h2
    omega
  · cases h
theorem z_mkA_le {n p : Nat} {x : Nat → Int32} {y : Int32} (hp : p ≤ n) : z_mkA n x p y ≤ n := by
  have h1 := z_sk_le (x := x) hp
  unfold z_mkA
  split
  · rename_i h9
    exact (z_sk_le (x := x) (show z_sk n x p + 1 ≤ n by omega)).2
  · exact h1.2
def z_stF (n : Nat) (x : Nat → Int32) (p i : Nat) : Nat → Nat → Bool
  | 0, _ => true
  | t + 1, j => if p + j < n ∧ x (p + j) = nI (st_chr i j) then z_stF n x p i t (j + 1) else false
/-- the constant i stands at p -/
def z_st (n : Nat) (x : Nat → Int32) (p i : Nat) : Bool := z_stF n x p i (st_len.getD i 0) 0
theorem z_stF_all {n p i : Nat} {x : Nat → Int32} : ∀ {t j : Nat}, z_stF n x p i t j = true ↔ ∀ e, e < t → p + (j + e) < n ∧ x (p + (j + e)) = nI (st_chr i (j + e)) := by
  intro t
  induction t with
  | zero => intro j; exact ⟨fun _ e h => absurd h (Nat.not_lt_zero _), fun _ => rfl⟩
  | succ t ih =>
    intro j
    show (if p + j < n ∧ x (p + j) = nI (st_chr i j) then z_stF n x p i t (j + 1) else false) = true ↔ _
    by_cases h : p + j < n ∧ x (p + j) = nI (st_chr i j)
    · rw [if_pos h, ih]
      constructor
      · intro z e he
        by_cases q : e = 0
        · subst q; exact h
        · have z2 := z (e - 1) (by omega)
          rw [show j + 1 + (e - 1) = j + e by omega] at z2
          exact z2
      · intro z e he
        have z2 := z (e + 1) (by omega)
        rw [show j + (e + 1) = j + 1 + e by omega] at z2
        exact z2
    · rw [if_neg h]
      constructor
      · intro z; cases z
      · intro z; exact absurd (z 0 (by omega)) h
theorem z_st_all {n p i : Nat} {x : Nat → Int32} : z_st n x p i = true ↔ ∀ e, e < st_len.getD i 0 → p + e < n ∧ x (p + e) = nI (st_chr i e) := by
  unfold z_st
  rw [z_stF_all]
  simp only [Nat.zero_add]
def z_bb (b : Bool) : Int32 := if b = true then 1 else 0
def z_nmF (n : Nat) (x : Nat → Int32) (p : Nat) : Nat → Nat → Option Nat
  | 0, _ => none
  | t + 1, j => if z_st n x p (7 + j) = true then some j else z_nmF n x p t (j + 1)
/-- the name that stands at p -/
def z_nm (n : Nat) (x : Nat → Int32) (p : Nat) : Option Nat := z_nmF n x p 5 0
def z_ni (o : Option Nat) : Int32 := match o with | none => -1 | some j => nI j
def z_nl (o : Option Nat) : Nat := match o with | none => 0 | some j => st_len.getD (7 + j) 0
theorem z_nmF_some {n p : Nat} {x : Nat → Int32} : ∀ {t j i : Nat}, z_nmF n x p t j = some i → i < j + t ∧ z_st n x p (7 + i) = true := by
  intro t
  induction t with
  | zero => intro j i h; cases h
  | succ t ih =>
    intro j i h
    unfold z_nmF at h
    split at h
    · cases h
      exact ⟨by omega, by assumption⟩
    · have z := ih h
      exact ⟨by omega, z.2⟩
theorem st_l7 : ∀ j, j < 5 → 5 ≤ st_len.getD (7 + j) 0 ∧ st_len.getD (7 + j) 0 ≤ 7 := by decide
theorem z_nm_some {n p i : Nat} {x : Nat → Int32} (h : z_nm n x p = some i) : i < 5 ∧ z_st n x p (7 + i) = true ∧ p + st_len.getD (7 + i) 0 ≤ n := by
  obtain ⟨h1, h2⟩ := z_nmF_some h
  have h3 := st_l7 i (by omega)
  have h4 := (z_st_all.mp h2 (st_len.getD (7 + i) 0 - 1) (by omega)).1
  exact ⟨by omega, h2, by omega⟩
theorem z_ni_neg {o : Option Nat} (h : z_ni o < 0) (hb : ∀ j, o = some j → j < 5) : o = none := by
  cases o with
  | none => rfl
  | some j => exact absurd h (nI_pos (by have := hb j rfl; omega))
theorem z_ni_pos {o : Option Nat} (h : ¬ z_ni o < 0) : ∃ j, o = some j := by
  cases o with
  | none => exact absurd (by decide) h
  | some j => exact ⟨j, rfl⟩
def z_dig (x : Int32) : Int32 := if x < 48 ∨ 57 < x then 0 else 1
def z_num (n : Nat) (x : Nat → Int32) : Nat → Nat → Int32 → Nat × Int32
  | 0, p, v => (p, v)
  | t + 1, p, v => if p < n ∧ ¬ x p < 48 ∧ ¬ 57 < x p then z_num n x t (p + 1) (v * 10 + x p - 48) else (p, v)
def z_nr (n : Nat) (x : Nat → Int32) (p : Nat) : Int32 := if p < n ∧ x p = 48 then 0 else if (z_num n x 9 p 0).1 = p then -1 else (z_num n x 9 p 0).2
def z_na (n : Nat) (x : Nat → Int32) (p : Nat) : Nat := if p < n ∧ x p = 48 then p + 1 else (z_num n x 9 p 0).1
theorem z_dig_at {n q : Nat} {x : Nat → Int32} (hn : n < 2 ^ 31) (hq : q < 2 ^ 31) : ¬ z_dig (z_at n x (nI q)) = 0 ↔ (q < n ∧ ¬ x q < 48 ∧ ¬ 57 < x q) := by
  by_cases h : q < n
  · rw [z_at_in h hn]
    unfold z_dig
    by_cases z : x q < 48 ∨ 57 < x q
    · rw [if_pos z]
      constructor
      · intro w; exact absurd rfl w
      · intro w; exact absurd z (fun y => y.elim w.2.1 w.2.2)
    · rw [if_neg z]
      constructor
      · intro _; exact ⟨h, fun y => z (Or.inl y), fun y => z (Or.inr y)⟩
      · intro _; decide
  · have h1 : z_at n x (nI q) = -1 := by
      unfold z_at
      rw [if_pos (Or.inr (nI_le (by omega) hq))]
    rw [h1]
    constructor
    · intro w; exact absurd (by decide) w
    · intro w; exact absurd w.1 h
theorem z_num_le {n : Nat} {x : Nat → Int32} : ∀ {t p : Nat} {v : Int32}, p ≤ n → p ≤ (z_num n x t p v).1 ∧ (z_num n x t p v).1 ≤ n := by
  intro t
  induction t with
  | zero => intro p v h; exact ⟨Nat.le_refl _, h⟩
  | succ t ih =>
    intro p v h
    unfold z_num
    split
    · rename_i h9
      have z := ih (p := p + 1) (v := v * 10 + x p - 48) (by omega)
      exact ⟨by omega, z.2⟩
    · exact ⟨Nat.le_refl _, h⟩
theorem z_na_le {n p : Nat} {x : Nat → Int32} (h : p ≤ n) : z_na n x p ≤ n := by
  unfold z_na
  split
  · omega
  · exact (z_num_le h).2
/-- a member: where it ends, which names were seen, their values -/
def z_mem (n : Nat) (x : Nat → Int32) (p : Nat) (rs rd : Nat → Int32) : Option (Nat × (Nat → Int32) × (Nat → Int32)) :=
  match z_nm n x p with
  | none => none
  | some j => if ¬ rs j = 0 then none else match z_mk n x (p + st_len.getD (7 + j) 0) 58 with
    | none => none
    | some p2 => if z_nr n x p2 < 0 then none else some (z_na n x p2, upd rs j 1, upd rd j (z_nr n x p2))
def z_run (n : Nat) (x : Nat → Int32) : Nat → Nat → Nat → (Nat → Int32) → (Nat → Int32) → Option (Nat × (Nat → Int32) × (Nat → Int32))
  | 0, _, p, rs, rd => some (p, rs, rd)
  | t + 1, i, p, rs, rd => match z_mk n x p (if i = 0 then 123 else 44) with
    | none => none
    | some p1 => match z_mem n x p1 rs rd with
      | none => none
      | some z => z_run n x t (i + 1) z.1 z.2.1 z.2.2
def z_clr (rs : Nat → Int32) (j : Nat) : Nat → Int32 := fun i => if i < j then 0 else rs i
theorem z_clr_0 (rs : Nat → Int32) : z_clr rs 0 = rs := by funext i; simp [z_clr]
theorem z_clr_1 (rs : Nat → Int32) (j : Nat) : upd (z_clr rs j) j 0 = z_clr rs (j + 1) := by
  funext i
  by_cases h : i = j
  · simp [upd, z_clr, h]
  · have h3 : i < j + 1 ↔ i < j := by omega
    simp [upd, z_clr, h, h3]
/-- the claims of a text, if it is one of claims -/
def z_read (n : Nat) (x : Nat → Int32) (rs rd : Nat → Int32) : Option (Nat → Int32) :=
  match z_run n x 5 0 0 (z_clr rs 5) rd with
  | none => none
  | some z => if z_mk n x z.1 125 = some n then some z.2.2 else none
theorem z_mem_le {n p : Nat} {x rs rd : Nat → Int32} {z : Nat × (Nat → Int32) × (Nat → Int32)} (h : z_mem n x p rs rd = some z) (hp : p ≤ n) : z.1 ≤ n := by
  unfold z_mem at h
  split at h
  · cases h
  · rename_i j hj
    have h1 := z_nm_some hj
    split at h
    · cases h
    · split at h
      · cases h
      · rename_i p2 h2
        have h3 := z_mk_le h1.2.2 h2
        split at h
        · cases h
        · cases h
          exact z_na_le h3.1
theorem z_run_s {n t i p p1 : Nat} {x rs rd : Nat → Int32} {z : Nat × (Nat → Int32) × (Nat → Int32)} (h1 : z_mk n x p (if i = 0 then 123 else 44) = some p1) (h2 : z_mem n x p1 rs rd = some z) : z_run n x (t + 1) i p rs rd = z_run n x t (i + 1) z.1 z.2.1 z.2.2 := by
  simp only [z_run, h1, h2]
theorem z_run_n1 {n t i p : Nat} {x rs rd : Nat → Int32} (h1 : z_mk n x p (if i = 0 then 123 else 44) = none) : z_run n x (t + 1) i p rs rd = none := by
  simp only [z_run, h1]
theorem z_run_n2 {n t i p p1 : Nat} {x rs rd : Nat → Int32} (h1 : z_mk n x p (if i = 0 then 123 else 44) = some p1) (h2 : z_mem n x p1 rs rd = none) : z_run n x (t + 1) i p rs rd = none := by
  simp only [z_run, h1, h2]
theorem hm_sw4 {x : Int32} (h0 : ¬ x = 0) (h1 : ¬ x = 1) (h2 : ¬ x = 2) (h3 : ¬ x = 3) : x.toInt < 0 ∨ 3 < x.toInt := by
  have a0 := lv_neT (k := 0) (a := 0) h0 rfl
  have a1 := lv_neT (k := 1) (a := 1) h1 rfl
  have a2 := lv_neT (k := 2) (a := 2) h2 rfl
  have a3 := lv_neT (k := 3) (a := 3) h3 rfl
  omega
