/-! Answers of the large methods, and the claims' text. -/
def a_auth (r1 s1 red sc ch fr fu : Int32) : Int32 := if ch < 0 ∨ 1073741823 < ch then -1 else if ¬ r1 = red then -13 else if sc < 1 ∨ 15 < sc ∨ z_within sc s1 = 0 then -4 else if fr = 0 then -5 else if fu = 1 then -6 else 0
def a_ex (en now r1 red ch1 ch fr f1 f2 : Int32) : Int32 := if en ≤ now ∨ ¬ r1 = red ∨ ¬ ch1 = ch then -3 else if fr = 0 then -5 else if f1 = 1 ∨ f2 = 1 then -6 else 0
def a_rf (act sc fsc fr f1 f2 : Int32) : Int32 := if act = 0 then -3 else if sc < 0 ∨ 15 < sc ∨ z_within sc fsc = 0 then -4 else if fr = 0 then -5 else if f1 = 1 ∨ f2 = 1 then -6 else 0
theorem z_wi_1 {x y : Int32} (h : x &&& (y ^^^ (-1)) = 0) : z_within x y = 1 := if_pos h
theorem z_wi_0 {x y : Int32} (h : ¬ x &&& (y ^^^ (-1)) = 0) : z_within x y = 0 := if_neg h
def m_fu (x : Int32) : Int32 := if x < 0 then 1 else 0
theorem m_fu_1 {x : Int32} (h : x < 0) : m_fu x = 1 := if_pos h
theorem m_fu_0 {x : Int32} (h : ¬ x < 0) : m_fu x = 0 := if_neg h
def z_tot (K : Nat → Nat) : Nat := 7 + (K 0 + 1) + 7 + (K 1 + 1) + 7 + (K 2 + 1) + 7 + (K 3 + 1) + 9 + (K 4 + 1) + 1
def z_pre (y : Nat → Int32) (n : Nat) (F : Nat → Nat) : Prop := ∀ e, e < n → y e = nI (F e)
theorem z_pre_s {y y' : Nat → Int32} {n m : Nat} {F S : Nat → Nat} (h : z_pre y n F) (h1 : ∀ e, e < n → y' e = y e) (h2 : ∀ e, e < m → y' (n + e) = nI (S e)) (h3 : ∀ e, e < m → F (n + e) = S e) : z_pre y' (n + m) F := by
  intro e he
  by_cases q : e < n
  · rw [h1 e q]; exact h e q
  · have z := h2 (e - n) (by omega)
    have z3 := h3 (e - n) (by omega)
    rw [show n + (e - n) = e by omega] at z z3
    rw [z, z3]
theorem z_pre_0 {y : Nat → Int32} {F : Nat → Nat} : z_pre y 0 F := fun e h => absurd h (Nat.not_lt_zero _)
def z_ct (vl K : Nat → Nat) : Nat → Nat := fun e => if e < 7 then st_chr 0 (e - (0)) else if e < 7 + (K 0 + 1) then z_d (vl 0) (K 0) (e - (7)) else if e < 7 + (K 0 + 1) + 7 then st_chr 1 (e - (7 + (K 0 + 1))) else if e < 7 + (K 0 + 1) + 7 + (K 1 + 1) then z_d (vl 1) (K 1) (e - (7 + (K 0 + 1) + 7)) else if e < 7 + (K 0 + 1) + 7 + (K 1 + 1) + 7 then st_chr 2 (e - (7 + (K 0 + 1) + 7 + (K 1 + 1))) else if e < 7 + (K 0 + 1) + 7 + (K 1 + 1) + 7 + (K 2 + 1) then z_d (vl 2) (K 2) (e - (7 + (K 0 + 1) + 7 + (K 1 + 1) + 7)) else if e < 7 + (K 0 + 1) + 7 + (K 1 + 1) + 7 + (K 2 + 1) + 7 then st_chr 3 (e - (7 + (K 0 + 1) + 7 + (K 1 + 1) + 7 + (K 2 + 1))) else if e < 7 + (K 0 + 1) + 7 + (K 1 + 1) + 7 + (K 2 + 1) + 7 + (K 3 + 1) then z_d (vl 3) (K 3) (e - (7 + (K 0 + 1) + 7 + (K 1 + 1) + 7 + (K 2 + 1) + 7)) else if e < 7 + (K 0 + 1) + 7 + (K 1 + 1) + 7 + (K 2 + 1) + 7 + (K 3 + 1) + 9 then st_chr 4 (e - (7 + (K 0 + 1) + 7 + (K 1 + 1) + 7 + (K 2 + 1) + 7 + (K 3 + 1))) else if e < 7 + (K 0 + 1) + 7 + (K 1 + 1) + 7 + (K 2 + 1) + 7 + (K 3 + 1) + 9 + (K 4 + 1) then z_d (vl 4) (K 4) (e - (7 + (K 0 + 1) + 7 + (K 1 + 1) + 7 + (K 2 + 1) + 7 + (K 3 + 1) + 9)) else st_chr 5 (e - (7 + (K 0 + 1) + 7 + (K 1 + 1) + 7 + (K 2 + 1) + 7 + (K 3 + 1) + 9 + (K 4 + 1)))
theorem z_ct_0 (vl K : Nat → Nat) : ∀ e, e < 7 → z_ct vl K (0 + e) = st_chr 0 e := by
  intro e he
  unfold z_ct
  rw [if_pos (by omega), show 0 + e - (0) = e by omega]
theorem z_ct_1 (vl K : Nat → Nat) : ∀ e, e < (K 0 + 1) → z_ct vl K (7 + e) = z_d (vl 0) (K 0) e := by
  intro e he
  unfold z_ct
  rw [if_neg (by omega), if_pos (by omega), show 7 + e - (7) = e by omega]
theorem z_ct_2 (vl K : Nat → Nat) : ∀ e, e < 7 → z_ct vl K (7 + (K 0 + 1) + e) = st_chr 1 e := by
  intro e he
  unfold z_ct
  rw [if_neg (by omega), if_neg (by omega), if_pos (by omega), show 7 + (K 0 + 1) + e - (7 + (K 0 + 1)) = e by omega]
theorem z_ct_3 (vl K : Nat → Nat) : ∀ e, e < (K 1 + 1) → z_ct vl K (7 + (K 0 + 1) + 7 + e) = z_d (vl 1) (K 1) e := by
  intro e he
  unfold z_ct
  rw [if_neg (by omega), if_neg (by omega), if_neg (by omega), if_pos (by omega), show 7 + (K 0 + 1) + 7 + e - (7 + (K 0 + 1) + 7) = e by omega]
theorem z_ct_4 (vl K : Nat → Nat) : ∀ e, e < 7 → z_ct vl K (7 + (K 0 + 1) + 7 + (K 1 + 1) + e) = st_chr 2 e := by
  intro e he
  unfold z_ct
  rw [if_neg (by omega), if_neg (by omega), if_neg (by omega), if_neg (by omega), if_pos (by omega), show 7 + (K 0 + 1) + 7 + (K 1 + 1) + e - (7 + (K 0 + 1) + 7 + (K 1 + 1)) = e by omega]
theorem z_ct_5 (vl K : Nat → Nat) : ∀ e, e < (K 2 + 1) → z_ct vl K (7 + (K 0 + 1) + 7 + (K 1 + 1) + 7 + e) = z_d (vl 2) (K 2) e := by
  intro e he
  unfold z_ct
  rw [if_neg (by omega), if_neg (by omega), if_neg (by omega), if_neg (by omega), if_neg (by omega), if_pos (by omega), show 7 + (K 0 + 1) + 7 + (K 1 + 1) + 7 + e - (7 + (K 0 + 1) + 7 + (K 1 + 1) + 7) = e by omega]
theorem z_ct_6 (vl K : Nat → Nat) : ∀ e, e < 7 → z_ct vl K (7 + (K 0 + 1) + 7 + (K 1 + 1) + 7 + (K 2 + 1) + e) = st_chr 3 e := by
  intro e he
  unfold z_ct
  rw [if_neg (by omega), if_neg (by omega), if_neg (by omega), if_neg (by omega), if_neg (by omega), if_neg (by omega), if_pos (by omega), show 7 + (K 0 + 1) + 7 + (K 1 + 1) + 7 + (K 2 + 1) + e - (7 + (K 0 + 1) + 7 + (K 1 + 1) + 7 + (K 2 + 1)) = e by omega]
theorem z_ct_7 (vl K : Nat → Nat) : ∀ e, e < (K 3 + 1) → z_ct vl K (7 + (K 0 + 1) + 7 + (K 1 + 1) + 7 + (K 2 + 1) + 7 + e) = z_d (vl 3) (K 3) e := by
  intro e he
  unfold z_ct
  rw [if_neg (by omega), if_neg (by omega), if_neg (by omega), if_neg (by omega), if_neg (by omega), if_neg (by omega), if_neg (by omega), if_pos (by omega), show 7 + (K 0 + 1) + 7 + (K 1 + 1) + 7 + (K 2 + 1) + 7 + e - (7 + (K 0 + 1) + 7 + (K 1 + 1) + 7 + (K 2 + 1) + 7) = e by omega]
theorem z_ct_8 (vl K : Nat → Nat) : ∀ e, e < 9 → z_ct vl K (7 + (K 0 + 1) + 7 + (K 1 + 1) + 7 + (K 2 + 1) + 7 + (K 3 + 1) + e) = st_chr 4 e := by
  intro e he
  unfold z_ct
  rw [if_neg (by omega), if_neg (by omega), if_neg (by omega), if_neg (by omega), if_neg (by omega), if_neg (by omega), if_neg (by omega), if_neg (by omega), if_pos (by omega), show 7 + (K 0 + 1) + 7 + (K 1 + 1) + 7 + (K 2 + 1) + 7 + (K 3 + 1) + e - (7 + (K 0 + 1) + 7 + (K 1 + 1) + 7 + (K 2 + 1) + 7 + (K 3 + 1)) = e by omega]
theorem z_ct_9 (vl K : Nat → Nat) : ∀ e, e < (K 4 + 1) → z_ct vl K (7 + (K 0 + 1) + 7 + (K 1 + 1) + 7 + (K 2 + 1) + 7 + (K 3 + 1) + 9 + e) = z_d (vl 4) (K 4) e := by
  intro e he
  unfold z_ct
  rw [if_neg (by omega), if_neg (by omega), if_neg (by omega), if_neg (by omega), if_neg (by omega), if_neg (by omega), if_neg (by omega), if_neg (by omega), if_neg (by omega), if_pos (by omega), show 7 + (K 0 + 1) + 7 + (K 1 + 1) + 7 + (K 2 + 1) + 7 + (K 3 + 1) + 9 + e - (7 + (K 0 + 1) + 7 + (K 1 + 1) + 7 + (K 2 + 1) + 7 + (K 3 + 1) + 9) = e by omega]
theorem z_ct_10 (vl K : Nat → Nat) : ∀ e, e < 1 → z_ct vl K (7 + (K 0 + 1) + 7 + (K 1 + 1) + 7 + (K 2 + 1) + 7 + (K 3 + 1) + 9 + (K 4 + 1) + e) = st_chr 5 e := by
  intro e he
  unfold z_ct
  rw [if_neg (by omega), if_neg (by omega), if_neg (by omega), if_neg (by omega), if_neg (by omega), if_neg (by omega), if_neg (by omega), if_neg (by omega), if_neg (by omega), if_neg (by omega), show 7 + (K 0 + 1) + 7 + (K 1 + 1) + 7 + (K 2 + 1) + 7 + (K 3 + 1) + 9 + (K 4 + 1) + e - (7 + (K 0 + 1) + 7 + (K 1 + 1) + 7 + (K 2 + 1) + 7 + (K 3 + 1) + 9 + (K 4 + 1)) = e by omega]
theorem z_st6 : ∀ i, i < 6 → ∀ j, j < 9 → st_chr i j < 127 := by decide +kernel
theorem z_ct_lt (vl K : Nat → Nat) {e : Nat} (h : e < z_tot K) : z_ct vl K e < 127 := by
  unfold z_tot at h
  by_cases h0 : e < 7
  · have z := z_ct_0 vl K (e - (0)) (by omega)
    rw [show 0 + (e - (0)) = e by omega] at z
    rw [z]
    exact z_st6 0 (by decide) _ (by omega)
  by_cases h1 : e < 7 + (K 0 + 1)
  · have z := z_ct_1 vl K (e - (7)) (by omega)
    rw [show 7 + (e - (7)) = e by omega] at z
    rw [z]
    have := z_d_lt (vl 0) (K 0) (e - (7)); omega
  by_cases h2 : e < 7 + (K 0 + 1) + 7
  · have z := z_ct_2 vl K (e - (7 + (K 0 + 1))) (by omega)
    rw [show 7 + (K 0 + 1) + (e - (7 + (K 0 + 1))) = e by omega] at z
    rw [z]
    exact z_st6 1 (by decide) _ (by omega)
  by_cases h3 : e < 7 + (K 0 + 1) + 7 + (K 1 + 1)
  · have z := z_ct_3 vl K (e - (7 + (K 0 + 1) + 7)) (by omega)
    rw [show 7 + (K 0 + 1) + 7 + (e - (7 + (K 0 + 1) + 7)) = e by omega] at z
    rw [z]
    have := z_d_lt (vl 1) (K 1) (e - (7 + (K 0 + 1) + 7)); omega
  by_cases h4 : e < 7 + (K 0 + 1) + 7 + (K 1 + 1) + 7
  · have z := z_ct_4 vl K (e - (7 + (K 0 + 1) + 7 + (K 1 + 1))) (by omega)
    rw [show 7 + (K 0 + 1) + 7 + (K 1 + 1) + (e - (7 + (K 0 + 1) + 7 + (K 1 + 1))) = e by omega] at z
    rw [z]
    exact z_st6 2 (by decide) _ (by omega)
  by_cases h5 : e < 7 + (K 0 + 1) + 7 + (K 1 + 1) + 7 + (K 2 + 1)
  · have z := z_ct_5 vl K (e - (7 + (K 0 + 1) + 7 + (K 1 + 1) + 7)) (by omega)
    rw [show 7 + (K 0 + 1) + 7 + (K 1 + 1) + 7 + (e - (7 + (K 0 + 1) + 7 + (K 1 + 1) + 7)) = e by omega] at z
    rw [z]
    have := z_d_lt (vl 2) (K 2) (e - (7 + (K 0 + 1) + 7 + (K 1 + 1) + 7)); omega
  by_cases h6 : e < 7 + (K 0 + 1) + 7 + (K 1 + 1) + 7 + (K 2 + 1) + 7
  · have z := z_ct_6 vl K (e - (7 + (K 0 + 1) + 7 + (K 1 + 1) + 7 + (K 2 + 1))) (by omega)
    rw [show 7 + (K 0 + 1) + 7 + (K 1 + 1) + 7 + (K 2 + 1) + (e - (7 + (K 0 + 1) + 7 + (K 1 + 1) + 7 + (K 2 + 1))) = e by omega] at z
    rw [z]
    exact z_st6 3 (by decide) _ (by omega)
  by_cases h7 : e < 7 + (K 0 + 1) + 7 + (K 1 + 1) + 7 + (K 2 + 1) + 7 + (K 3 + 1)
  · have z := z_ct_7 vl K (e - (7 + (K 0 + 1) + 7 + (K 1 + 1) + 7 + (K 2 + 1) + 7)) (by omega)
    rw [show 7 + (K 0 + 1) + 7 + (K 1 + 1) + 7 + (K 2 + 1) + 7 + (e - (7 + (K 0 + 1) + 7 + (K 1 + 1) + 7 + (K 2 + 1) + 7)) = e by omega] at z
    rw [z]
    have := z_d_lt (vl 3) (K 3) (e - (7 + (K 0 + 1) + 7 + (K 1 + 1) + 7 + (K 2 + 1) + 7)); omega
  by_cases h8 : e < 7 + (K 0 + 1) + 7 + (K 1 + 1) + 7 + (K 2 + 1) + 7 + (K 3 + 1) + 9
  · have z := z_ct_8 vl K (e - (7 + (K 0 + 1) + 7 + (K 1 + 1) + 7 + (K 2 + 1) + 7 + (K 3 + 1))) (by omega)
    rw [show 7 + (K 0 + 1) + 7 + (K 1 + 1) + 7 + (K 2 + 1) + 7 + (K 3 + 1) + (e - (7 + (K 0 + 1) + 7 + (K 1 + 1) + 7 + (K 2 + 1) + 7 + (K 3 + 1))) = e by omega] at z
    rw [z]
    exact z_st6 4 (by decide) _ (by omega)
  by_cases h9 : e < 7 + (K 0 + 1) + 7 + (K 1 + 1) + 7 + (K 2 + 1) + 7 + (K 3 + 1) + 9 + (K 4 + 1)
  · have z := z_ct_9 vl K (e - (7 + (K 0 + 1) + 7 + (K 1 + 1) + 7 + (K 2 + 1) + 7 + (K 3 + 1) + 9)) (by omega)
    rw [show 7 + (K 0 + 1) + 7 + (K 1 + 1) + 7 + (K 2 + 1) + 7 + (K 3 + 1) + 9 + (e - (7 + (K 0 + 1) + 7 + (K 1 + 1) + 7 + (K 2 + 1) + 7 + (K 3 + 1) + 9)) = e by omega] at z
    rw [z]
    have := z_d_lt (vl 4) (K 4) (e - (7 + (K 0 + 1) + 7 + (K 1 + 1) + 7 + (K 2 + 1) + 7 + (K 3 + 1) + 9)); omega
  have z := z_ct_10 vl K (e - (7 + (K 0 + 1) + 7 + (K 1 + 1) + 7 + (K 2 + 1) + 7 + (K 3 + 1) + 9 + (K 4 + 1))) (by omega)
  rw [show 7 + (K 0 + 1) + 7 + (K 1 + 1) + 7 + (K 2 + 1) + 7 + (K 3 + 1) + 9 + (K 4 + 1) + (e - (7 + (K 0 + 1) + 7 + (K 1 + 1) + 7 + (K 2 + 1) + 7 + (K 3 + 1) + 9 + (K 4 + 1))) = e by omega] at z
  rw [z]
  exact z_st6 5 (by decide) _ (by omega)
theorem z_pre_2 {y y' : Nat → Int32} {n A m : Nat} {F S D : Nat → Nat} (h : z_pre y n F) (ra : ∀ e, e < n → y' e = y e) (rb : ∀ e, e < A → y' (n + e) = nI (S e)) (hS : ∀ e, e < A → F (n + e) = S e) (rc : ∀ e, e < m → y' (n + A + e) = nI (D e)) (hD : ∀ e, e < m → F (n + A + e) = D e) : z_pre y' (n + A + m) F :=
  z_pre_s (z_pre_s h ra rb hS) (fun _ _ => rfl) rc hD
def m_put (c : Nat → Nat → Int32) (j : Nat) (a b d g y : Int32) : Nat → Nat → Int32 := va_up (va_up (va_up (va_up (va_up (va_up c 10 (upd (c 10) j a)) 11 (upd (c 11) j b)) 12 (upd (c 12) j d)) 13 (upd (c 13) j g)) 14 (upd (c 14) j 0)) 15 (upd (c 15) j y)
theorem m_findF_in {g : Nat → Int32} {y : Int32} : ∀ {t a : Nat}, ¬ m_findF g y t a < 0 → ∃ j, (a ≤ j ∧ j < a + t) ∧ m_findF g y t a = nI j := by
  intro t
  induction t with
  | zero => intro a h; exact absurd (show (-1 : Int32) < 0 by decide) h
  | succ t ih =>
    intro a h
    unfold m_findF at h ⊢
    split
    · exact ⟨a, ⟨Nat.le_refl _, by omega⟩, rfl⟩
    · rename_i h9
      rw [if_neg h9] at h
      obtain ⟨j, hj, e⟩ := ih h
      exact ⟨j, ⟨by omega, by omega⟩, e⟩
/-- no active access token has the number y -/
def m_dead (v : Nat → Int32) (c : Nat → Nat → Int32) (y : Int32) : Int32 := if m_findF (c 10) y 24 40 < 0 then 1 else if m_act v c (m_findF (c 10) y 24 40).toNatClampNeg = 0 then 1 else 0
theorem m_dead_n {v : Nat → Int32} {c : Nat → Nat → Int32} {y : Int32} (h : m_findF (c 10) y 24 40 < 0) : m_dead v c y = 1 := if_pos h
theorem m_dead_a {v : Nat → Int32} {c : Nat → Nat → Int32} {y : Int32} {j : Nat} (h : m_findF (c 10) y 24 40 = nI j) (hj : j < 64) (ha : ¬ m_act v c j = 0) : m_dead v c y = 0 := by
  unfold m_dead
  rw [h, if_neg (nI_pos (by omega)), nI_clamp (by omega), if_neg ha]
theorem m_dead_b {v : Nat → Int32} {c : Nat → Nat → Int32} {y : Int32} {j : Nat} (h : m_findF (c 10) y 24 40 = nI j) (hj : j < 64) (ha : m_act v c j = 0) : m_dead v c y = 1 := by
  unfold m_dead
  rw [h, if_neg (nI_pos (by omega)), nI_clamp (by omega), if_pos ha]
def a_ck (cl : Nat → Int32) (now dead au sc : Int32) : Int32 := if cl 2 ≤ now then -10 else if dead = 1 then -11 else if ¬ cl 1 = au then -12 else if z_within (sc &&& 15) (cl 4) = 0 then -4 else cl 0
