theorem o_kept (x : Int32) : z_kept x = m_kept x := by
  unfold z_kept m_kept
  by_cases h1 : x < 1
  · have h2 : x < 1000 := Int32.lt_trans h1 (by decide)
    have h3 : ¬ 1 < x := fun z => Int32.lt_irrefl (Int32.lt_trans z h1)
    simp [h1, h2, h3]
  · by_cases h2 : x < 1000
    · have h4 : ¬ 1000 < x := fun z => Int32.lt_irrefl (Int32.lt_trans z h2)
      by_cases h3 : 1 < x
      · simp [h1, h2, h3, h4]
      · have h5 : x = 1 := Int32.le_antisymm (Int32.not_lt.mp h3) (Int32.not_lt.mp h1)
        simp [h5]
    · by_cases h4 : 1000 < x
      · simp [h1, h2, h4]
      · have h5 : x = 1000 := Int32.le_antisymm (Int32.not_lt.mp h4) (Int32.not_lt.mp h2)
        simp [h5]
theorem o_kept_n (x : Int32) : ∃ a : Nat, a ≤ 1000 ∧ m_kept x = nI a := by
  unfold m_kept
  by_cases h1 : x < 1
  · exact ⟨1, by decide, if_pos h1⟩
  · rw [if_neg h1]
    by_cases h2 : 1000 < x
    · exact ⟨1000, by decide, if_pos h2⟩
    · rw [if_neg h2]
      have h3 : ¬ x < 0 := fun z => h1 (Int32.lt_trans z (by decide))
      exact nI_of2 (M := 1000) (n := 1000) rfl h3 (Int32.not_lt.mp h2)
/-- the hash as a number -/
def o_h (x : Nat → Nat) (n : Nat) : Nat → Nat
  | 0 => n
  | i + 1 => (o_h x n i * 1000003 + x i) % 2 ^ 30
theorem o_h_lt {x : Nat → Nat} {n : Nat} (hn : n < 2 ^ 30) : ∀ i, o_h x n i < 2 ^ 30
  | 0 => hn
  | i + 1 => Nat.mod_lt _ (by decide)
theorem nI_mod (a : Nat) : (nI a).toBitVec.toNat = a % 2 ^ 32 := by
  unfold nI
  simp
theorem o_zh {y : Nat → Int32} {x : Nat → Nat} {n : Nat} (hn : n < 2 ^ 30) (hx : ∀ j, j < n → y j = nI (x j) ∧ x j < 127) : ∀ i, i ≤ n → z_hash y n i = nI (o_h x n i) := by
  intro i
  induction i with
  | zero => intro _; rfl
  | succ i ih =>
    intro hi
    show (z_hash y n i * 1000003 + y i) &&& 1073741823 = nI ((o_h x n i * 1000003 + x i) % 2 ^ 30)
    rw [ih (by omega), (hx i (by omega)).1, show (1000003 : Int32) = nI 1000003 from rfl, pk_mul, nI_add, pk_and _ 30 (by decide), nI_mod]
    congr 1
    exact Nat.mod_mod_of_dvd _ (by decide)
theorem o_mh {y : Nat → Int32} {x : Nat → Nat} {n : Nat} (hn : n < 2 ^ 30) (hx : ∀ j, j < n → y j = nI (x j) ∧ x j < 127) : ∀ i, i ≤ n → m_hash y n i = Int64.ofNat (o_h x n i) := by
  intro i
  induction i with
  | zero => intro _; exact nI_l (by omega)
  | succ i ih =>
    intro hi
    show (m_hash y n i * 1000003 + (y i).toInt64) &&& 1073741823 = Int64.ofNat ((o_h x n i * 1000003 + x i) % 2 ^ 30)
    have hl := o_h_lt (x := x) hn i
    rw [ih (by omega), (hx i (by omega)).1, nI_l (by have := (hx i (by omega)).2; omega)]
    show (Int64.ofNat (o_h x n i) * Int64.ofNat 1000003 + Int64.ofNat (x i)) &&& 1073741823 = _
    rw [← Int64.ofNat_mul, ← Int64.ofNat_add]
    apply Int64.toBitVec_inj.1
    apply BitVec.eq_of_toNat_eq
    have hb := (hx i (by omega)).2
    have hq : o_h x n i * 1000003 + x i < 2 ^ 64 := by omega
    have e1 : (Int64.ofNat (o_h x n i * 1000003 + x i)).toBitVec.toNat = o_h x n i * 1000003 + x i := by
      simp
      omega
    have e2 : (Int64.ofNat ((o_h x n i * 1000003 + x i) % 2 ^ 30)).toBitVec.toNat = (o_h x n i * 1000003 + x i) % 2 ^ 30 := by
      have := Nat.mod_lt (o_h x n i * 1000003 + x i) (show 0 < 2 ^ 30 by decide)
      simp
      omega
    rw [Int64.toBitVec_and, BitVec.toNat_and, e1, e2, show (1073741823 : Int64).toBitVec.toNat = 2 ^ 30 - 1 from by decide, Nat.and_two_pow_sub_one_eq_mod]
theorem o_l32 (a : Nat) (h : a < 2 ^ 31) : (Int64.ofNat a).toInt32 = nI a := by
  unfold nI
  simp
theorem o_hash {y : Nat → Int32} {x : Nat → Nat} {n : Nat} (hn : n < 2 ^ 30) (hx : ∀ j, j < n → y j = nI (x j) ∧ x j < 127) : z_hash y n n = (m_hash y n n).toInt32 := by
  rw [o_zh hn hx n (Nat.le_refl _), o_mh hn hx n (Nat.le_refl _)]
  have hl := o_h_lt (x := x) hn n
  exact (o_l32 (o_h x n n) (by omega)).symm
