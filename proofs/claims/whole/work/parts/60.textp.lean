/-! Pure words of texts: numbers in digits, signs' values, the form, the seal, eight bits. -/
theorem z_c16 {q : Nat} (h : q < 65536) : ((nI q).toUInt32 % 65536).toInt32 = nI q := by
  rw [pk_char, pk_tn (by omega), Nat.mod_eq_of_lt h]
theorem z_nar {q : Nat} (h : q < 65536) : vp_nar .char (nI q) = nI q := by
  have h9 := (pk_charN (q := q) h).1
  unfold vp_nar
  rw [h9]
theorem z_i8 : ∀ q, q < 128 → (nI q).toInt8.toInt32 = nI q := by decide +kernel
theorem z_enc1 : ∀ q, q < 128 → ¬ z_enc (nI q) = 0 := by decide +kernel
theorem z_sv_eq : ∀ q, q < 128 → st_fi 6 (nI q) (st_len.getD 6 0) 0 = m_sval (nI q) := by decide +kernel
/-- the sign's value as a number -/
def z_sg1 (c : Int32) : Nat := (m_sval c).toNatClampNeg
theorem z_sg1_eq : ∀ q, q < 128 → ¬ m_sval (nI q) < 0 → m_sval (nI q) = nI (z_sg1 (nI q)) ∧ z_sg1 (nI q) < 64 ∧ st_chr 6 (z_sg1 (nI q)) = q := by decide +kernel
theorem z_sg1_chr : ∀ v, v < 64 → m_sval (nI (st_chr 6 v)) = nI v ∧ st_chr 6 v < 127 ∧ 32 ≤ st_chr 6 v := by decide +kernel
def z_un (e : Nat) : Nat := [1000000000, 100000000, 10000000, 1000000, 100000, 10000, 1000, 100, 10, 1].getD e 0
theorem z_un_10 : ∀ e, e < 10 → nI (z_un e) / 10 = nI (z_un (e + 1)) := by decide +kernel
theorem z_un_p : ∀ e, e < 10 → z_un e = 10 ^ (9 - e) := by decide +kernel
theorem z_un_b : ∀ e, e < 11 → z_un e < 2 ^ 31 ∧ (0 < z_un e ↔ e < 10) := by decide +kernel
theorem z_un_1 : ∀ e, e < 10 → (nI (z_un e) = 1 ↔ e = 9) := by decide +kernel
/-- K + 1 is the number of v's digits -/
def z_dg (v K : Nat) : Prop := (10 ^ K ≤ v ∨ K = 0) ∧ v < 10 ^ (K + 1) ∧ K ≤ 8
theorem z_dg_ge {v K e : Nat} (h : z_dg v K) (he : e < 10) : (z_un e ≤ v ∨ e = 9) ↔ 9 ≤ e + K := by
  obtain ⟨h1, h2, h3⟩ := h
  rw [z_un_p e he]
  constructor
  · intro h
    rcases h with h | h
    · by_cases q : 9 ≤ e + K
      · exact q
      · have : 10 ^ (K + 1) ≤ 10 ^ (9 - e) := Nat.pow_le_pow_right (by decide) (by omega)
        omega
    · omega
  · intro h
    rcases h1 with h1 | h1
    · left
      exact Nat.le_trans (Nat.pow_le_pow_right (by decide) (by omega)) h1
    · right
      omega
theorem z_dg_ex {v : Nat} (h : v < 1000000000) : ∃ K, z_dg v K := by
  unfold z_dg
  by_cases h1 : v < 10; · exact ⟨0, Or.inr rfl, by omega, by decide⟩
  by_cases h2 : v < 100; · exact ⟨1, Or.inl (by omega), by omega, by decide⟩
  by_cases h3 : v < 1000; · exact ⟨2, Or.inl (by omega), by omega, by decide⟩
  by_cases h4 : v < 10000; · exact ⟨3, Or.inl (by omega), by omega, by decide⟩
  by_cases h5 : v < 100000; · exact ⟨4, Or.inl (by omega), by omega, by decide⟩
  by_cases h6 : v < 1000000; · exact ⟨5, Or.inl (by omega), by omega, by decide⟩
  by_cases h7 : v < 10000000; · exact ⟨6, Or.inl (by omega), by omega, by decide⟩
  by_cases h8 : v < 100000000; · exact ⟨7, Or.inl (by omega), by omega, by decide⟩
  exact ⟨8, Or.inl (by omega), by omega, by decide⟩
/-- the digit of v that comes at place j of K + 1 -/
def z_d (v K j : Nat) : Nat := 48 + v / 10 ^ (K - j) % 10
theorem z_d_lt (v K j : Nat) : z_d v K j < 58 := by
  have := Nat.mod_lt (v / 10 ^ (K - j)) (show 0 < 10 by decide)
  unfold z_d
  omega
theorem z_d_eq {v K e : Nat} (hv : v < 2 ^ 31) (he : e < 10) (h : 9 ≤ e + K) : (48 : Int32) + (nI v / nI (z_un e) - nI v / nI (z_un e) / 10 * 10) = nI (z_d v K (e + K - 9)) := by
  have hb := z_un_b e (by omega)
  have h0 : 0 < z_un e := hb.2.mpr he
  have hle : v / z_un e ≤ v := Nat.div_le_self _ _
  have e1 : nI v / nI (z_un e) = nI (v / z_un e) := pk_div hv h0 hb.1
  rw [e1]
  have e2 : nI (v / z_un e) - nI (v / z_un e) / 10 * 10 = nI (v / z_un e % 10) := pk_rem (d := 10) (by omega) (by decide) (by decide)
  rw [e2]
  have e3 : (48 : Int32) + nI (v / z_un e % 10) = nI (48 + v / z_un e % 10) := nI_add 48 _
  rw [e3, z_un_p e he]
  unfold z_d
  rw [show K - (e + K - 9) = 9 - e by omega]
/-- the form of a wrapped text -/
def z_form (n : Nat) (x : Nat → Int32) : Prop := 11 ≤ n ∧ x (n - 11) = 46 ∧ ¬ (n - 11) % 4 = 1 ∧ (∀ k, k < n → ¬ k = n - 11 → ¬ m_sval (x k) < 0) ∧ ((n - 11) % 4 = 2 → z_sg1 (x (n - 12)) % 16 = 0) ∧ ((n - 11) % 4 = 3 → z_sg1 (x (n - 12)) % 4 = 0)
def z_sealed (ky : Int64) (n : Nat) (x : Nat → Int32) : Prop := ∀ i, i < 10 → x (n - 10 + i) = nI (st_chr 6 (z_ss (z_seal ky x (n - 11)) i))
def z_eight (x : Nat → Int32) (i : Nat) : Nat := (z_sg1 (x (8 * i / 6)) * 64 + z_sg1 (x (8 * i / 6 + 1))) / 2 ^ (4 - 8 * i % 6) % 256
theorem z_eight_lt (x : Nat → Int32) (i : Nat) : z_eight x i < 256 := Nat.mod_lt _ (by decide)
theorem z_or64 {a b : Nat} (hb : b < 64) : nI (a * 64) ||| nI b = nI (a * 64 + b) := by
  have h1 : a * 2 ^ 6 ||| b = a * 2 ^ 6 + b := by rw [← Nat.shiftLeft_eq, Nat.shiftLeft_add_eq_or_of_lt hb]
  have h2 : nI (a * 64) ||| nI b = nI (a * 64 ||| b) := by
    apply Int32.toBitVec_inj.1
    show BitVec.ofNat 32 (a * 64) ||| BitVec.ofNat 32 b = BitVec.ofNat 32 (a * 64 ||| b)
    apply BitVec.eq_of_getLsbD_eq
    intro i hi
    simp [hi]
  rw [h2]
  exact congrArg nI h1
theorem z_eight_eq {a b t : Nat} (ha : a < 64) (hb : b < 64) (ht : t ≤ 4) : (((nI a <<< ((6 : Int32) &&& 31)) ||| nI b) >>> ((4 - nI t) &&& 31)) &&& 255 = nI ((a * 64 + b) / 2 ^ (4 - t) % 256) := by
  have e1 : nI a <<< ((6 : Int32) &&& 31) = nI (a * 64) := pk_shlN _ 6 (by decide) (by omega)
  have e2 : (4 : Int32) - nI t = nI (4 - t) := pk_sub (a := 4) ht
  have e4 : (a * 64 + b) / 2 ^ (4 - t) ≤ a * 64 + b := Nat.div_le_self _ _
  rw [e1, z_or64 hb, e2, pk_shrN (by omega) _ (4 - t) (s_l _ (by omega)), pk_andN (by omega) 8 (by decide)]
theorem z_last : ∀ q, q < 64 → ∀ r, r < 4 → ¬ r = 1 → (nI q &&& (((1 : Int32) <<< (nI (r * 6 % 8) &&& 31)) - 1) = 0 ↔ ((r = 2 → q % 16 = 0) ∧ (r = 3 → q % 4 = 0))) := by decide +kernel
theorem z_6mod (s : Nat) : s * 6 % 8 = s % 4 * 6 % 8 := by omega
theorem z_fill : ∀ r, r < 4 → (nI (r * 6 % 8) = 0 ↔ r = 0) := by decide +kernel
theorem z_ext {Q : Nat → Prop} {j : Nat} (h : ∀ e, e < j → Q e) (hj : Q j) : ∀ e, e < j + 1 → Q e := by
  intro e he
  by_cases q : e = j
  · rw [q]; exact hj
  · exact h e (by omega)
