theorem s_l : ∀ n, n < 32 → ((nI n &&& 31).toBitVec.smod 32).toNat = n := by decide +kernel
theorem z_or {a b : Nat} (hb : b < 256) : nI (a * 256) ||| nI b = nI (a * 256 + b) := by
  have h1 : a * 2 ^ 8 ||| b = a * 2 ^ 8 + b := by rw [← Nat.shiftLeft_eq, Nat.shiftLeft_add_eq_or_of_lt hb]
  have h2 : nI (a * 256) ||| nI b = nI (a * 256 ||| b) := by
    apply Int32.toBitVec_inj.1
    show BitVec.ofNat 32 (a * 256) ||| BitVec.ofNat 32 b = BitVec.ofNat 32 (a * 256 ||| b)
    apply BitVec.eq_of_getLsbD_eq
    intro i hi
    simp [hi]
  rw [h2]
  exact congrArg nI h1
/-- six bits of two characters -/
theorem z_six_eq {a b t : Nat} (ha : a < 256) (hb : b < 256) (ht : t ≤ 10) : (((nI a <<< ((8 : Int32) &&& 31)) ||| nI b) >>> ((10 - nI t) &&& 31)) &&& 63 = nI ((a * 256 + b) / 2 ^ (10 - t) % 64) := by
  have e1 : nI a <<< ((8 : Int32) &&& 31) = nI (a * 256) := pk_shlN _ 8 (by decide) (by omega)
  have e2 : (10 : Int32) - nI t = nI (10 - t) := pk_sub (a := 10) ht
  have e4 : (a * 256 + b) / 2 ^ (10 - t) ≤ a * 256 + b := Nat.div_le_self _ _
  rw [e1, z_or hb, e2, pk_shrN (by omega) _ (10 - t) (s_l _ (by omega)), pk_andN (by omega) 6 (by decide)]
def z_c2 (n : Nat) (ch : Nat → Nat) (j : Nat) : Nat := if j < n then ch j else 0
def z_six (n : Nat) (ch : Nat → Nat) (i : Nat) : Nat := (ch (6 * i / 8) * 256 + z_c2 n ch (6 * i / 8 + 1)) / 2 ^ (10 - 6 * i % 8) % 64
theorem z_six_lt (n : Nat) (ch : Nat → Nat) (i : Nat) : z_six n ch i < 64 := Nat.mod_lt _ (by decide)
def z_ss (z : Int64) (t : Nat) : Nat := ((z.toUInt64 >>> ((6 * (9 - nI t) : Int32).toInt64.toUInt64 &&& Int64.toUInt64 63)).toInt64).toInt32.toBitVec.toNat % 2 ^ 6
theorem z_ss_lt (z : Int64) (t : Nat) : z_ss z t < 64 := Nat.mod_lt _ (by decide)
def z_mix (z : Int64) (y : Int32) : Int64 := ((z ^^^ y.toInt64) * (-7046029254386353131)) ^^^ ((((z ^^^ y.toInt64) * (-7046029254386353131)).toUInt64 >>> ((29 : Int32).toInt64.toUInt64 &&& Int64.toUInt64 63)).toInt64)
def z_seal (z : Int64) (y : Nat → Int32) : Nat → Int64
  | 0 => z
  | j + 1 => z_mix (z_seal z y j) (y j)
theorem z_sg {n : Nat} (h : n ≤ 120) : (nI n * 8 + 5) / 6 = nI ((n * 8 + 5) / 6) := by
  have e1 : nI n * 8 = nI (n * 8) := pk_mul n 8
  have e2 : nI (n * 8) + 5 = nI (n * 8 + 5) := nI_add (n * 8) 5
  rw [e1, e2]
  exact pk_div (d := 6) (by omega) (by decide) (by decide)
theorem z_seal_congr {z : Int64} {y y' : Nat → Int32} : ∀ {j : Nat}, (∀ i, i < j → y i = y' i) → z_seal z y j = z_seal z y' j := by
  intro j
  induction j with
  | zero => intro _; rfl
  | succ j ih => intro h; show z_mix _ _ = z_mix _ _; rw [ih (fun i hi => h i (by omega)), h j (by omega)]
theorem z_chr {i j : Nat} (hi : i < 12) (hj : j < st_len.getD i 0) : vp_nar .char (nI (st_chr i j)) = nI (st_chr i j) := by
  have h9 := (pk_charN (q := st_chr i j) (by have h9 := (st_ok i hi j hj).2.1; omega)).1
  unfold vp_nar
  rw [h9]
theorem z_max0 {n : Nat} {x : Nat → Int32} {ch : Nat → Nat} {j : Nat} (hx : ∀ j, j < n → x j = nI (ch j) ∧ ch j < 256) (hj : j ≤ n) (hn : n ≤ 120) : (if (0 : Int32) < z_at n x (nI j) then z_at n x (nI j) else 0) = nI (z_c2 n ch j) := by
  by_cases h : j < n
  · rw [z_at_in h (by omega), (hx j h).1]
    have h8 := (hx j h).2
    by_cases h0 : ch j = 0
    · simp [z_c2, h, h0, nI_0]
    · have h7 : (0 : Int32) < nI (ch j) := nI_lt (a := 0) (b := ch j) (by omega) (by omega)
      rw [if_pos h7]
      simp [z_c2, h]
  · have h1 : z_at n x (nI j) = -1 := by
      unfold z_at
      rw [if_pos (Or.inr (nI_le (by omega) (by omega)))]
    rw [h1]
    simp [z_c2, h, nI_0]
theorem z_c2_lt {n : Nat} {x : Nat → Int32} {ch : Nat → Nat} (hx : ∀ j, j < n → x j = nI (ch j) ∧ ch j < 256) (j : Nat) : z_c2 n ch j < 256 := by
  unfold z_c2
  split
  · exact (hx j (by assumption)).2
  · decide
theorem z_ss_in (z : Int64) (t : Nat) : z_ss z t < st_len.getD 6 0 := z_ss_lt z t
theorem z_six_in (n : Nat) (ch : Nat → Nat) (i : Nat) : z_six n ch i < st_len.getD 6 0 := z_six_lt n ch i
