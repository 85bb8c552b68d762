/-! Pure words of the reference's texts. -/
theorem z_dg_u {v K e : Nat} (h : z_dg v K) (he : e < 10) (hge : 9 ≤ e + K) : 10 ≤ v / z_un e ↔ 9 < e + K := by
  obtain ⟨h1, h2, h3⟩ := h
  rw [z_un_p e he, Nat.le_div_iff_mul_le (Nat.pow_pos (by decide)), show 10 * 10 ^ (9 - e) = 10 ^ (9 - e + 1) by rw [Nat.pow_succ, Nat.mul_comm]]
  constructor
  · intro h
    by_cases q : 9 < e + K
    · exact q
    · rw [show 9 - e + 1 = K + 1 by omega] at h
      omega
  · intro h
    rcases h1 with h1 | h1
    · exact Nat.le_trans (Nat.pow_le_pow_right (by decide) (by omega)) h1
    · omega
theorem z_un_m : ∀ e, e < 9 → nI (z_un (e + 1)) * 10 = nI (z_un e) := by decide +kernel
def m_nm (w i : Nat) : Nat := ([[115, 117, 98], [97, 117, 100], [101, 120, 112], [106, 116, 105], [115, 99, 111, 112, 101]].getD w []).getD i 0
def m_nl (w : Nat) : Nat := [3, 3, 3, 3, 5].getD w 0
theorem m_nl_le (w : Nat) : ∀ q, q < 5 → m_nl q ≤ 5 ∧ 3 ≤ m_nl q := by decide
theorem m_nm_0 : ∀ w, w < 5 → ∀ i, i < 6 → (nI (m_nm w i) = 0 ↔ m_nl w ≤ i) := by decide +kernel
theorem m_nm_lt : ∀ w, w < 5 → ∀ i, i < 6 → m_nm w i < 128 := by decide +kernel
theorem m_nl_st : ∀ w, w < 5 → st_len.getD (7 + w) 0 = m_nl w + 2 ∧ st_len.getD w 0 = m_nl w + 4 ∧ st_chr (7 + w) 0 = 34 ∧ st_chr (7 + w) (1 + m_nl w) = 34 ∧ (∀ e, e < m_nl w → st_chr (7 + w) (1 + e) = m_nm w e) := by decide +kernel
theorem m_nl_st2 : ∀ w, w < 5 → st_chr w 0 = (if w = 0 then 123 else 44) ∧ st_chr w 1 = 34 ∧ st_chr w (2 + m_nl w) = 34 ∧ st_chr w (3 + m_nl w) = 58 ∧ (∀ e, e < m_nl w → st_chr w (2 + e) = m_nm w e) := by decide +kernel
theorem m_st_w {n p w : Nat} {x : Nat → Int32} (hw : w < 5) : z_st n x p (7 + w) = true ↔ ((p < n ∧ x p = 34) ∧ (∀ e, e < m_nl w → p + 1 + e < n ∧ x (p + 1 + e) = nI (m_nm w e)) ∧ (p + 1 + m_nl w < n ∧ x (p + 1 + m_nl w) = 34)) := by
  obtain ⟨a1, -, a2, a3, a4⟩ := m_nl_st w hw
  rw [z_st_all, a1]
  constructor
  · intro h
    refine ⟨?_, fun e he => ?_, ?_⟩
    · have z := h 0 (by omega)
      rw [a2] at z
      exact z
    · have z := h (1 + e) (by omega)
      rw [a4 e he, ← Nat.add_assoc] at z
      exact z
    · have z := h (1 + m_nl w) (by omega)
      rw [a3, ← Nat.add_assoc] at z
      exact z
  · intro ⟨h1, h2, h3⟩ e he
    by_cases e0 : e = 0
    · rw [e0, a2]
      exact h1
    · by_cases e1 : e = 1 + m_nl w
      · rw [e1, a3, ← Nat.add_assoc]
        exact h3
      · have z := h2 (e - 1) (by omega)
        have z2 := a4 (e - 1) (by omega)
        rw [show 1 + (e - 1) = e by omega] at z2
        rw [z2, show p + e = p + 1 + (e - 1) by omega]
        exact z
/-- the seal's signs, as the reference takes them -/
theorem m_sh {z : Int64} {s : Int64} {k : Nat} (hs : (s.toBitVec.smod 64).toNat = k) (hu : (s.toUInt64.toBitVec % 64).toNat = k) (hk : k ≤ 54) : ((z >>> s) &&& 63).toInt32 = (z.toUInt64 >>> s.toUInt64).toInt64.toInt32 &&& 63 := by
  apply Int32.toBitVec_inj.1
  apply BitVec.eq_of_getLsbD_eq
  intro i hi
  have e1 : (z >>> s).toBitVec = z.toBitVec.sshiftRight k := by
    rw [Int64.toBitVec_shiftRight]
    show z.toBitVec.sshiftRight ((s.toBitVec.smod 64).toNat) = _
    rw [hs]
  have e2 : (z.toUInt64 >>> s.toUInt64).toBitVec = z.toBitVec >>> k := by
    rw [UInt64.toBitVec_shiftRight]
    show z.toBitVec >>> (s.toUInt64.toBitVec % 64).toNat = _
    rw [hu]
  have e3 : ((z.toUInt64 >>> s.toUInt64).toInt64).toBitVec = z.toBitVec >>> k := e2
  have hm : (63 : Int32).toBitVec = 63#32 := rfl
  have hm2 : (63 : Int64).toBitVec = 63#64 := rfl
  by_cases h6 : i < 6
  · simp [Int64.toBitVec_toInt32, e1, e3, hm, hm2, BitVec.getElem_signExtend, BitVec.getElem_sshiftRight, BitVec.getLsbD_sshiftRight, hi, show i < 64 by omega, show k + i < 64 by omega, show ¬ 64 ≤ i by omega]
  · have : (63#32).getLsbD i = false := by
      have h7 : ∀ q, q < 32 → 6 ≤ q → (63#32).getLsbD q = false := by decide
      exact h7 i hi (by omega)
    have h64 : (63#64).getLsbD i = false := by
      have h7 : ∀ q, q < 32 → 6 ≤ q → (63#64).getLsbD q = false := by decide
      exact h7 i hi (by omega)
    simp [Int64.toBitVec_toInt32, e1, e3, hm, hm2, this, h64]
theorem m_sh_k : ∀ t, t < 10 → ((((6 * (9 - nI t) : Int32).toInt64 &&& 63).toBitVec.smod 64).toNat = 6 * (9 - t)) ∧ ((((6 * (9 - nI t) : Int32).toInt64 &&& 63).toUInt64.toBitVec % 64).toNat = 6 * (9 - t)) ∧ ((6 * (9 - nI t) : Int32).toInt64 &&& 63).toUInt64 = ((6 * (9 - nI t) : Int32).toInt64.toUInt64 &&& Int64.toUInt64 63) ∧ ((54 - 6 * nI t : Int32) = 6 * (9 - nI t)) := by decide +kernel
theorem m_ss_eq {z : Int64} {t : Nat} (ht : t < 10) : m_ss z t = nI (z_ss z t) := by
  obtain ⟨h1, h2, h3, -⟩ := m_sh_k t ht
  unfold m_ss z_ss
  rw [m_sh h1 h2 (by omega), h3, pk_and _ 6 (by decide)]
theorem m_ss_54 {z : Int64} {t : Nat} (ht : t < 10) : ((z >>> ((54 - 6 * nI t : Int32).toInt64 &&& 63)) &&& 63).toInt32 = nI (z_ss z t) := by
  rw [(m_sh_k t ht).2.2.2]
  exact m_ss_eq ht
theorem m_sign_ss {z : Int64} {t : Nat} (ht : t < 10) : m_sign (m_ss z t) = nI (st_chr 6 (z_ss z t)) := by
  rw [m_ss_eq ht, m_sign_eq _ (z_ss_lt z t)]
/-- eight bits, one by one -/
def m_b6 (x : Nat → Int32) (q : Nat) : Nat := z_sg1 (x (q / 6)) / 2 ^ (5 - q % 6) % 2
def m_e8 (x : Nat → Int32) (b : Nat) : Nat → Nat
  | 0 => 0
  | t + 1 => 2 * m_e8 x b t + m_b6 x (b + t)
theorem m_b6_eq {a t : Nat} (ha : a < 64) (ht : t ≤ 5) : (nI a >>> ((5 - nI t) &&& 31)) &&& 1 = nI (a / 2 ^ (5 - t) % 2) := by
  have e2 : (5 : Int32) - nI t = nI (5 - t) := pk_sub (a := 5) ht
  have e4 : a / 2 ^ (5 - t) ≤ a := Nat.div_le_self _ _
  rw [e2, pk_shrN (by omega) _ (5 - t) (s_l _ (by omega)), pk_andN (by omega) 1 (by decide)]
theorem m_e8_lt (x : Nat → Int32) (b : Nat) : ∀ t, m_e8 x b t < 2 ^ t := by
  intro t
  induction t with
  | zero => simp [m_e8]
  | succ t ih =>
    have h : m_b6 x (b + t) < 2 := Nat.mod_lt _ (by decide)
    rw [m_e8, Nat.pow_succ]
    omega
theorem m_e8_eq {x : Nat → Int32} {i : Nat} (h0 : z_sg1 (x (8 * i / 6)) < 64) (h1 : z_sg1 (x (8 * i / 6 + 1)) < 64) : m_e8 x (8 * i) 8 = z_eight x i := by
  have hr : 8 * i % 6 = 0 ∨ 8 * i % 6 = 2 ∨ 8 * i % 6 = 4 := by omega
  have hb : ∀ t, t < 8 → m_b6 x (8 * i + t) = if 8 * i % 6 + t < 6 then z_sg1 (x (8 * i / 6)) / 2 ^ (5 - (8 * i % 6 + t)) % 2 else z_sg1 (x (8 * i / 6 + 1)) / 2 ^ (11 - (8 * i % 6 + t)) % 2 := by
    intro t ht
    unfold m_b6
    by_cases hq : 8 * i % 6 + t < 6
    · rw [if_pos hq, show (8 * i + t) / 6 = 8 * i / 6 by omega, show (8 * i + t) % 6 = 8 * i % 6 + t by omega]
    · rw [if_neg hq, show (8 * i + t) / 6 = 8 * i / 6 + 1 by omega, show 5 - (8 * i + t) % 6 = 11 - (8 * i % 6 + t) by omega]
  have e : m_e8 x (8 * i) 8 = 128 * m_b6 x (8 * i + 0) + 64 * m_b6 x (8 * i + 1) + 32 * m_b6 x (8 * i + 2) + 16 * m_b6 x (8 * i + 3) + 8 * m_b6 x (8 * i + 4) + 4 * m_b6 x (8 * i + 5) + 2 * m_b6 x (8 * i + 6) + m_b6 x (8 * i + 7) := by
    simp only [m_e8]
    omega
  rw [e, hb 0 (by decide), hb 1 (by decide), hb 2 (by decide), hb 3 (by decide), hb 4 (by decide), hb 5 (by decide), hb 6 (by decide), hb 7 (by decide)]
  unfold z_eight
  generalize z_sg1 (x (8 * i / 6)) = a at *
  generalize z_sg1 (x (8 * i / 6 + 1)) = b at *
  rcases hr with hr | hr | hr <;> rw [hr] <;> simp <;> omega
/-- a mark, as the reference reads it: spaces only ahead of it -/
def m_mk (n : Nat) (x : Nat → Int32) (p : Nat) (y : Int32) : Option Nat := if z_sk n x p < n ∧ x (z_sk n x p) = y then some (z_sk n x p + 1) else none
def m_mkA (n : Nat) (x : Nat → Int32) (p : Nat) (y : Int32) : Nat := if z_sk n x p < n ∧ x (z_sk n x p) = y then z_sk n x p + 1 else z_sk n x p
def m_nx (n : Nat) (x : Nat → Int32) (p : Nat) : Int32 := if z_sk n x p < n then x (z_sk n x p) else 0
theorem m_nx_eq {n p : Nat} {x : Nat → Int32} {y : Int32} (hy : ¬ y = 0) : m_nx n x p = y ↔ (z_sk n x p < n ∧ x (z_sk n x p) = y) := by
  unfold m_nx
  split
  · rename_i h; exact ⟨fun z => ⟨h, z⟩, fun z => z.2⟩
  · rename_i h; exact ⟨fun z => absurd z.symm hy, fun z => absurd z.1 h⟩
theorem m_mk_A {n p q : Nat} {x : Nat → Int32} {y : Int32} (h : m_mk n x p y = some q) : m_mkA n x p y = q ∧ q = z_sk n x p + 1 ∧ z_sk n x p < n ∧ x (z_sk n x p) = y := by
  unfold m_mk at h
  unfold m_mkA
  split at h
  · rename_i h9
    rw [if_pos h9]
    cases h
    exact ⟨rfl, rfl, h9⟩
  · cases h
theorem m_mk_le {n p q : Nat} {x : Nat → Int32} {y : Int32} (hp : p ≤ n) (h : m_mk n x p y = some q) : q ≤ n ∧ p < q := by
  have h1 := z_sk_le (x := x) hp
  have h2 := m_mk_A h
  omega
theorem m_mkA_n {n p : Nat} {x : Nat → Int32} {y : Int32} (h : m_mk n x p y = none) : m_mkA n x p y = z_sk n x p := by
  unfold m_mk at h
  unfold m_mkA
  split at h
  · cases h
  · rename_i h9; rw [if_neg h9]
def m_nla (o : Option Nat) : Nat := match o with | none => 1 | some j => st_len.getD (7 + j) 0
def m_mem (n : Nat) (x : Nat → Int32) (p : Nat) (cl : Nat → Int32) : Option (Nat × (Nat → Int32)) :=
  match m_mk n x p 34 with
  | none => none
  | some _ => match z_nm n x (z_sk n x p) with
    | none => none
    | some j => if ¬ cl j < 0 then none else match m_mk n x (z_sk n x p + st_len.getD (7 + j) 0) 58 with
      | none => none
      | some p2 => if z_nr n x (z_sk n x p2) < 0 then none else some (z_na n x (z_sk n x p2), upd cl j (z_nr n x (z_sk n x p2)))
def m_run (n : Nat) (x : Nat → Int32) : Nat → Nat → (Nat → Int32) → Option (Nat × (Nat → Int32))
  | 0, _, _ => none
  | t + 1, p, cl => match m_mem n x p cl with
    | none => none
    | some z => match m_mk n x z.1 44 with
      | some p2 => m_run n x t p2 z.2
      | none => some (z_sk n x z.1, z.2)
def m_all (cl : Nat → Int32) : Prop := ∀ k, k < 5 → ¬ cl k < 0
theorem m_mem_le {n p : Nat} {x cl : Nat → Int32} {z : Nat × (Nat → Int32)} (h : m_mem n x p cl = some z) (hp : p ≤ n) : z.1 ≤ n ∧ p < z.1 := by
  unfold m_mem at h
  split at h
  · cases h
  · rename_i q hq
    have h0 := m_mk_le hp hq
    have h9 := m_mk_A hq
    split at h
    · cases h
    · rename_i j hj
      have h1 := z_nm_some hj
      split at h
      · cases h
      · split at h
        · cases h
        · rename_i p2 h2
          have h3 := m_mk_le h1.2.2 h2
          split at h
          · cases h
          · cases h
            have h4 := z_sk_le (x := x) h3.1
            have h5 := z_na_le (x := x) h4.2
            have h6 : z_sk n x p2 ≤ z_na n x (z_sk n x p2) := by
              unfold z_na
              split
              · omega
              · exact (z_num_le h4.2).1
            exact ⟨h5, by show p < z_na n x (z_sk n x p2); omega⟩
theorem upd_id {f : Nat → Int32} {k : Nat} {a : Int32} (h : f k = a) : upd f k a = f := by
  funext j
  by_cases q : j = k
  · simp [upd, q, h]
  · simp [upd, q]
theorem va_up_idE {α : Type} {f : Nat → α} {k : Nat} {a : α} (h : f k = a) : va_up f k a = f := h ▸ va_up_id f k
theorem m_mr {a b : Int32} : 10 * a + b - 48 = a * 10 + b - 48 := by rw [Int32.mul_comm]
theorem z_sayd {n K e8 vv : Nat} {g : Nat → Int32} {d : Int32} (h : ∀ e, e < e8 + K - 9 → g (n + e) = nI (z_d vv K e)) (hge : 9 ≤ e8 + K) (hd : d = nI (z_d vv K (e8 + K - 9))) : ∀ e, e < e8 + 1 + K - 9 → upd g (n + (e8 + K - 9)) d (n + e) = nI (z_d vv K e) := by
  intro e he
  by_cases q : e = e8 + K - 9
  · rw [q]
    simp only [upd]
    exact (if_pos trivial).trans hd
  · simp only [upd]
    rw [if_neg (by omega)]
    exact h e (by omega)
theorem m_cv {c : Int32} {q v : Nat} (hc : c = nI q ∧ q < 127) (hs : ¬ m_sval c < 0) (hv : v < 64) : m_sval c = nI v ↔ c = nI (st_chr 6 v) := by
  obtain ⟨rfl, hq⟩ := hc
  have h1 := z_sg1_eq q (by omega) hs
  have h2 := z_sg1_chr v hv
  constructor
  · intro h
    rw [h1.1, nI_eq (by omega) (by omega)] at h
    rw [h] at h1
    rw [h1.2.2]
  · intro h
    rw [h]
    exact h2.1
theorem z_memb {n w : Nat} {g g2 : Nat → Int32} (hw : w < 5) (hw0 : 0 < w) (hga : g n = 44) (hgb : g (n + 1) = 34) (hg3 : ∀ e, e < m_nl w → g (n + 2 + e) = nI (m_nm w e)) (h : ∀ e, e < n + 2 + m_nl w + 1 + 1 → g2 e = upd (upd g (n + 2 + m_nl w) (34 + 0)) (n + 2 + m_nl w + 1) (58 + 0) e) : ∀ e, e < m_nl w + 4 → g2 (n + e) = nI (st_chr w e) := by
  obtain ⟨a0, a1, a2, a3, a4⟩ := m_nl_st2 w hw
  rw [if_neg (by omega)] at a0
  intro e he
  rw [h (n + e) (by omega)]
  by_cases q3 : e = 3 + m_nl w
  · rw [q3, a3]
    simp only [upd]
    rw [if_pos (by omega)]
    decide
  · by_cases q2 : e = 2 + m_nl w
    · rw [q2, a2]
      simp only [upd]
      rw [if_neg (by omega), if_pos (by omega)]
      decide
    · simp only [upd]
      rw [if_neg (by omega), if_neg (by omega)]
      by_cases q0 : e = 0
      · rw [q0, a0]; exact hga
      · by_cases q1 : e = 1
        · rw [q1, a1]; exact hgb
        · have z := a4 (e - 2) (by omega)
          rw [show 2 + (e - 2) = e by omega] at z
          rw [z, ← hg3 (e - 2) (by omega), show n + 2 + (e - 2) = n + e by omega]
theorem z_mem0 {n w : Nat} {g g2 : Nat → Int32} (hw : w < 5) (hga : g n = 34) (hg3 : ∀ e, e < m_nl w → g (n + 1 + e) = nI (m_nm w e)) (h : ∀ e, e < n + 1 + m_nl w + 1 + 1 → g2 e = upd (upd g (n + 1 + m_nl w) (34 + 0)) (n + 1 + m_nl w + 1) (58 + 0) e) : ∀ e, e < m_nl w + 3 → g2 (n + e) = nI (st_chr w (1 + e)) := by
  obtain ⟨a0, a1, a2, a3, a4⟩ := m_nl_st2 w hw
  intro e he
  rw [h (n + e) (by omega)]
  by_cases q3 : e = 2 + m_nl w
  · rw [q3, show 1 + (2 + m_nl w) = 3 + m_nl w by omega, a3]
    simp only [upd]
    rw [if_pos (by omega)]
    decide
  · by_cases q2 : e = 1 + m_nl w
    · rw [q2, show 1 + (1 + m_nl w) = 2 + m_nl w by omega, a2]
      simp only [upd]
      rw [if_neg (by omega), if_pos (by omega)]
      decide
    · simp only [upd]
      rw [if_neg (by omega), if_neg (by omega)]
      by_cases q0 : e = 0
      · rw [q0, a1]; exact hga
      · have z := a4 (e - 1) (by omega)
        rw [show 2 + (e - 1) = 1 + e by omega] at z
        rw [z, ← hg3 (e - 1) (by omega), show n + 1 + (e - 1) = n + e by omega]
