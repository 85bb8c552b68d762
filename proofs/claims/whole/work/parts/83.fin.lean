/-! Digits, output texts, small things for the law. -/
theorem o_dg : ∀ (m v : Nat), 1 ≤ m → m ≤ 9 → v < 10 ^ m → ∃ K, K < m ∧ z_dg v K := by
  intro m
  induction m with
  | zero => intro v h; omega
  | succ m ih =>
    intro v h1 h2 hv
    by_cases h : v < 10 ^ m
    · by_cases hm : m = 0
      · subst hm
        exact ⟨0, by omega, Or.inr rfl, by simpa using hv, by omega⟩
      · obtain ⟨K, k1, k2⟩ := ih v (by omega) (by omega) h
        exact ⟨K, by omega, k2⟩
    · exact ⟨m, by omega, Or.inl (by omega), hv, by omega⟩
def o_5 (a b d e g : Nat) : Nat → Nat := fun q => match q with
  | 0 => a
  | 1 => b
  | 2 => d
  | 3 => e
  | _ => g
theorem o_K {a b d e g : Nat} (ha : a < 10) (hb : b < 10) (hd : d < 10 ^ 7) (he : e < 10 ^ 3) (hg : g < 10 ^ 2) : ∃ K : Nat → Nat, (∀ i, i < 5 → z_dg (o_5 a b d e g i) (K i)) ∧ (∀ i, i < 5 → o_5 a b d e g i < 2 ^ 31) ∧ z_tot K ≤ 81 := by
  obtain ⟨K0, a1, a2⟩ := o_dg 1 a (by decide) (by decide) (by simpa using ha)
  obtain ⟨K1, b1, b2⟩ := o_dg 1 b (by decide) (by decide) (by simpa using hb)
  obtain ⟨K2, d1, d2⟩ := o_dg 7 d (by decide) (by decide) hd
  obtain ⟨K3, e1, e2⟩ := o_dg 3 e (by decide) (by decide) he
  obtain ⟨K4, g1, g2⟩ := o_dg 2 g (by decide) (by decide) hg
  refine ⟨o_5 K0 K1 K2 K3 K4, fun i hi => ?_, fun i hi => ?_, ?_⟩
  · match i, hi with
    | 0, _ => exact a2
    | 1, _ => exact b2
    | 2, _ => exact d2
    | 3, _ => exact e2
    | 4, _ => exact g2
  · match i, hi with
    | 0, _ => show a < 2 ^ 31; omega
    | 1, _ => show b < 2 ^ 31; omega
    | 2, _ => show d < 2 ^ 31; omega
    | 3, _ => show e < 2 ^ 31; omega
    | 4, _ => show g < 2 ^ 31; omega
  · show 7 + (K0 + 1) + 7 + (K1 + 1) + 7 + (K2 + 1) + 7 + (K3 + 1) + 9 + (K4 + 1) + 1 ≤ 81
    omega
theorem st6_127 : ∀ t, t < 64 → st_chr 6 t < 127 := by decide +kernel
/-- the two outputs are the same -/
theorem o_out {n : Nat} {ch : Nat → Nat} {ky : Int32} {sk : Int64} {y g : Nat → Int32} (hsk : ky.toInt64 = sk)
    (ra : ∀ i, i < (n * 8 + 5) / 6 → y i = nI (st_chr 6 (z_six n ch i))) (rb : y ((n * 8 + 5) / 6) = 46) (rc : ∀ i, i < 10 → y ((n * 8 + 5) / 6 + 1 + i) = nI (st_chr 6 (z_ss (z_seal ky.toInt64 y ((n * 8 + 5) / 6)) i)))
    (ma : ∀ i, i < (n * 8 + 5) / 6 → g i = nI (st_chr 6 (z_six n ch i))) (mb : g ((n * 8 + 5) / 6) = 46) (mc : ∀ i, i < 10 → g ((n * 8 + 5) / 6 + 1 + i) = m_sign (m_ss (z_seal sk g ((n * 8 + 5) / 6)) i)) :
    ∀ j, j < (n * 8 + 5) / 6 + 11 → y j = g j ∧ ∃ q, q < 127 ∧ y j = nI q := by
  have hs : z_seal ky.toInt64 y ((n * 8 + 5) / 6) = z_seal sk g ((n * 8 + 5) / 6) := by
    rw [hsk]
    exact z_seal_congr (fun i hi => (ra i hi).trans (ma i hi).symm)
  intro j hj
  by_cases h1 : j < (n * 8 + 5) / 6
  · exact ⟨(ra j h1).trans (ma j h1).symm, _, st6_127 _ (z_six_lt n ch j), ra j h1⟩
  · by_cases h2 : j = (n * 8 + 5) / 6
    · rw [h2]
      exact ⟨rb.trans mb.symm, 46, by decide, rb⟩
    · have e : (n * 8 + 5) / 6 + 1 + (j - (n * 8 + 5) / 6 - 1) = j := by omega
      have c1 := rc (j - (n * 8 + 5) / 6 - 1) (by omega)
      have c2 := mc (j - (n * 8 + 5) / 6 - 1) (by omega)
      rw [e] at c1 c2
      rw [hs] at c1
      rw [m_sign_ss (by omega)] at c2
      exact ⟨c1.trans c2.symm, _, st6_127 _ (z_ss_lt _ _), c1⟩
theorem m_isC_y {n j : Nat} (h : j < n) (hn : n ≤ 4) : ¬ m_isC (nI n) (nI j) = 0 := by
  unfold m_isC
  rw [if_neg (fun z => z.elim (nI_pos (by omega)) (nI_ge h (by omega)))]
  decide
theorem m_isC_n {n : Nat} {x : Int32} (h : x < 0 ∨ nI n ≤ x) : m_isC (nI n) x = 0 := if_pos h
theorem z_free_ok {o1 o2 : Option Nat} {x : Int32} (h : ¬ z_free o1 o2 x = 0) : ¬ x < 1 ∧ o1 = none ∧ o2 = none := by
  unfold z_free at h
  split at h
  · exact absurd rfl h
  · rename_i q
    exact ⟨fun z => q (Or.inl z), Decidable.not_not.mp (fun z => q (Or.inr (Or.inr (Or.inl z)))), Decidable.not_not.mp (fun z => q (Or.inr (Or.inr (Or.inr z))))⟩
theorem o_one {x : Int32} (h : ¬ x < 1) : ¬ x = 0 := fun z => h (z ▸ by decide)
theorem o_15 {x : Int32} (h1 : ¬ x < 0) (h2 : ¬ 15 < x) : ∃ p : Nat, p ≤ 15 ∧ x = nI p := nI_of2 (M := 15) (n := 15) rfl h1 (Int32.not_lt.mp h2)
theorem o_lt1 {x : Int32} (h : ¬ x < 1) : ¬ x < 0 := fun z => h (Int32.lt_trans z (by decide))
theorem o_03 {x : Int32} (h1 : ¬ x < 0) (h2 : ¬ 3 < x) : ∃ p : Nat, p ≤ 3 ∧ x = nI p := nI_of2 (M := 3) (n := 3) rfl h1 (Int32.not_lt.mp h2)
theorem o_m1 {j : Nat} (h : j < 4) : ¬ nI j = -1 := by
  match j, h with
  | 0, _ => decide
  | 1, _ => decide
  | 2, _ => decide
  | 3, _ => decide
