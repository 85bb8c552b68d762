/-! Answers that are the same, and states that stay related. -/
section RL2
variable {S : cS} {sk : Int64} {v : Nat → Int32} {c : Nat → Nat → Int32} {sg : Nat → Nat → Nat} {B : Nat}
theorem rl.cn0 (H : rl S sk v c sg B) {s : Nat} (hs : s < 3) : m_cnt v c 0 (o_a s) (gs_N s) = S.us s := o_cnt_all (H.sh s hs).pm
theorem rl.cn1 (H : rl S sk v c sg B) (hB : B ≤ 512) {s : Nat} (hs : s < 3) {m1 : Nat → Option Nat} {y : Int32} (hy : ¬ y = 0) (hm : ∀ i, m1 i = none ↔ S.fm s i = none) : m_cnt v c y (o_a s) (gs_N s) = z_cn (S.w s) m1 (o_fv S 2 s) (S.u 15) (S.us s) := o_cnt (H.sh s hs).pm hy (fun i hi => H.act hB hs hi (hm i))
theorem rl.tok (H : rl S sk v c sg B) (hB : B ≤ 512) {m1 : Nat → Nat → Option Nat} (hm : ∀ s i, m1 s i = none ↔ S.fm s i = none) : nI (z_cn (S.w 1) (m1 1) (o_fv S 2 1) (S.u 15) (S.us 1)) + nI (z_cn (S.w 2) (m1 2) (o_fv S 2 2) (S.u 15) (S.us 2)) = nI (m_tok v c 48) := by
  rw [← H.cn1 hB (s := 1) (by decide) (y := 1) (by decide) (hm 1), ← H.cn1 hB (s := 2) (by decide) (y := 1) (by decide) (hm 2), nI_add, m_tok_2]
  rfl
theorem rl.dead (H : rl S sk v c sg B) (hB : B ≤ 512) {m1 : Nat → Option Nat} (hm : ∀ i, m1 i = none ↔ S.fm 2 i = none) (x : Int32) : z_de (z_ha (S.w 2) m1 (o_fv S 2 2) (S.u 15) (S.us 2) x) = m_dead v c x := by
  unfold z_ha m_dead z_de
  cases h : z_fi (S.w 2) x (S.us 2) 0 with
  | none =>
    have e : m_findF (c 10) x 24 40 = -1 := (H.sh 2 (by decide)).fn h
    rw [e]
    simp
  | some i =>
    obtain ⟨h1, h2⟩ := (H.sh 2 (by decide)).fs h
    have h3 := (H.sh 2 (by decide)).lt (by decide) h1
    have e : m_findF (c 10) x 24 40 = nI (sg 2 i) := h2
    rw [e, if_neg (nI_pos (by omega)), nI_clamp (by omega), ← H.act hB (s := 2) (by decide) h1 (hm i)]
theorem r_tx.cx {n : Nat} {x y : Nat → Int32} {vn : Int32} (H : r_tx n x vn y) : ∀ j, j < n → x j = nI (x j).toNatClampNeg ∧ (x j).toNatClampNeg < 127 := by
  intro j hj
  obtain ⟨q, h1, h2⟩ := H.ch j hj
  rw [h2, nI_clamp (by omega)]
  exact ⟨rfl, h1⟩
theorem r_tx.hash {n : Nat} {x y : Nat → Int32} {vn : Int32} (H : r_tx n x vn y) : z_hash x n n = (m_hash y n n).toInt32 := by
  have h1 := H.cx
  have hl := H.le
  have h2 : ∀ j, j < n → y j = nI (x j).toNatClampNeg ∧ (x j).toNatClampNeg < 127 := fun j hj => ⟨(H.eq j hj).symm.trans (h1 j hj).1, (h1 j hj).2⟩
  rw [o_zh (by omega) h1 n (Nat.le_refl _), o_mh (by omega) h2 n (Nat.le_refl _)]
  exact (o_l32 _ (by have := o_h_lt (x := fun j => (x j).toNatClampNeg) (n := n) (by omega) n; omega)).symm
theorem rl.let0 (H : rl S sk v c sg B) {x i : Int32} (hx : x = 0) : z_at (S.tn 0) (S.tx 0) i = m_letter (v 24) (v 26) (c 23) (c 25) x i := by
  unfold z_at m_letter
  rw [if_pos hx, if_pos hx, H.t0.vn]
  by_cases h : i < 0 ∨ nI (S.tn 0) ≤ i
  · rw [if_pos h, if_pos h]
  · rw [if_neg h, if_neg h]
    have hl := H.t0.le
    obtain ⟨j, h1, h2⟩ := hm_ix (n := S.tn 0) (fun z => h (Or.inl z)) (fun z => h (Or.inr z)) (by omega)
    rw [h2, nI_clamp (by omega)]
    exact H.t0.eq j h1
theorem rl.let1 (H : rl S sk v c sg B) {x i : Int32} (hx : ¬ x = 0) : z_at (S.tn 1) (S.tx 1) i = m_letter (v 24) (v 26) (c 23) (c 25) x i := by
  unfold z_at m_letter
  rw [if_neg hx, if_neg hx, H.t1.vn]
  by_cases h : i < 0 ∨ nI (S.tn 1) ≤ i
  · rw [if_pos h, if_pos h]
  · rw [if_neg h, if_neg h]
    have hl := H.t1.le
    obtain ⟨j, h1, h2⟩ := hm_ix (n := S.tn 1) (fun z => h (Or.inl z)) (fun z => h (Or.inr z)) (by omega)
    rw [h2, nI_clamp (by omega)]
    exact H.t1.eq j h1
/-! shelves -/
theorem r_sh.ag {s us nf nf' : Nat} {w : Nat → Nat → Int32} {fm : Nat → Option Nat} {sg : Nat → Nat} {c c' : Nat → Nat → Int32} (H : r_sh s c us w fm nf sg) (hn : nf ≤ nf')
    (e0 : ∀ k, o_a s ≤ k → k < o_a s + gs_N s → c' 10 k = c 10 k) (e1 : ∀ k, o_a s ≤ k → k < o_a s + gs_N s → c' 11 k = c 11 k) (e2 : ∀ k, o_a s ≤ k → k < o_a s + gs_N s → c' 12 k = c 12 k) (e3 : ∀ k, o_a s ≤ k → k < o_a s + gs_N s → c' 13 k = c 13 k)
    (e4 : ∀ k, o_a s ≤ k → k < o_a s + gs_N s → c' 14 k = c 14 k) (e5 : ∀ k, o_a s ≤ k → k < o_a s + gs_N s → c' 15 k = c 15 k) (e6 : s = 0 → ∀ k, o_a s ≤ k → k < o_a s + gs_N s → c' 16 k = c 16 k) (e7 : s = 0 → ∀ k, o_a s ≤ k → k < o_a s + gs_N s → c' 17 k = c 17 k) : r_sh s c' us w fm nf' sg := by
  refine ⟨?_, fun i hi => ?_, H.num⟩
  · have z := H.pm
    unfold o_pm at *
    rw [o_oc_cg (g := c 10) (fun k h1 h2 => by rw [e0 k h1 h2])]
    exact z
  · obtain ⟨b1, b2, -⟩ := o_pm_in H.pm hi
    obtain ⟨r0, r1, r2, r3, r4, r5, r6, r7, r8, r9⟩ := H.row i hi
    refine ⟨by rw [e0 _ b1 b2]; exact r0, by rw [e1 _ b1 b2]; exact r1, by rw [e2 _ b1 b2]; exact r2, by rw [e3 _ b1 b2]; exact r3, r4, by rw [e4 _ b1 b2]; exact r5, ?_, fun z => ?_, r8, r9⟩
    · rw [e5 _ b1 b2]
      rcases r6 with q | ⟨t, q1, q2, q3⟩
      · exact Or.inl q
      · exact Or.inr ⟨t, q1, by omega, q3⟩
    · rw [e6 z _ b1 b2, e7 z _ b1 b2]
      exact r7 z
/-- one row is changed, not its number -/
theorem r_sh.up {s us nf nf' i0 : Nat} {w : Nat → Nat → Int32} {fm : Nat → Option Nat} {sg : Nat → Nat} {c c' : Nat → Nat → Int32} {W : Nat → Int32} {f0 : Option Nat} (H : r_sh s c us w fm nf sg) (hn : nf ≤ nf') (hi0 : i0 < us) (hW : W 0 = w i0 0)
    (e0 : c' 10 = c 10) (hr : o_row s W f0 nf' c' (sg i0))
    (e : ∀ k, k ≠ sg i0 → c' 11 k = c 11 k ∧ c' 12 k = c 12 k ∧ c' 13 k = c 13 k ∧ c' 14 k = c 14 k ∧ c' 15 k = c 15 k ∧ (s = 0 → c' 16 k = c 16 k ∧ c' 17 k = c 17 k)) : r_sh s c' us (va_up w i0 W) (va_up fm i0 f0) nf' sg := by
  have hw0 : ∀ i, va_up w i0 W i 0 = w i 0 := by
    intro i
    by_cases q : i = i0
    · subst q
      simp [va_up, hW]
    · simp [va_up, q]
  refine ⟨by rw [e0]; exact H.pm, fun i hi => ?_, fun i j hi hj => by rw [hw0, hw0]; exact H.num i j hi hj⟩
  by_cases q : i = i0
  · subst q
    simp only [va_up, if_true]
    exact hr
  · simp only [va_up, if_neg q]
    obtain ⟨r0, r1, r2, r3, r4, r5, r6, r7, r8, r9⟩ := H.row i hi
    obtain ⟨d1, d2, d3, d4, d5, d6⟩ := e (sg i) (fun z => q (o_pm_inj H.pm hi hi0 z))
    refine ⟨by rw [e0]; exact r0, by rw [d1]; exact r1, by rw [d2]; exact r2, by rw [d3]; exact r3, r4, by rw [d4]; exact r5, ?_, fun z => ?_, r8, r9⟩
    · rw [d5]
      rcases r6 with q | ⟨t, q1, q2, q3⟩
      · exact Or.inl q
      · exact Or.inr ⟨t, q1, by omega, q3⟩
    · rw [(d6 z).1, (d6 z).2]
      exact r7 z
/-- a row is added -/
theorem r_sh.put {s us nf k0 : Nat} {w : Nat → Nat → Int32} {fm : Nat → Option Nat} {sg : Nat → Nat} {c c' : Nat → Nat → Int32} {W : Nat → Int32} {f0 : Option Nat} {x : Int32} (H : r_sh s c us w fm nf sg) (h1 : o_a s ≤ k0) (h2 : k0 < o_a s + gs_N s) (h3 : c 10 k0 = 0) (hx : ¬ x = 0) (hW : W 0 = x) (hnew : ∀ i, i < us → ¬ w i 0 = x)
    (e0 : c' 10 = upd (c 10) k0 x) (hr : o_row s W f0 nf c' k0)
    (e : ∀ k, k ≠ k0 → c' 11 k = c 11 k ∧ c' 12 k = c 12 k ∧ c' 13 k = c 13 k ∧ c' 14 k = c 14 k ∧ c' 15 k = c 15 k ∧ (s = 0 → c' 16 k = c 16 k ∧ c' 17 k = c 17 k)) : r_sh s c' (us + 1) (va_up w us W) (va_up fm us f0) nf (va_up sg us k0) := by
  refine ⟨by rw [e0]; exact o_pm_put H.pm h1 h2 h3 hx, fun i hi => ?_, fun i j hi hj => ?_⟩
  · by_cases q : i = us
    · subst q
      simp only [va_up, if_true]
      exact hr
    · simp only [va_up, if_neg q]
      obtain ⟨r0, r1, r2, r3, r4, r5, r6, r7, r8, r9⟩ := H.row i (by omega)
      have hne : sg i ≠ k0 := fun z => (o_pm_in H.pm (show i < us by omega)).2.2 (z ▸ h3)
      obtain ⟨d1, d2, d3, d4, d5, d6⟩ := e (sg i) hne
      refine ⟨by rw [e0]; simp only [upd, if_neg hne]; exact r0, by rw [d1]; exact r1, by rw [d2]; exact r2, by rw [d3]; exact r3, r4, by rw [d4]; exact r5, by rw [d5]; exact r6, fun z => ?_, r8, r9⟩
      rw [(d6 z).1, (d6 z).2]
      exact r7 z
  · by_cases q : i = us
    · by_cases q' : j = us
      · intro _; omega
      · simp only [va_up, if_pos q, if_neg q']
        intro z
        exact absurd (z.symm.trans hW) (hnew j (by omega))
    · by_cases q' : j = us
      · simp only [va_up, if_neg q, if_pos q']
        intro z
        exact absurd (z.trans hW) (hnew i (by omega))
      · simp only [va_up, if_neg q, if_neg q']
        exact H.num i j (by omega) (by omega)
theorem r_sh.sw {s us nf kk : Nat} {w : Nat → Nat → Int32} {fm : Nat → Option Nat} {sg pi : Nat → Nat} {c c' : Nat → Nat → Int32} {t : Int32} (H : r_sh s c us w fm nf sg) (hs : s < 3) (hk : kk ≤ us) (hp : z_pm (gs_N s) pi) (hp2 : z_perm w t us kk pi)
    (e0 : c' 10 = m_sw (c 10) (c 13) t 64) (e1 : c' 11 = c 11) (e2 : c' 12 = c 12) (e3 : c' 13 = c 13) (e4 : c' 14 = c 14) (e5 : c' 15 = c 15) (e6 : c' 16 = c 16) (e7 : c' 17 = c 17) :
    r_sh s c' kk (fun i => w (pi i)) (fun i => fm (pi i)) nf (fun i => sg (pi i)) ∧ us - kk = (o_oc (c 10) (o_a s) (gs_N s)).countP (fun k => decide (c 13 k ≤ t)) := by
  have h64 : o_a s + gs_N s ≤ 64 := by match s, hs with | 0, _ => decide | 1, _ => decide | 2, _ => decide
  obtain ⟨a1, a2⟩ := o_sw H.pm h64 (fun i hi => (H.row i hi).n3) hp2
  have hmem : ∀ i, i < kk → pi i < us ∧ t < w (pi i) 3 := by
    intro i hi
    have z : pi i ∈ (List.range us).filter (fun i => decide (t < w i 3)) := by
      rw [← hp2]
      exact List.mem_map.mpr ⟨i, List.mem_range.mpr hi, rfl⟩
    have z2 := List.mem_filter.mp z
    exact ⟨List.mem_range.mp z2.1, of_decide_eq_true z2.2⟩
  refine ⟨⟨by rw [e0]; exact a1, fun i hi => ?_, fun i j hi hj z => ?_⟩, a2⟩
  · obtain ⟨m1, m2⟩ := hmem i hi
    obtain ⟨r0, r1, r2, r3, r4, r5, r6, r7, r8, r9⟩ := H.row (pi i) m1
    refine ⟨?_, by rw [e1]; exact r1, by rw [e2]; exact r2, by rw [e3]; exact r3, r4, by rw [e4]; exact r5, by rw [e5]; exact r6, by rw [e6, e7]; exact r7, r8, r9⟩
    rw [e0]
    unfold m_sw
    rw [if_neg (fun z => absurd (r3 ▸ m2) (Int32.not_lt.mpr z.2.2))]
    exact r0
  · have hN := o_pm_le H.pm
    exact hp.2 i j (by omega) (by omega) (H.num _ _ (hmem i hi).1 (hmem j hj).1 z)
end RL2
