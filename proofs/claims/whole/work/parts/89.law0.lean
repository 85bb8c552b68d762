/-! A new object and a new reference are related. -/
def c_A0 (h : Nat) (ad : Nat → Nat) (g : Nat → Nat → Option Nat) : cX → Nat := fun n => match n with
  | (0, 0, _) => h
  | (0, i, _) => ad i
  | (1, s, i) => (g s i).getD 0
  | _ => 0
theorem c_f_0 {k : Nat → ClassId} {a : cA} {S : cS} {i : Nat} (hi : c_ix i = true) (h : i ≠ 0) : ∃ z : va_E, c_f k a S i = z ∧ (∀ vs, z ≠ .inr (0, vs)) ∧ (∀ vs, z ≠ .inr (3, vs)) := by
  refine ⟨_, rfl, fun vs z => ?_, fun vs z => ?_⟩
  · rcases c_ixs hi with r | r | r | r | r | r | r | r | r | r | r | r | r | r | r | r | r | r <;> subst r <;> first | exact absurd rfl h | (unfold c_f at z; simp at z)
  · rcases c_ixs hi with r | r | r | r | r | r | r | r | r | r | r | r | r | r | r | r | r | r <;> subst r <;> first | exact absurd rfl h | (unfold c_f at z; simp at z)
theorem cs_0 {k : Nat → ClassId} {f f0 : hm} {h : Nat} {ad : Nat → Nat} {u : Nat → Int32} {g : Nat → Nat → Option Nat} {ra ky : Int32} (hg : gs k f h ad u (fun _ => none) (fun _ => 0) g (fun _ => 0) (fun _ _ => 0) (fun _ => 0) (fun _ => 0) ra ky) (hap : gs_ap ad) (hr : gs_r0 f0 f g) :
    cs k f (cAm (c_A0 h ad g) g (fun _ => none)) (cSm u 0 (fun _ _ => 0) (fun _ => 0) (fun _ _ _ => 0) (fun _ _ => none) 0 (fun _ _ => 0) (fun _ => 0) (fun _ _ => 0) (fun _ => 0) (fun _ => 0) ra ky) := by
  obtain ⟨g1, g2, g3, g4, g5, g6, g7, g8, g9, g10⟩ := hg
  have hF : ∀ i, c_ix i = true → f (aF (cAm (c_A0 h ad g) g (fun _ => none)) i) = some (c_f k (cAm (c_A0 h ad g) g (fun _ => none)) (cSm u 0 (fun _ _ => 0) (fun _ => 0) (fun _ _ _ => 0) (fun _ _ => none) 0 (fun _ _ => 0) (fun _ => 0) (fun _ _ => 0) (fun _ => 0) (fun _ => 0) ra ky) i) := by
    intro i hi
    rcases c_ixs hi with r | r | r | r | r | r | r | r | r | r | r | r | r | r | r | r | r | r <;> subst r
    · exact g1
    · exact g2
    · exact g3 0 (by decide)
    · exact g3 1 (by decide)
    · exact g3 2 (by decide)
    · exact g5 0 (by decide)
    · exact g5 1 (by decide)
    · exact g5 2 (by decide)
    · exact g7
    · exact g10
    · exact g4 0 (by decide)
    · exact g4 1 (by decide)
    · exact g4 2 (by decide)
    · exact g6 0 (by decide)
    · exact g6 1 (by decide)
    · exact g6 2 (by decide)
    · exact g8
    · exact g9
  have hR : ∀ s i, s < 3 → i < gs_N s → g s i = some (c_A0 h ad g (1, s, i)) ∧ f (c_A0 h ad g (1, s, i)) = some (.inr (3, gr0)) := by
    intro s i hs hi
    obtain ⟨q, a1, -, a3⟩ := hr.1 s hs i hi
    have e : c_A0 h ad g (1, s, i) = q := by
      show (g s i).getD 0 = q
      rw [a1]
      rfl
    rw [e]
    exact ⟨a1, a3⟩
  have hFF : ∀ i, c_ix i = true → i ≠ 0 → aF (cAm (c_A0 h ad g) g (fun _ => none)) i = ad i ∧ gs_ix i = true ∧ i < 22 := by
    intro i hi h0
    rcases c_ixs hi with r | r | r | r | r | r | r | r | r | r | r | r | r | r | r | r | r | r <;> subst r <;> first | exact absurd rfl h0 | exact ⟨rfl, rfl, by decide⟩
  refine ⟨fun n hn => ?_, fun n m hn hm e => ?_, fun s i hs hi => (hR s i hs hi).1, fun j hj => absurd hj (Nat.not_lt_zero _), fun s i t _ _ h3 => by cases h3⟩
  · match n, hn with
    | (0, i, e0), hn =>
      have he : e0 = 0 := hn.2
      subst he
      exact hF i hn.1
    | (1, s, i), hn => exact (hR s i hn.1 hn.2).2
    | (2, t, e0), hn => exact absurd hn.1 (Nat.not_lt_zero _)
    | (d + 3, j, e0), hn => exact absurd hn.1 (Nat.not_lt_zero _)
  · match n, m, hn, hm, e with
    | (0, i, e0), (0, j, e1), hn, hm, e =>
      have he : e0 = 0 := hn.2
      have he' : e1 = 0 := hm.2
      subst he; subst he'
      have e2 : aF (cAm (c_A0 h ad g) g (fun _ => none)) i = aF (cAm (c_A0 h ad g) g (fun _ => none)) j := e
      by_cases i0 : i = 0
      · by_cases j0 : j = 0
        · rw [i0, j0]
        · exfalso
          subst i0
          have z1 := hF 0 rfl
          rw [e2, hF j hm.1] at z1
          obtain ⟨z, q1, q2, -⟩ := c_f_0 (k := k) (a := cAm (c_A0 h ad g) g (fun _ => none)) (S := cSm u 0 (fun _ _ => 0) (fun _ => 0) (fun _ _ _ => 0) (fun _ _ => none) 0 (fun _ _ => 0) (fun _ => 0) (fun _ _ => 0) (fun _ => 0) (fun _ => 0) ra ky) hm.1 j0
          exact q2 _ (q1.symm.trans (Option.some.inj z1))
      · by_cases j0 : j = 0
        · exfalso
          subst j0
          have z1 := hF 0 rfl
          rw [← e2, hF i hn.1] at z1
          obtain ⟨z, q1, q2, -⟩ := c_f_0 (k := k) (a := cAm (c_A0 h ad g) g (fun _ => none)) (S := cSm u 0 (fun _ _ => 0) (fun _ => 0) (fun _ _ _ => 0) (fun _ _ => none) 0 (fun _ _ => 0) (fun _ => 0) (fun _ _ => 0) (fun _ => 0) (fun _ => 0) ra ky) hn.1 i0
          exact q2 _ (q1.symm.trans (Option.some.inj z1))
        · have w1 := hFF i hn.1 i0
          have w2 := hFF j hm.1 j0
          rw [w1.1, w2.1] at e2
          rw [hap i j w1.2.2 w2.2.2 w1.2.1 w2.2.1 e2]
    | (0, i, e0), (1, s, j), hn, hm, e =>
      exfalso
      have he : e0 = 0 := hn.2
      subst he
      have z1 := hF i hn.1
      have e2 : aF (cAm (c_A0 h ad g) g (fun _ => none)) i = c_A0 h ad g (1, s, j) := e
      rw [e2, (hR s j hm.1 hm.2).2] at z1
      by_cases i0 : i = 0
      · subst i0
        cases z1
      · obtain ⟨z, q1, -, q3⟩ := c_f_0 (k := k) (a := cAm (c_A0 h ad g) g (fun _ => none)) (S := cSm u 0 (fun _ _ => 0) (fun _ => 0) (fun _ _ _ => 0) (fun _ _ => none) 0 (fun _ _ => 0) (fun _ => 0) (fun _ _ => 0) (fun _ => 0) (fun _ => 0) ra ky) hn.1 i0
        exact q3 _ (q1.symm.trans (Option.some.inj z1).symm)
    | (1, s, j), (0, i, e0), hm, hn, e =>
      exfalso
      have he : e0 = 0 := hn.2
      subst he
      have z1 := hF i hn.1
      have e2 : c_A0 h ad g (1, s, j) = aF (cAm (c_A0 h ad g) g (fun _ => none)) i := e
      rw [← e2, (hR s j hm.1 hm.2).2] at z1
      by_cases i0 : i = 0
      · subst i0
        cases z1
      · obtain ⟨z, q1, -, q3⟩ := c_f_0 (k := k) (a := cAm (c_A0 h ad g) g (fun _ => none)) (S := cSm u 0 (fun _ _ => 0) (fun _ => 0) (fun _ _ _ => 0) (fun _ _ => none) 0 (fun _ _ => 0) (fun _ => 0) (fun _ _ => 0) (fun _ => 0) (fun _ => 0) ra ky) hn.1 i0
        exact q3 _ (q1.symm.trans (Option.some.inj z1).symm)
    | (1, s, i), (1, s', j), hn, hm, e =>
      have e2 : c_A0 h ad g (1, s, i) = c_A0 h ad g (1, s', j) := e
      obtain ⟨w1, w2⟩ := hr.2 s hn.1 i hn.2 s' hm.1 j hm.2 (by rw [(hR s i hn.1 hn.2).1, (hR s' j hm.1 hm.2).1, e2])
      rw [w1, w2]
    | (2, t, e0), _, hn, _, _ => exact absurd hn.1 (Nat.not_lt_zero _)
    | (d + 3, t, e0), _, hn, _, _ => exact absurd hn.1 (Nat.not_lt_zero _)
    | (0, i, e0), (2, t, e1), _, hm, _ => exact absurd hm.1 (Nat.not_lt_zero _)
    | (0, i, e0), (d + 3, t, e1), _, hm, _ => exact absurd hm.1 (Nat.not_lt_zero _)
    | (1, s, i), (2, t, e1), _, hm, _ => exact absurd hm.1 (Nat.not_lt_zero _)
    | (1, s, i), (d + 3, t, e1), _, hm, _ => exact absurd hm.1 (Nat.not_lt_zero _)
theorem rl_0 (ky b d g : Int32) : rl (cSm (gs_u0 b d g) 0 (fun _ _ => 0) (fun _ => 0) (fun _ _ _ => 0) (fun _ _ => none) 0 (fun _ _ => 0) (fun _ => 0) (fun _ _ => 0) (fun _ => 0) (fun _ => 0) 0 ky) ky.toInt64 (mo_v0 b d g) (fun _ _ => 0) (fun _ _ => 0) 0 := by
  have hsh : ∀ s, r_sh s (fun _ _ => (0 : Int32)) 0 (fun _ _ => 0) (fun _ => none) 0 (fun _ => 0) := by
    intro s
    refine ⟨?_, fun i hi => absurd hi (Nat.not_lt_zero _), fun i j hi => absurd hi (Nat.not_lt_zero _)⟩
    unfold o_pm
    rw [o_oc_0 (fun _ _ _ => rfl)]
    exact List.Perm.refl _
  have htx : r_tx 0 (fun _ => (0 : Int32)) 0 (fun _ => 0) := ⟨Nat.zero_le _, rfl, fun j hj => absurd hj (Nat.not_lt_zero _), fun j hj => absurd hj (Nat.not_lt_zero _)⟩
  obtain ⟨x, x1, x2⟩ := o_kept_n b
  obtain ⟨y, y1, y2⟩ := o_kept_n d
  obtain ⟨z, z1, z2⟩ := o_kept_n g
  exact ⟨rfl, ⟨x, y, z, x1, y1, z1, (o_kept b).trans x2, x2, (o_kept d).trans y2, y2, (o_kept g).trans z2, z2⟩, ⟨rfl, rfl, Nat.zero_le _⟩, fun j hj => absurd hj (Nat.not_lt_zero _), ⟨rfl, Or.inl rfl⟩, ⟨0, Nat.le_refl _, rfl, rfl, fun i hi => absurd hi (Nat.not_lt_zero _)⟩, ⟨0, Nat.le_refl _, rfl, rfl⟩, ⟨Nat.le_refl _, rfl⟩, fun t ht => absurd ht (Nat.not_lt_zero _), htx, htx, hsh 0, hsh 1, hsh 2, fun j _ => Or.inr ⟨0, by decide, rfl⟩⟩
