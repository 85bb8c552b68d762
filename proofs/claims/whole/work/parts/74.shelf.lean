/-! The shelves: the class's rows in their order, the reference's slots; sg says which row stands in which slot. -/
/-- the slots from a on, of N, that hold a number -/
def o_oc (g : Nat → Int32) (a N : Nat) : List Nat := (List.range' a N).filter (fun k => decide (¬ g k = 0))
def o_pm (g : Nat → Int32) (a N u : Nat) (sg : Nat → Nat) : Prop := ((List.range u).map sg).Perm (o_oc g a N)
theorem o_oc_mem {g : Nat → Int32} {a N k : Nat} : k ∈ o_oc g a N ↔ a ≤ k ∧ k < a + N ∧ ¬ g k = 0 := by
  simp [o_oc, List.mem_range'_1, and_assoc]
theorem o_oc_nd (g : Nat → Int32) (a N : Nat) : (o_oc g a N).Nodup := List.Nodup.sublist List.filter_sublist List.nodup_range'
theorem o_oc_0 {g : Nat → Int32} {a N : Nat} (h : ∀ k, a ≤ k → k < a + N → g k = 0) : o_oc g a N = [] := by
  apply List.filter_eq_nil_iff.mpr
  intro k hk
  have z := List.mem_range'_1.mp hk
  simp [h k z.1 z.2]
section OPM
variable {g : Nat → Int32} {a N u : Nat} {sg : Nat → Nat}
theorem o_pm_in (h : o_pm g a N u sg) {i : Nat} (hi : i < u) : a ≤ sg i ∧ sg i < a + N ∧ ¬ g (sg i) = 0 :=
  o_oc_mem.mp (h.mem_iff.mp (List.mem_map.mpr ⟨i, List.mem_range.mpr hi, rfl⟩))
theorem o_pm_ex (h : o_pm g a N u sg) {k : Nat} (h1 : a ≤ k) (h2 : k < a + N) (h3 : ¬ g k = 0) : ∃ i, i < u ∧ sg i = k := by
  obtain ⟨i, hi, e⟩ := List.mem_map.mp (h.mem_iff.mpr (o_oc_mem.mpr ⟨h1, h2, h3⟩))
  exact ⟨i, List.mem_range.mp hi, e⟩
theorem o_pm_inj (h : o_pm g a N u sg) {i j : Nat} (hi : i < u) (hj : j < u) (e : sg i = sg j) : i = j := by
  have nd : ((List.range u).map sg).Nodup := h.nodup_iff.mpr (o_oc_nd g a N)
  exact hm_nd_at nd (i := i) (j := j) (a := sg i) (b := sg j) (by simp [hi]) (by simp [hj]) e
theorem o_pm_len (h : o_pm g a N u sg) : u = (o_oc g a N).length := by
  have z := h.length_eq
  simpa using z
theorem o_pm_le (h : o_pm g a N u sg) : u ≤ N := by
  rw [o_pm_len h]
  have z := List.length_filter_le (fun k => decide (¬ g k = 0)) (List.range' a N)
  simpa [o_oc] using z
theorem o_pm_cg {sg' : Nat → Nat} (h : o_pm g a N u sg) (e : ∀ i, i < u → sg' i = sg i) : o_pm g a N u sg' := by
  unfold o_pm at *
  rw [List.map_congr_left (g := sg) (fun i hi => e i (List.mem_range.mp hi))]
  exact h
theorem o_oc_cg {g g' : Nat → Int32} {a N : Nat} (e : ∀ k, a ≤ k → k < a + N → (g' k = 0 ↔ g k = 0)) : o_oc g' a N = o_oc g a N := by
  apply List.filter_congr
  intro k hk
  have z := List.mem_range'_1.mp hk
  simp [e k z.1 z.2]
theorem o_pm_out (h : o_pm g a N u sg) {k : Nat} {x : Int32} (ho : k < a ∨ a + N ≤ k) : o_pm (upd g k x) a N u sg := by
  unfold o_pm at *
  rw [o_oc_cg (g := g) (fun q h1 h2 => by simp [upd, show q ≠ k by omega])]
  exact h
theorem o_pm_put (h : o_pm g a N u sg) {k : Nat} {x : Int32} (h1 : a ≤ k) (h2 : k < a + N) (h3 : g k = 0) (hx : ¬ x = 0) : o_pm (upd g k x) a N (u + 1) (va_up sg u k) := by
  unfold o_pm at *
  have e1 : (List.range (u + 1)).map (va_up sg u k) = (List.range u).map sg ++ [k] := by
    rw [List.range_succ, List.map_append]
    congr 1
    · exact List.map_congr_left (fun i hi => by have := List.mem_range.mp hi; simp [va_up, show i ≠ u by omega])
    · simp [va_up]
  have hs : List.range' a N = List.range' a (k - a) ++ k :: List.range' (k + 1) (N - (k - a) - 1) := by
    have z := List.range'_append_1 (s := a) (m := k - a) (n := N - (k - a))
    rw [show k - a + (N - (k - a)) = N by omega, show a + (k - a) = k by omega] at z
    rw [← z]
    congr 1
    rw [show N - (k - a) = (N - (k - a) - 1) + 1 by omega, List.range'_succ]
    simp
  have eo : o_oc g a N = (List.range' a (k - a)).filter (fun q => decide (¬ g q = 0)) ++ (List.range' (k + 1) (N - (k - a) - 1)).filter (fun q => decide (¬ g q = 0)) := by
    unfold o_oc
    rw [hs, List.filter_append, List.filter_cons]
    simp [h3]
  have en : o_oc (upd g k x) a N = (List.range' a (k - a)).filter (fun q => decide (¬ g q = 0)) ++ k :: (List.range' (k + 1) (N - (k - a) - 1)).filter (fun q => decide (¬ g q = 0)) := by
    unfold o_oc
    rw [hs, List.filter_append, List.filter_cons]
    have p1 : (List.range' a (k - a)).filter (fun q => decide (¬ upd g k x q = 0)) = (List.range' a (k - a)).filter (fun q => decide (¬ g q = 0)) := List.filter_congr (fun q hq => by have := List.mem_range'_1.mp hq; simp [upd, show q ≠ k by omega])
    have p2 : (List.range' (k + 1) (N - (k - a) - 1)).filter (fun q => decide (¬ upd g k x q = 0)) = (List.range' (k + 1) (N - (k - a) - 1)).filter (fun q => decide (¬ g q = 0)) := List.filter_congr (fun q hq => by have := List.mem_range'_1.mp hq; simp [upd, show q ≠ k by omega])
    rw [p1, p2]
    simp [upd, hx]
  rw [e1, en]
  rw [eo] at h
  exact (h.append_right [k]).trans ((List.append_assoc _ _ _ ▸ (List.Perm.append_left _ (List.perm_append_singleton k _))))
end OPM
/-! finding -/
theorem z_fi_n {w : Nat → Nat → Int32} {x : Int32} : ∀ {t j : Nat}, z_fi w x t j = none ↔ ∀ i, j ≤ i → i < j + t → ¬ w i 0 = x := by
  intro t
  induction t with
  | zero => intro j; exact ⟨fun _ i h1 h2 => by omega, fun _ => rfl⟩
  | succ t ih =>
    intro j
    show (if w j 0 = x then some j else z_fi w x t (j + 1)) = none ↔ _
    by_cases h : w j 0 = x
    · rw [if_pos h]
      exact ⟨fun z => (by cases z), fun z => absurd h (z j (Nat.le_refl _) (by omega))⟩
    · rw [if_neg h, ih]
      constructor
      · intro z i h1 h2
        by_cases e : i = j
        · rw [e]; exact h
        · exact z i (by omega) (by omega)
      · intro z i h1 h2
        exact z i (by omega) (by omega)
theorem m_findF_n {g : Nat → Int32} {y : Int32} : ∀ {t j : Nat}, (y = 0 ∨ ∀ k, j ≤ k → k < j + t → ¬ g k = y) → m_findF g y t j = -1 := by
  intro t
  induction t with
  | zero => intro j h; rfl
  | succ t ih =>
    intro j h
    show (if ¬ y = 0 ∧ g j = y then nI j else m_findF g y t (j + 1)) = -1
    rw [if_neg (fun z => h.elim z.1 (fun q => q j (Nat.le_refl _) (by omega) z.2))]
    exact ih (h.imp id (fun q k h1 h2 => q k (by omega) (by omega)))
theorem m_findF_s {g : Nat → Int32} {y : Int32} {k : Nat} (hy : ¬ y = 0) (hk : g k = y) : ∀ {t j : Nat}, j ≤ k → k < j + t → (∀ q, j ≤ q → q < j + t → g q = y → q = k) → m_findF g y t j = nI k := by
  intro t
  induction t with
  | zero => intro j h1 h2; omega
  | succ t ih =>
    intro j h1 h2 hu
    show (if ¬ y = 0 ∧ g j = y then nI j else m_findF g y t (j + 1)) = nI k
    by_cases h : g j = y
    · rw [if_pos ⟨hy, h⟩, hu j (Nat.le_refl _) (by omega) h]
    · rw [if_neg (fun z => h z.2)]
      have e : j ≠ k := fun z => h (z ▸ hk)
      exact ih (by omega) (by omega) (fun q a b => hu q (by omega) (by omega))
theorem m_roomF_s {g : Nat → Int32} : ∀ {t j : Nat}, (∃ k, j ≤ k ∧ k < j + t ∧ g k = 0) → ∃ k, m_roomF g t j = nI k ∧ j ≤ k ∧ k < j + t ∧ g k = 0 := by
  intro t
  induction t with
  | zero => intro j ⟨k, h1, h2, _⟩; omega
  | succ t ih =>
    intro j ⟨k, h1, h2, h3⟩
    by_cases h : g j = 0
    · exact ⟨j, if_pos h, Nat.le_refl _, by omega, h⟩
    · have e : j ≠ k := fun z => h (z ▸ h3)
      obtain ⟨q, a, b, d, i⟩ := ih (j := j + 1) ⟨k, by omega, by omega, h3⟩
      exact ⟨q, (if_neg h).trans a, by omega, by omega, i⟩
theorem m_roomF_n {g : Nat → Int32} : ∀ {t j : Nat}, (∀ k, j ≤ k → k < j + t → ¬ g k = 0) → m_roomF g t j = -1 := by
  intro t
  induction t with
  | zero => intro j h; rfl
  | succ t ih =>
    intro j h
    exact (if_neg (h j (Nat.le_refl _) (by omega))).trans (ih (fun k h1 h2 => h k (by omega) (by omega)))
section OPF
variable {g : Nat → Int32} {a N u : Nat} {sg : Nat → Nat} {w : Nat → Nat → Int32} {x : Int32}
theorem o_find_n (h : o_pm g a N u sg) (hw : ∀ i, i < u → w i 0 = g (sg i)) (hf : z_fi w x u 0 = none) : m_findF g x N a = -1 := by
  apply m_findF_n
  by_cases hx : x = 0
  · exact Or.inl hx
  · refine Or.inr (fun k h1 h2 e => ?_)
    obtain ⟨i, hi, es⟩ := o_pm_ex h h1 h2 (fun z => hx (e.symm.trans z))
    exact z_fi_n.mp hf i (Nat.zero_le _) (by omega) (by rw [hw i hi, es, e])
theorem o_find_s (h : o_pm g a N u sg) (hw : ∀ i, i < u → w i 0 = g (sg i)) (hq : ∀ i j, i < u → j < u → w i 0 = w j 0 → i = j) {i : Nat} (hf : z_fi w x u 0 = some i) : i < u ∧ m_findF g x N a = nI (sg i) := by
  obtain ⟨-, h2, h3⟩ := z_fi_some hf
  have hi : i < u := by omega
  obtain ⟨b1, b2, b3⟩ := o_pm_in h hi
  have e : g (sg i) = x := (hw i hi).symm.trans h3
  refine ⟨hi, m_findF_s (fun z => b3 (e.trans z)) e b1 b2 (fun q q1 q2 q3 => ?_)⟩
  obtain ⟨j, hj, ej⟩ := o_pm_ex h q1 q2 (fun z => b3 (e.trans (q3.symm.trans z)))
  rw [← ej, hq j i hj hi (by rw [hw j hj, hw i hi, ej, e, q3])]
theorem o_room_s (h : o_pm g a N u sg) (hu : u < N) : ∃ k, m_roomF g N a = nI k ∧ a ≤ k ∧ k < a + N ∧ g k = 0 := by
  apply m_roomF_s
  refine Classical.byContradiction (fun hn => ?_)
  have z : (o_oc g a N).length = N := by
    unfold o_oc
    rw [List.filter_eq_self.mpr (fun k hk => by have q := List.mem_range'_1.mp hk; simp; exact fun e => hn ⟨k, q.1, q.2, e⟩)]
    simp
  rw [← o_pm_len h] at z
  omega
theorem o_room_n (h : o_pm g a N u sg) (hu : ¬ u < N) : m_roomF g N a = -1 := by
  apply m_roomF_n
  intro k h1 h2 e
  have z : (o_oc g a N).length < (List.range' a N).length := List.length_filter_lt_length_iff_exists.mpr ⟨k, List.mem_range'_1.mpr ⟨h1, h2⟩, by simp [e]⟩
  rw [← o_pm_len h, List.length_range'] at z
  exact hu z
end OPF
/-! counting -/
theorem z_cn_P {w : Nat → Nat → Int32} {m1 : Nat → Option Nat} {fv : Nat → Int32} {t : Int32} : ∀ u, z_cn w m1 fv t u = (List.range u).countP (fun i => decide (¬ z_act (w i) (m1 i) (fv i) t = 0)) := by
  intro u
  induction u with
  | zero => rfl
  | succ u ih =>
    rw [List.range_succ, List.countP_append, ← ih]
    simp [z_cn]
theorem m_cnt_P {v : Nat → Int32} {c : Nat → Nat → Int32} {y : Int32} {a : Nat} : ∀ N, m_cnt v c y a N = (o_oc (c 10) a N).countP (fun k => decide (y = 0 ∨ ¬ m_act v c k = 0)) := by
  intro N
  induction N with
  | zero => rfl
  | succ N ih =>
    unfold o_oc at *
    rw [List.range'_1_concat, List.filter_append, List.countP_append, ← ih]
    simp only [m_cnt]
    congr 1
    by_cases h1 : c 10 (a + N) = 0
    · simp [h1]
    · by_cases h2 : y = 0
      · simp [h1, h2]
      · by_cases h3 : m_act v c (a + N) = 0 <;> simp [h1, h2, h3]
theorem o_cnt_all {v : Nat → Int32} {c : Nat → Nat → Int32} {a N u : Nat} {sg : Nat → Nat} (h : o_pm (c 10) a N u sg) : m_cnt v c 0 a N = u := by
  rw [m_cnt_P, o_pm_len h]
  simp
theorem o_cnt {v : Nat → Int32} {c : Nat → Nat → Int32} {a N u : Nat} {sg : Nat → Nat} {w : Nat → Nat → Int32} {m1 : Nat → Option Nat} {fv : Nat → Int32} {t y : Int32} (h : o_pm (c 10) a N u sg) (hy : ¬ y = 0) (ha : ∀ i, i < u → z_act (w i) (m1 i) (fv i) t = m_act v c (sg i)) : m_cnt v c y a N = z_cn w m1 fv t u := by
  rw [m_cnt_P, z_cn_P, ← h.countP_eq, List.countP_map]
  apply List.countP_congr
  intro i hi
  simp [hy, ha i (List.mem_range.mp hi)]
theorem m_tok_P {v : Nat → Int32} {c : Nat → Nat → Int32} : ∀ N, m_tok v c N = m_cnt v c 1 16 N := by
  intro N
  induction N with
  | zero => rfl
  | succ N ih =>
    simp only [m_tok, m_cnt, ih]
    congr 1
    by_cases h : m_act v c (16 + N) = 0
    · simp [h]
    · have z : ¬ c 10 (16 + N) = 0 := fun z => h (if_pos (Or.inl z))
      simp [h, z]
theorem m_cnt_sp {v : Nat → Int32} {c : Nat → Nat → Int32} {y : Int32} {a n : Nat} : ∀ N, m_cnt v c y a (n + N) = m_cnt v c y a n + m_cnt v c y (a + n) N := by
  intro N
  induction N with
  | zero => rfl
  | succ N ih =>
    rw [← Nat.add_assoc]
    simp only [m_cnt, ih, Nat.add_assoc]
theorem m_tok_2 {v : Nat → Int32} {c : Nat → Nat → Int32} : m_tok v c 48 = m_cnt v c 1 16 24 + m_cnt v c 1 40 24 := by
  rw [m_tok_P]
  exact m_cnt_sp (n := 24) 24
/-! sweeping -/
theorem m_swc_P {g e : Nat → Int32} {t : Int32} : ∀ j, m_swc g e t j = (o_oc g 0 j).countP (fun k => decide (e k ≤ t)) := by
  intro j
  induction j with
  | zero => rfl
  | succ j ih =>
    unfold o_oc at *
    rw [List.range'_1_concat, List.filter_append, List.countP_append, ← ih]
    simp only [m_swc]
    congr 1
    rw [Nat.zero_add]
    by_cases h1 : g j = 0
    · simp [h1]
    · by_cases h2 : e j ≤ t <;> simp [h1, h2]
theorem o_oc_ap {g : Nat → Int32} {a m n : Nat} : o_oc g a (m + n) = o_oc g a m ++ o_oc g (a + m) n := by
  unfold o_oc
  rw [← List.range'_append_1, List.filter_append]
theorem m_swc_3 {g e : Nat → Int32} {t : Int32} : m_swc g e t 64 = (o_oc g 0 16).countP (fun k => decide (e k ≤ t)) + (o_oc g 16 24).countP (fun k => decide (e k ≤ t)) + (o_oc g 40 24).countP (fun k => decide (e k ≤ t)) := by
  rw [m_swc_P, show (64 : Nat) = 16 + 24 + 24 from rfl, o_oc_ap, o_oc_ap, List.countP_append, List.countP_append]
theorem o_sw {g e : Nat → Int32} {t : Int32} {a N u kk : Nat} {sg pi : Nat → Nat} {w : Nat → Nat → Int32} (h : o_pm g a N u sg) (hN : a + N ≤ 64) (hw : ∀ i, i < u → w i 3 = e (sg i)) (hp : z_perm w t u kk pi) :
    o_pm (m_sw g e t 64) a N kk (fun i => sg (pi i)) ∧ u - kk = (o_oc g a N).countP (fun k => decide (e k ≤ t)) := by
  have e1 : o_oc (m_sw g e t 64) a N = (o_oc g a N).filter (fun k => decide (t < e k)) := by
    unfold o_oc
    rw [List.filter_filter]
    apply List.filter_congr
    intro k hk
    have z := List.mem_range'_1.mp hk
    unfold m_sw
    by_cases h1 : g k = 0
    · simp [h1]
    · by_cases h2 : e k ≤ t
      · simp [h1, h2, show k < 64 by omega, Int32.not_lt.mpr h2]
      · simp [h1, h2, Int32.not_le.mp h2]
  have e2 : (List.range kk).map (fun i => sg (pi i)) = ((List.range u).map sg).filter (fun k => decide (t < e k)) := by
    rw [show (fun i => sg (pi i)) = sg ∘ pi from rfl, ← List.map_map, hp, List.filter_map]
    congr 1
    apply List.filter_congr
    intro i hi
    simp [hw i (List.mem_range.mp hi)]
  constructor
  · unfold o_pm
    rw [e1, e2]
    exact h.filter _
  · have l1 := congrArg List.length e2
    rw [List.length_map, List.length_range, (h.filter _).length_eq] at l1
    have l2 := o_pm_len h
    have l3 : (o_oc g a N).length = (o_oc g a N).countP (fun k => decide (e k ≤ t)) + (o_oc g a N).countP (fun k => decide (t < e k)) := by
      rw [List.length_eq_countP_add_countP (fun k => decide (e k ≤ t))]
      congr 1
      apply List.countP_congr
      intro k _
      simp
    rw [List.countP_eq_length_filter (p := fun k => decide (t < e k))] at l3
    omega
