def z_free (o1 o2 : Option Nat) (x : Int32) : Int32 := if x < 1 ∨ 65535 < x ∨ ¬ o1 = none ∨ ¬ o2 = none then 0 else 1
def z_refuse (fr : Int32) (a b : Nat) : Int32 := if fr = 0 then -5 else if a < 24 ∧ b < 24 then 0 else -6
theorem z_full24 {a : Nat} : z_full a 24 = 0 ↔ a < 24 := by
  unfold z_full
  split <;> simp_all
/-- which rows a sweep keeps, in order: how the rows stand behind it -/
def z_perm (w : Nat → Nat → Int32) (t : Int32) (u kk : Nat) (pi : Nat → Nat) : Prop := (List.range kk).map pi = (List.range u).filter (fun i => decide (t < w i 3))
def z_pm (N : Nat) (pi : Nat → Nat) : Prop := (∀ i, i < N → pi i < N) ∧ ∀ i j, i < N → j < N → pi i = pi j → i = j
theorem z_pm_id (N : Nat) : z_pm N (fun i => i) := ⟨fun _ h => h, fun _ _ _ _ h => h⟩
theorem z_pm_swap {N a b : Nat} {pi : Nat → Nat} (h : z_pm N pi) (ha : a < N) (hb : b < N) : z_pm N (va_up (va_up pi a (pi b)) b (pi a)) := by
  have hs : ∀ i, va_up (va_up pi a (pi b)) b (pi a) i = pi (if i = b then a else if i = a then b else i) := by
    intro i
    simp only [va_up]
    split
    · rfl
    · split <;> rfl
  have hl : ∀ i, i < N → (if i = b then a else if i = a then b else i) < N := by
    intro i hi
    split
    · exact ha
    · split
      · exact hb
      · exact hi
  refine ⟨fun i hi => by rw [hs]; exact h.1 _ (hl i hi), fun i j hi hj e => ?_⟩
  rw [hs, hs] at e
  have z := h.2 _ _ (hl i hi) (hl j hj) e
  by_cases h1 : i = b <;> by_cases h2 : j = b <;> by_cases h3 : i = a <;> by_cases h4 : j = a <;> simp only [h1, h2, h3, h4, if_true, if_false] at z <;> (try split at z) <;> (try split at z) <;> omega
theorem z_perm_hit {w : Nat → Nat → Int32} {t : Int32} {j kk : Nat} {pi : Nat → Nat} (h : z_perm w t j kk pi) (hk : kk ≤ j) (hp : pi j = j) (ht : t < w j 3) : z_perm w t (j + 1) (kk + 1) (va_up (va_up pi kk (pi j)) j (pi kk)) := by
  unfold z_perm at *
  rw [List.range_succ, List.range_succ, List.map_append, List.filter_append, ← h]
  have e1 : (List.range kk).map (va_up (va_up pi kk (pi j)) j (pi kk)) = (List.range kk).map pi := by
    apply List.map_congr_left
    intro i hi
    have hi := List.mem_range.mp hi
    simp [va_up, show i ≠ j by omega, show i ≠ kk by omega]
  rw [e1]
  congr 1
  have e2 : (va_up (va_up pi kk (pi j)) j (pi kk)) kk = j := by
    by_cases e : kk = j
    · simp [va_up, e, hp]
    · simp [va_up, e, hp]
  simp [e2, ht]
theorem z_perm_miss {w : Nat → Nat → Int32} {t : Int32} {j kk : Nat} {pi : Nat → Nat} (h : z_perm w t j kk pi) (ht : ¬ t < w j 3) : z_perm w t (j + 1) kk pi := by
  unfold z_perm at *
  rw [h, List.range_succ, List.filter_append]
  simp [ht]
theorem z_comp_swap {g : Nat → Option Nat} {pi : Nat → Nat} {a b qa qb : Nat} (ha : g (pi a) = some qa) (hb : g (pi b) = some qb) : va_up (va_up (fun i => g (pi i)) a (some qb)) b (some qa) = fun i => g (va_up (va_up pi a (pi b)) b (pi a) i) := by
  funext i
  simp only [va_up]
  split
  · rw [ha]
  · split
    · rw [hb]
    · rfl
