theorem z_num_stop {n t p : Nat} {x : Nat → Int32} {v : Int32} (h : ¬ (p < n ∧ ¬ x p < 48 ∧ ¬ 57 < x p)) : z_num n x t p v = (p, v) := by
  cases t with
  | zero => rfl
  | succ t => exact if_neg h
def m_cm1 (cl : Nat → Int32) (j : Nat) : Nat → Int32 := fun i => if i < j then -1 else cl i
theorem m_cm1_0 (cl : Nat → Int32) : m_cm1 cl 0 = cl := by funext i; simp [m_cm1]
theorem m_cm1_1 (cl : Nat → Int32) (j : Nat) : upd (m_cm1 cl j) j (-1) = m_cm1 cl (j + 1) := by
  funext i
  by_cases h : i = j
  · simp [upd, m_cm1, h]
  · have h3 : i < j + 1 ↔ i < j := by omega
    simp [upd, m_cm1, h, h3]
noncomputable def m_read (n : Nat) (x cl : Nat → Int32) : Option (Nat → Int32) :=
  match m_mk n x 0 123 with
  | none => none
  | some p1 => match m_run n x (n + 1) p1 cl with
    | none => none
    | some z => match m_mk n x z.1 125 with
      | none => none
      | some p9 => @ite _ (z_sk n x p9 = n ∧ m_all z.2) (Classical.propDecidable _) (some z.2) none
theorem m_run_s {n t p p2 : Nat} {x cl : Nat → Int32} {z : Nat × (Nat → Int32)} (h1 : m_mem n x p cl = some z) (h2 : m_mk n x z.1 44 = some p2) : m_run n x (t + 1) p cl = m_run n x t p2 z.2 := by
  simp only [m_run, h1, h2]
theorem m_run_e {n t p : Nat} {x cl : Nat → Int32} {z : Nat × (Nat → Int32)} (h1 : m_mem n x p cl = some z) (h2 : m_mk n x z.1 44 = none) : m_run n x (t + 1) p cl = some (z_sk n x z.1, z.2) := by
  simp only [m_run, h1, h2]
theorem m_run_n {n t p : Nat} {x cl : Nat → Int32} (h1 : m_mem n x p cl = none) : m_run n x (t + 1) p cl = none := by
  simp only [m_run, h1]
theorem m_all_ext {cl : Nat → Int32} {k : Nat} : (∀ i, i < k + 1 → ¬ cl i < 0) ↔ (∀ i, i < k → ¬ cl i < 0) ∧ ¬ cl k < 0 := by
  constructor
  · intro h; exact ⟨fun i hi => h i (by omega), h k (by omega)⟩
  · intro h; exact z_ext h.1 h.2
section MMEM
variable {n p q1 j p2 : Nat} {x cl : Nat → Int32}
theorem m_mem_n2 (h1 : m_mk n x p 34 = some q1) (h2 : z_nm n x (z_sk n x p) = some j) (h3 : 0 ≤ cl j) : m_mem n x p cl = none := by
  unfold m_mem
  simp only [h1, h2]
  rw [if_pos (Int32.not_lt.mpr h3)]
theorem m_mem_n3 (h1 : m_mk n x p 34 = some q1) (h2 : z_nm n x (z_sk n x p) = some j) (h3 : ¬ 0 ≤ cl j) (h4 : m_mk n x (z_sk n x p + st_len.getD (7 + j) 0) 58 = none) : m_mem n x p cl = none := by
  unfold m_mem
  simp only [h1, h2, h4]
  rw [if_neg (fun z => h3 (Int32.not_lt.mp z))]
theorem m_mem_n4 (h1 : m_mk n x p 34 = some q1) (h2 : z_nm n x (z_sk n x p) = some j) (h3 : ¬ 0 ≤ cl j) (h4 : m_mk n x (z_sk n x p + st_len.getD (7 + j) 0) 58 = some p2) (h5 : z_nr n x (z_sk n x p2) < 0) : m_mem n x p cl = none := by
  unfold m_mem
  simp only [h1, h2, h4]
  rw [if_neg (fun z => h3 (Int32.not_lt.mp z)), if_pos h5]
theorem m_mem_s (h1 : m_mk n x p 34 = some q1) (h2 : z_nm n x (z_sk n x p) = some j) (h3 : ¬ 0 ≤ cl j) (h4 : m_mk n x (z_sk n x p + st_len.getD (7 + j) 0) 58 = some p2) (h5 : ¬ z_nr n x (z_sk n x p2) < 0) : m_mem n x p cl = some (z_na n x (z_sk n x p2), upd cl j (z_nr n x (z_sk n x p2))) := by
  unfold m_mem
  simp only [h1, h2, h4]
  rw [if_neg (fun z => h3 (Int32.not_lt.mp z)), if_neg h5]
theorem m_read_n1 (h1 : m_mk n x 0 123 = some q1) (h2 : m_run n x (n + 1) q1 cl = none) : m_read n x cl = none := by
  unfold m_read
  simp only [h1, h2]
theorem m_read_n2 {z : Nat × (Nat → Int32)} (h1 : m_mk n x 0 123 = some q1) (h2 : m_run n x (n + 1) q1 cl = some z) (h3 : m_mk n x z.1 125 = none) : m_read n x cl = none := by
  unfold m_read
  simp only [h1, h2, h3]
theorem m_read_n3 {z : Nat × (Nat → Int32)} (h1 : m_mk n x 0 123 = some q1) (h2 : m_run n x (n + 1) q1 cl = some z) (h3 : m_mk n x z.1 125 = some p2) (h4 : ¬ (z_sk n x p2 = n ∧ ∀ i, i < 5 → ¬ z.2 i < 0)) : m_read n x cl = none := by
  unfold m_read
  simp only [h1, h2, h3]
  exact if_neg h4
theorem m_read_s {z : Nat × (Nat → Int32)} (h1 : m_mk n x 0 123 = some q1) (h2 : m_run n x (n + 1) q1 cl = some z) (h3 : m_mk n x z.1 125 = some p2) (h4 : z_sk n x p2 = n ∧ ∀ i, i < 5 → ¬ z.2 i < 0) : m_read n x cl = some z.2 := by
  unfold m_read
  simp only [h1, h2, h3]
  exact if_pos h4
theorem m_nz {al : Int32} {A B : Prop} (h : (al = 1 ∧ A) ∨ (al = 0 ∧ B)) : narrow .boolean (.int al) = .int al := by
  rcases h with h | h <;> rw [h.1] <;> rfl
end MMEM
