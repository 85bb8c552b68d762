/-! Both read the same claims. -/
def o_sn (rs : Nat → Int32) : Nat := (if rs 0 = 0 then 0 else 1) + (if rs 1 = 0 then 0 else 1) + (if rs 2 = 0 then 0 else 1) + (if rs 3 = 0 then 0 else 1) + (if rs 4 = 0 then 0 else 1)
theorem o_sn_up {rs : Nat → Int32} {j : Nat} (hj : j < 5) (h : rs j = 0) : o_sn (upd rs j 1) = o_sn rs + 1 := by
  have h10 : ¬ (1 : Int32) = 0 := by decide
  match j, hj with
  | 0, _ => simp [o_sn, upd, h]; omega
  | 1, _ => simp [o_sn, upd, h]; omega
  | 2, _ => simp [o_sn, upd, h]; omega
  | 3, _ => simp [o_sn, upd, h]; omega
  | 4, _ => simp [o_sn, upd, h]
theorem o_sn_5 {rs : Nat → Int32} (h : o_sn rs = 5) : ∀ j, j < 5 → ¬ rs j = 0 := by
  unfold o_sn at h
  intro j hj e
  match j, hj, e with
  | 0, _, e => rw [if_pos e] at h; split at h <;> split at h <;> split at h <;> split at h <;> omega
  | 1, _, e => rw [if_pos e] at h; split at h <;> split at h <;> split at h <;> split at h <;> omega
  | 2, _, e => rw [if_pos e] at h; split at h <;> split at h <;> split at h <;> split at h <;> omega
  | 3, _, e => rw [if_pos e] at h; split at h <;> split at h <;> split at h <;> split at h <;> omega
  | 4, _, e => rw [if_pos e] at h; split at h <;> split at h <;> split at h <;> split at h <;> omega
theorem o_sn_lt {rs : Nat → Int32} (h : o_sn rs < 5) : ∃ j, j < 5 ∧ rs j = 0 := by
  refine Classical.byContradiction (fun hn => ?_)
  have z : ∀ j, j < 5 → ¬ rs j = 0 := fun j hj e => hn ⟨j, hj, e⟩
  simp [o_sn, z 0 (by decide), z 1 (by decide), z 2 (by decide), z 3 (by decide), z 4 (by decide)] at h
/-- the two readers' marks: seen or not, the same value -/
def o_rc (rs rd cl : Nat → Int32) : Prop := ∀ j, j < 5 → (rs j = 0 ∧ cl j < 0) ∨ (¬ rs j = 0 ∧ ¬ cl j < 0 ∧ rd j = cl j)
theorem o_mk {n p : Nat} {x : Nat → Int32} {y : Int32} : (m_mk n x p y = none ∧ z_mk n x p y = none) ∨ (∃ q, m_mk n x p y = some q ∧ z_mk n x p y = some (z_sk n x q) ∧ q = z_sk n x p + 1 ∧ z_sk n x p < n ∧ x (z_sk n x p) = y) := by
  unfold m_mk z_mk
  by_cases h : z_sk n x p < n ∧ x (z_sk n x p) = y
  · rw [if_pos h, if_pos h]
    exact Or.inr ⟨_, rfl, rfl, rfl, h.1, h.2⟩
  · rw [if_neg h, if_neg h]
    exact Or.inl ⟨rfl, rfl⟩
theorem o_nmq {n p j : Nat} {x : Nat → Int32} (h : z_nm n x p = some j) : p < n ∧ x p = 34 := by
  obtain ⟨h1, h2, h3⟩ := z_nm_some h
  exact (m_st_w h1).mp h2 |>.1
theorem o_mem {n p : Nat} {x rs rd cl : Nat → Int32} (hp : p ≤ n) (hc : o_rc rs rd cl) :
    (m_mem n x p cl = none ∧ z_mem n x (z_sk n x p) rs rd = none) ∨ ∃ p' rs' rd' cl', m_mem n x p cl = some (p', cl') ∧ z_mem n x (z_sk n x p) rs rd = some (p', rs', rd') ∧ o_rc rs' rd' cl' ∧ o_sn rs' = o_sn rs + 1 := by
  have hid := z_sk_idem (x := x) hp
  cases hn : z_nm n x (z_sk n x p) with
  | none =>
    refine Or.inl ⟨?_, ?_⟩
    · unfold m_mem
      simp only [hn]
      split <;> rfl
    · unfold z_mem
      simp only [hn]
  | some j =>
    obtain ⟨h1, h2, h3⟩ := z_nm_some hn
    have hq := o_nmq hn
    have hm : m_mk n x p 34 = some (z_sk n x p + 1) := if_pos hq
    rcases hc j h1 with ⟨c1, c2⟩ | ⟨c1, c2, c3⟩
    · have c2' : ¬ 0 ≤ cl j := Int32.not_le.mpr c2
      rcases o_mk (n := n) (p := z_sk n x p + st_len.getD (7 + j) 0) (x := x) (y := 58) with ⟨k1, k2⟩ | ⟨q, k1, k2, -⟩
      · refine Or.inl ⟨m_mem_n3 hm hn c2' k1, ?_⟩
        unfold z_mem
        simp only [hn, k2]
        rw [if_neg (fun z => z c1)]
      · by_cases hr : z_nr n x (z_sk n x q) < 0
        · refine Or.inl ⟨m_mem_n4 hm hn c2' k1 hr, ?_⟩
          unfold z_mem
          simp only [hn, k2]
          rw [if_neg (fun z => z c1), if_pos hr]
        · refine Or.inr ⟨_, upd rs j 1, upd rd j (z_nr n x (z_sk n x q)), _, m_mem_s hm hn c2' k1 hr, ?_, ?_, o_sn_up h1 c1⟩
          · unfold z_mem
            simp only [hn, k2]
            rw [if_neg (fun z => z c1), if_neg hr]
          · intro i hi
            by_cases e : i = j
            · subst e
              right
              simp [upd, hr]
            · simp only [upd, if_neg e]
              exact hc i hi
    · refine Or.inl ⟨m_mem_n2 hm hn (Int32.not_lt.mp c2), ?_⟩
      unfold z_mem
      simp only [hn]
      rw [if_pos c1]
def o_zf (n : Nat) (x : Nat → Int32) (o : Option (Nat × (Nat → Int32) × (Nat → Int32))) : Option (Nat → Int32) := match o with
  | none => none
  | some z => if z_mk n x z.1 125 = some n then some z.2.2 else none
noncomputable def o_mf (n : Nat) (x : Nat → Int32) (o : Option (Nat × (Nat → Int32))) : Option (Nat → Int32) := match o with
  | none => none
  | some z => match m_mk n x z.1 125 with
    | none => none
    | some p9 => @ite _ (z_sk n x p9 = n ∧ m_all z.2) (Classical.propDecidable _) (some z.2) none
def o_mn (n : Nat) (x : Nat → Int32) (F p : Nat) (cl : Nat → Int32) : Option (Nat × (Nat → Int32)) := match m_mk n x p 44 with
  | some p2 => m_run n x F p2 cl
  | none => some (z_sk n x p, cl)
def o_eq (a b : Option (Nat → Int32)) : Prop := (a = none ∧ b = none) ∨ ∃ a' b', a = some a' ∧ b = some b' ∧ ∀ j, j < 5 → a' j = b' j
theorem o_run {n : Nat} {x : Nat → Int32} : ∀ (t i p F : Nat) (rs rd cl : Nat → Int32), p ≤ n → i ≠ 0 → i + t = 5 → o_sn rs = i → n ≤ F + p → o_rc rs rd cl → o_eq (o_zf n x (z_run n x t i p rs rd)) (o_mf n x (o_mn n x F p cl)) := by
  intro t
  induction t with
  | zero =>
    intro i p F rs rd cl hp hi ht hs hF hc
    have h5 : ∀ j, j < 5 → ¬ cl j < 0 ∧ rd j = cl j := fun j hj => by
      rcases hc j hj with q | q
      · exact absurd q.1 (o_sn_5 (by omega) j hj)
      · exact q.2
    unfold o_mn
    rcases o_mk (n := n) (p := p) (x := x) (y := 44) with ⟨k1, k2⟩ | ⟨q, k1, k2, k3, k4, k5⟩
    · simp only [k1]
      show o_eq (if z_mk n x p 125 = some n then some rd else none) (o_mf n x (some (z_sk n x p, cl)))
      unfold o_mf
      simp only
      rcases o_mk (n := n) (p := p) (x := x) (y := 125) with ⟨e1, e2⟩ | ⟨q, e1, e2, e3, e4, e5⟩
      · have e6 : m_mk n x (z_sk n x p) 125 = none := by unfold m_mk at *; rw [z_sk_idem hp]; exact e1
        rw [e2]
        simp only [e6]
        exact Or.inl ⟨if_neg (fun z => by cases z), rfl⟩
      · have e6 : m_mk n x (z_sk n x p) 125 = some q := by unfold m_mk at *; rw [z_sk_idem hp]; exact e1
        rw [e2]
        simp only [e6]
        by_cases hz : z_sk n x q = n
        · exact Or.inr ⟨rd, cl, if_pos (by rw [hz]), if_pos ⟨hz, fun k hk => (h5 k hk).1⟩, fun j hj => (h5 j hj).2⟩
        · exact Or.inl ⟨if_neg (fun z => hz (Option.some.inj z)), if_neg (fun z => hz z.1)⟩
    · simp only [k1]
      left
      constructor
      · show (if z_mk n x p 125 = some n then some rd else none) = none
        apply if_neg
        unfold z_mk
        rw [if_neg (fun z => absurd (k5.symm.trans z.2) (by decide))]
        exact fun z => by cases z
      · have hm : m_mem n x q cl = none := by
          have hqn : q ≤ n := by omega
          rcases o_mem (rs := rs) (rd := rd) hqn hc with z | ⟨p', rs', rd', cl', z1, z2, z3, z4⟩
          · exact z.1
          · exfalso
            have := o_sn_5 (rs := rs) (by omega)
            unfold m_mem at z1
            split at z1
            · cases z1
            · split at z1
              · cases z1
              · rename_i j hj
                have hj5 := (z_nm_some hj).1
                rw [if_pos (h5 j hj5).1] at z1
                cases z1
        cases F with
        | zero => rfl
        | succ F => rw [m_run_n hm]; rfl
  | succ t ih =>
    intro i p F rs rd cl hp hi ht hs hF hc
    have hY : (if i = 0 then (123 : Int32) else 44) = 44 := if_neg hi
    unfold o_mn
    rcases o_mk (n := n) (p := p) (x := x) (y := 44) with ⟨k1, k2⟩ | ⟨q, k1, k2, k3, k4, k5⟩
    · rw [z_run_n1 (by rw [hY]; exact k2)]
      simp only [k1]
      left
      refine ⟨rfl, ?_⟩
      unfold o_mf
      simp only
      split
      · rfl
      · refine if_neg (fun z => ?_)
        obtain ⟨j, hj, e⟩ := o_sn_lt (rs := rs) (by omega)
        rcases hc j hj with w | w
        · exact z.2 j hj w.2
        · exact w.1 e
    · simp only [k1]
      have hqn : q ≤ n := by omega
      have hpq : p < q := by have := z_sk_le (x := x) hp; omega
      cases F with
      | zero => omega
      | succ F =>
        rcases o_mem (rs := rs) (rd := rd) hqn hc with z | ⟨p', rs', rd', cl', z1, z2, z3, z4⟩
        · rw [z_run_n2 (by rw [hY]; exact k2) z.2, m_run_n z.1]
          exact Or.inl ⟨rfl, rfl⟩
        · rw [z_run_s (by rw [hY]; exact k2) z2]
          have hle := m_mem_le z1 hqn
          have key := ih (i + 1) p' F rs' rd' cl' hle.1 (by omega) (by omega) (by omega) (by omega) z3
          unfold o_mn at key
          cases hk : m_mk n x p' 44 with
          | none =>
            rw [m_run_e z1 hk]
            simp only [hk] at key
            exact key
          | some p3 =>
            rw [m_run_s z1 hk]
            simp only [hk] at key
            exact key
theorem o_read {n : Nat} {x rs rd cl : Nat → Int32} : o_eq (z_read n x rs rd) (m_read n x (m_cm1 cl 5)) := by
  have hc : o_rc (z_clr rs 5) rd (m_cm1 cl 5) := fun j hj => Or.inl ⟨by simp [z_clr, hj], by simp [m_cm1, hj]⟩
  have hs : o_sn (z_clr rs 5) = 0 := by simp [o_sn, z_clr]
  show o_eq (o_zf n x (z_run n x 5 0 0 (z_clr rs 5) rd)) _
  rcases o_mk (n := n) (p := 0) (x := x) (y := 123) with ⟨k1, k2⟩ | ⟨q, k1, k2, k3, k4, k5⟩
  · rw [z_run_n1 k2]
    exact Or.inl ⟨rfl, by unfold m_read; simp only [k1]⟩
  · have hqn : q ≤ n := by omega
    have e : m_read n x (m_cm1 cl 5) = o_mf n x (m_run n x (n + 1) q (m_cm1 cl 5)) := by unfold m_read; simp only [k1]; rfl
    rw [e]
    rcases o_mem (rs := z_clr rs 5) (rd := rd) hqn hc with z | ⟨p', rs', rd', cl', z1, z2, z3, z4⟩
    · rw [z_run_n2 k2 z.2, m_run_n z.1]
      exact Or.inl ⟨rfl, rfl⟩
    · rw [z_run_s k2 z2]
      have hle := m_mem_le z1 hqn
      have key := o_run (x := x) 4 1 p' n rs' rd' cl' hle.1 (by omega) (by omega) (by omega) (by omega) z3
      unfold o_mn at key
      cases hk : m_mk n x p' 44 with
      | none =>
        rw [m_run_e z1 hk]
        simp only [hk] at key
        exact key
      | some p3 =>
        rw [m_run_s z1 hk]
        simp only [hk] at key
        exact key
