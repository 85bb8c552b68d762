theorem upd_uu (f : Nat → Int32) (k : Nat) (a b : Int32) : upd (upd f k a) k b = upd f k b := by
  funext j
  by_cases h : j = k <;> simp [upd, h]
section HML
variable {p : Program} {l : Launch} {e : Env} {R : Room} {s : State} {m : MethodId} {args : Array Value} {below : List Frame} {meth : Method} {c : Code} {H : Heap} {locs : List Loc} {cells slots : Nat} {Q : State → Prop} {pc : Nat} {ls : Array Slot} {rest : List Value}
theorem hm_topl {x z : Int64} (h : x = z) (k : W p l e R s m args below meth c H locs cells slots Q (F0 m pc ls (.long z :: rest))) : W p l e R s m args below meth c H locs cells slots Q (F0 m pc ls (.long x :: rest)) := h ▸ k
end HML
def m_sign (x : Int32) : Int32 := if ¬ 26 ≤ x then 65 + x else if ¬ 52 ≤ x then 97 + x - 26 else if ¬ 62 ≤ x then 48 + x - 52 else if x = 62 then 45 else 95
theorem m_sign_eq : ∀ v, v < 64 → m_sign (nI v) = nI (st_chr 6 v) := by decide +kernel
def m_sval (x : Int32) : Int32 := if ¬ x < 65 ∧ ¬ 90 < x then x - 65 else if ¬ x < 97 ∧ ¬ 122 < x then x - 97 + 26 else if ¬ x < 48 ∧ ¬ 57 < x then x - 48 + 52 else if x = 45 then 62 else if x = 95 then 63 else -1
def m_bit (n : Nat) (ch : Nat → Nat) (q : Nat) : Nat := if q < 8 * n then ch (q / 8) / 2 ^ (7 - q % 8) % 2 else 0
def m_six (n : Nat) (ch : Nat → Nat) (b : Nat) : Nat → Nat
  | 0 => 0
  | t + 1 => 2 * m_six n ch b t + m_bit n ch (b + t)
theorem m_bit_lt (n : Nat) (ch : Nat → Nat) (q : Nat) : m_bit n ch q < 2 := by
  unfold m_bit
  split
  · exact Nat.mod_lt _ (by decide)
  · decide
theorem m_six_lt (n : Nat) (ch : Nat → Nat) (b : Nat) : ∀ t, m_six n ch b t < 2 ^ t := by
  intro t
  induction t with
  | zero => simp [m_six]
  | succ t ih =>
    have h := m_bit_lt n ch (b + t)
    rw [m_six, Nat.pow_succ]
    omega
theorem m_bit_eq {c9 t : Nat} (hc : c9 < 256) (ht : t ≤ 7) : (nI c9 >>> ((7 - nI t) &&& 31)) &&& 1 = nI (c9 / 2 ^ (7 - t) % 2) := by
  have e2 : (7 : Int32) - nI t = nI (7 - t) := pk_sub (a := 7) ht
  have e4 : c9 / 2 ^ (7 - t) ≤ c9 := Nat.div_le_self _ _
  rw [e2, pk_shrN (by omega) _ (7 - t) (s_l _ (by omega)), pk_andN (by omega) 1 (by decide)]
theorem m_six_eq {n : Nat} {x : Nat → Int32} {ch : Nat → Nat} {i : Nat} (hx : ∀ j, j < n → x j = nI (ch j) ∧ ch j < 256) (hi : 6 * i < 8 * n) : m_six n ch (6 * i) 6 = z_six n ch i := by
  have hr : 6 * i % 8 = 0 ∨ 6 * i % 8 = 2 ∨ 6 * i % 8 = 4 ∨ 6 * i % 8 = 6 := by omega
  have h0 := (hx (6 * i / 8) (by omega)).2
  have h1 := z_c2_lt hx (6 * i / 8 + 1)
  have hb : ∀ t, t < 6 → m_bit n ch (6 * i + t) = if 6 * i % 8 + t < 8 then ch (6 * i / 8) / 2 ^ (7 - (6 * i % 8 + t)) % 2 else z_c2 n ch (6 * i / 8 + 1) / 2 ^ (15 - (6 * i % 8 + t)) % 2 := by
    intro t ht
    unfold m_bit z_c2
    by_cases hq : 6 * i % 8 + t < 8
    · rw [if_pos (by omega), if_pos hq, show (6 * i + t) / 8 = 6 * i / 8 by omega, show (6 * i + t) % 8 = 6 * i % 8 + t by omega]
    · rw [if_neg hq]
      by_cases hz : 6 * i / 8 + 1 < n
      · rw [if_pos (by omega), if_pos hz, show (6 * i + t) / 8 = 6 * i / 8 + 1 by omega, show 7 - (6 * i + t) % 8 = 15 - (6 * i % 8 + t) by omega]
      · rw [if_neg (by omega), if_neg hz]
        simp
  have e : m_six n ch (6 * i) 6 = 32 * m_bit n ch (6 * i + 0) + 16 * m_bit n ch (6 * i + 1) + 8 * m_bit n ch (6 * i + 2) + 4 * m_bit n ch (6 * i + 3) + 2 * m_bit n ch (6 * i + 4) + m_bit n ch (6 * i + 5) := by
    simp only [m_six]
    omega
  rw [e, hb 0 (by decide), hb 1 (by decide), hb 2 (by decide), hb 3 (by decide), hb 4 (by decide), hb 5 (by decide)]
  unfold z_six
  generalize ch (6 * i / 8) = a at *
  generalize z_c2 n ch (6 * i / 8 + 1) = b at *
  rcases hr with hr | hr | hr | hr <;> rw [hr] <;> simp <;> omega
theorem hm_inc6 (j : Nat) : nI (6 * j) + Int32.ofInt 6 = nI (6 * (j + 1)) := nI_add (6 * j) 6
theorem z_seal_upd {z : Int64} {g : Nat → Int32} {j : Nat} {x : Int32} : z_mix (z_seal z g j) x = z_seal z (upd g j x) (j + 1) := by
  show _ = z_mix (z_seal z (upd g j x) j) (upd g j x j)
  rw [z_seal_congr (y := upd g j x) (y' := g) (fun i hi => by simp [upd, show i ≠ j by omega])]
  simp [upd]
def m_ss (z : Int64) (t : Nat) : Int32 := ((z >>> ((6 * (9 - nI t) : Int32).toInt64 &&& 63)) &&& 63).toInt32
theorem m_k9 : ∀ j, j < 11 → ((9 - nI j : Int32) < 0 ↔ 9 < j) := by decide +kernel
theorem m_dec : ∀ j, j < 11 → (9 - nI j : Int32) + Int32.ofInt (-1) = 9 - nI (j + 1) := by decide +kernel
/-- the sweep's first j slots -/
def m_sw (g e : Nat → Int32) (t : Int32) (j : Nat) : Nat → Int32 := fun i => if i < j ∧ ¬ g i = 0 ∧ e i ≤ t then 0 else g i
def m_swc (g e : Nat → Int32) (t : Int32) : Nat → Nat
  | 0 => 0
  | j + 1 => m_swc g e t j + (if ¬ g j = 0 ∧ e j ≤ t then 1 else 0)
theorem m_sw_hit {g e : Nat → Int32} {t : Int32} {j : Nat} (h1 : ¬ g j = 0) (h2 : e j ≤ t) : upd (m_sw g e t j) j 0 = m_sw g e t (j + 1) := by
  funext i
  by_cases h : i = j
  · simp [upd, m_sw, h, h1, h2]
  · have h3 : i < j + 1 ↔ i < j := by omega
    simp [upd, m_sw, h, h3]
theorem m_sw_miss {g e : Nat → Int32} {t : Int32} {j : Nat} (h1 : g j = 0 ∨ ¬ e j ≤ t) : m_sw g e t j = m_sw g e t (j + 1) := by
  funext i
  by_cases h : i = j
  · rcases h1 with h1 | h1 <;> simp [m_sw, h, h1]
  · have h3 : i < j + 1 ↔ i < j := by omega
    simp [m_sw, h3]
theorem m_sw_at {g e : Nat → Int32} {t : Int32} {j : Nat} : m_sw g e t j j = g j := by simp [m_sw]
theorem m_sw_0 {g e : Nat → Int32} {t : Int32} : m_sw g e t 0 = g := by funext i; simp [m_sw]
def m_cnt (v : Nat → Int32) (c : Nat → Nat → Int32) (y : Int32) (a : Nat) : Nat → Nat
  | 0 => 0
  | t + 1 => m_cnt v c y a t + (if c 10 (a + t) = 0 ∨ (¬ y = 0 ∧ m_act v c (a + t) = 0) then 0 else 1)
def m_tok (v : Nat → Int32) (c : Nat → Nat → Int32) : Nat → Nat
  | 0 => 0
  | t + 1 => m_tok v c t + (if m_act v c (16 + t) = 0 then 0 else 1)
theorem m_act_01 (v : Nat → Int32) (c : Nat → Nat → Int32) (j : Nat) : m_act v c j = 0 ∨ m_act v c j = 1 := by
  unfold m_act
  split
  · exact Or.inl rfl
  · exact Or.inr rfl
theorem m_act_b {v : Nat → Int32} {c : Nat → Nat → Int32} {j : Nat} (h : ¬ m_act v c j = 0) : m_act v c j = 1 := (m_act_01 v c j).resolve_left h
