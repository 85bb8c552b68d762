/-! The words for what small methods answer. -/
def z_some (x : Int32) : Int32 := if x < 1 ∨ 15 < x then 0 else 1
def z_within (x y : Int32) : Int32 := if x &&& (y ^^^ (-1)) = 0 then 1 else 0
def z_text (x : Int32) : Int32 := if x < 32 ∨ 126 < x then 0 else 1
def z_kept (x : Int32) : Int32 := if 1 < (if x < 1000 then x else 1000) then (if x < 1000 then x else 1000) else 1
def z_at (n : Nat) (x : Nat → Int32) (i : Int32) : Int32 := if i < 0 ∨ nI n ≤ i then -1 else x i.toNatClampNeg
theorem z_at_in {n j : Nat} {x : Nat → Int32} (hj : j < n) (hn : n < 2 ^ 31) : z_at n x (nI j) = x j := by
  have h1 : ¬ nI j < 0 := nI_pos (by omega)
  have h2 : ¬ nI n ≤ nI j := nI_ge hj hn
  simp [z_at, h1, h2, nI_clamp (show j < 2 ^ 31 by omega)]
theorem hm_ix {i : Int32} {n : Nat} (h1 : ¬ i < 0) (h2 : ¬ nI n ≤ i) (hn : n < 2 ^ 31) : ∃ j : Nat, j < n ∧ i = nI j := by
  rcases pk_ix i hn with h | h | h
  · exact absurd h h1
  · exact absurd h h2
  · exact h
def m_kept (x : Int32) : Int32 := if x < 1 then 1 else if 1000 < x then 1000 else x
def m_from (x : Int32) : Int32 := if x = 0 then 0 else if x = 1 then 16 else 40
def m_to (x : Int32) : Int32 := if x = 0 then 16 else if x = 1 then 40 else 64
def m_isC (n x : Int32) : Int32 := if x < 0 ∨ n ≤ x then 0 else 1
def m_tick (x : Int32) : Int32 := if x < 0 ∨ ¬ x ≤ 10000 then 0 else 1
def m_tickV (v : Nat → Int32) (x : Int32) : Nat → Int32 := if x < 0 ∨ ¬ x ≤ 10000 then v else upd v 4 (v 4 + x)
abbrev gr0 : List Value := [.int 0, .int 0, .int 0, .int 0, .int 0, .int 0, .int 0, .int 0, .null]
/-- fresh rows of a shelf: they weren't there before, they are blank, each another one -/
def hm_rows0 (f f1 : hm) (g : Nat → Option Nat) (N : Nat) : Prop := (∀ i, i < N → ∃ q, g i = some q ∧ f q = none ∧ f1 q = some (.inr (3, gr0))) ∧ ∀ i j, i < N → j < N → g i = g j → i = j
theorem hm_rows0_0 {f f1 : hm} {g : Nat → Option Nat} : hm_rows0 f f1 g 0 := ⟨fun i h => absurd h (Nat.not_lt_zero i), fun i j h => absurd h (Nat.not_lt_zero i)⟩
theorem hm_rows0_add {f fL f1 : hm} {g : Nat → Option Nat} {j q a : Nat} {x : ClassId × vp_A} (h : hm_rows0 f fL g j) (ha : fL a = some (.inl x)) (hq : fL q = none) (hq0 : f q = none) (h1 : f1 q = some (.inr (3, gr0))) (hk : ∀ (b : Nat) (y : va_E), b ≠ a → fL b = some y → f1 b = some y) : hm_rows0 f f1 (va_up g j (some q)) (j + 1) := by
  refine ⟨fun i hi => ?_, fun i i' hi hi' hg => ?_⟩
  · by_cases e : i = j
    · exact ⟨q, by simp [va_up, e], hq0, h1⟩
    · obtain ⟨b, hb, hb0, hb1⟩ := h.1 i (by omega)
      exact ⟨b, by simp [va_up, e, hb], hb0, hk b _ (hm_neA hb1 ha) hb1⟩
  · have key : ∀ z, z < j → g z ≠ some q := by
      intro z hz q2
      obtain ⟨b, hb, hb0, hb1⟩ := h.1 z hz
      rw [hb] at q2
      cases q2
      rw [hq] at hb1
      cases hb1
    by_cases e : i = j
    · by_cases e' : i' = j
      · omega
      · simp [va_up, e, e'] at hg
        exact absurd hg.symm (key i' (by omega))
    · by_cases e' : i' = j
      · simp [va_up, e, e'] at hg
        exact absurd hg (key i (by omega))
      · simp [va_up, e, e'] at hg
        exact h.2 i i' (by omega) (by omega) hg
/-- a grant's cell: its numbers w (number, owner, scopes, end, redirect, challenge, spent, revoked), its family -/
abbrev gV (w : Nat → Int32) (m1 : Option Nat) : List Value := [.int (w 0), .int (w 1), .int (w 2), .int (w 3), .int (w 4), .int (w 5), .int (w 6), .int (w 7), va_rf m1]
def z_act (w : Nat → Int32) (m1 : Option Nat) (fv x : Int32) : Int32 := if ¬ w 6 = 0 ∨ ¬ w 7 = 0 ∨ (¬ m1 = none ∧ ¬ fv = 0) ∨ w 3 ≤ x then 0 else 1
def z_full (u N : Nat) : Int32 := if u < N then 0 else 1
theorem z_full_lt {u N : Nat} (h : u < N) : z_full u N = 0 := by simp [z_full, h]
theorem z_full_ge {u N : Nat} (h : ¬ u < N) : z_full u N = 1 := by simp [z_full, h]
theorem hm_pr_up {L : List Nat} {f f1 : hm} {a : Nat} {e : va_E} (h : ∀ q ∈ L, f q ≠ none) (he : f1 = hm_up f a e) : ∀ q ∈ L, f1 q ≠ none := by
  intro q hq
  rw [he]
  by_cases z : q = a
  · rw [z, hm_up_s]; exact fun w => by cases w
  · rw [hm_up_n z]; exact h q hq
theorem hm_pr_new {L : List Nat} {f f1 : hm} {a : Nat} {e : va_E} (h : ∀ q ∈ L, f q ≠ none) (he : f1 = hm_up f a e) : ∀ q ∈ a :: L, f1 q ≠ none := by
  intro q hq
  rcases List.mem_cons.mp hq with hq | hq
  · rw [he, hq, hm_up_s]; exact fun w => by cases w
  · exact hm_pr_up h he q hq
theorem hm_nd_new {L : List Nat} {f : hm} {a : Nat} (hn : L.Nodup) (h : ∀ q ∈ L, f q ≠ none) (hz : f a = none) : (a :: L).Nodup := List.nodup_cons.mpr ⟨fun hq => h a hq hz, hn⟩
theorem hm_nd_at {L : List Nat} (h : L.Nodup) {i j a b : Nat} (hi : L[i]? = some a) (hj : L[j]? = some b) (e : a = b) : i = j := by
  exact (List.getElem?_inj (List.getElem?_eq_some_iff.mp hi).1 h).mp (by rw [hi, hj, e])
def m_fromN (x : Int32) : Nat := if x = 0 then 0 else if x = 1 then 16 else 40
def m_toN (x : Int32) : Nat := if x = 0 then 16 else if x = 1 then 40 else 64
theorem m_from_eq (x : Int32) : m_from x = nI (m_fromN x) := by
  unfold m_from m_fromN
  split
  · rfl
  · split <;> rfl
theorem m_to_eq (x : Int32) : m_to x = nI (m_toN x) := by
  unfold m_to m_toN
  split
  · rfl
  · split <;> rfl
theorem m_ft (x : Int32) : m_fromN x ≤ m_toN x ∧ m_toN x ≤ 64 := by
  unfold m_fromN m_toN
  split
  · omega
  · split <;> omega
/-- the first place from k on, of t places, that holds y (y not zero) -/
def m_findF (g : Nat → Int32) (y : Int32) : Nat → Nat → Int32
  | 0, _ => -1
  | t + 1, j => if ¬ y = 0 ∧ g j = y then nI j else m_findF g y t (j + 1)
/-- the first place from k on, of t places, that holds zero -/
def m_roomF (g : Nat → Int32) : Nat → Nat → Int32
  | 0, _ => -1
  | t + 1, j => if g j = 0 then nI j else m_roomF g t (j + 1)
def m_act (v : Nat → Int32) (c : Nat → Nat → Int32) (j : Nat) : Int32 := if c 10 j = 0 ∨ ¬ c 14 j = 0 ∨ c 13 j ≤ v 4 ∨ (¬ c 15 j < 0 ∧ ¬ c 21 (c 15 j).toNatClampNeg = 0) then 0 else 1
theorem hm_pr_fr {L : List Nat} {f f1 : hm} {m1 : Nat} {y : va_E} (h : ∀ q ∈ L, f q ≠ none) (hfr : ∀ (q : Nat) (x : va_E), q ≠ m1 → f q = some x → f1 q = some x) (hm : f1 m1 = some y) : ∀ q ∈ L, f1 q ≠ none := by
  intro q hq
  by_cases z : q = m1
  · rw [z, hm]; exact fun w => by cases w
  · cases hf : f q with
    | none => exact absurd hf (h q hq)
    | some x => rw [hfr q x z hf]; exact fun w => by cases w
theorem hm_pr_cons {L : List Nat} {f1 : hm} {a : Nat} {y : va_E} (h : ∀ q ∈ L, f1 q ≠ none) (ha : f1 a = some y) : ∀ q ∈ a :: L, f1 q ≠ none := by
  intro q hq
  rcases List.mem_cons.mp hq with hq | hq
  · rw [hq, ha]; exact fun w => by cases w
  · exact h q hq
theorem hm_nd_new2 {L : List Nat} {f : hm} {a b : Nat} (hn : L.Nodup) (h : ∀ q ∈ L, f q ≠ none) (ha : f a = none) (hb : f b = none) (hab : a ≠ b) : (b :: a :: L).Nodup := List.nodup_cons.mpr ⟨fun hq => by
  rcases List.mem_cons.mp hq with hq | hq
  · exact hab hq.symm
  · exact h b hq hb, hm_nd_new hn h ha⟩
theorem va_up_id {α : Type} (f : Nat → α) (k : Nat) : va_up f k (f k) = f := by
  funext j
  by_cases h : j = k
  · simp [va_up, h]
  · simp [va_up, h]
/-- the class's hash of a text, place by place -/
def z_hash (x : Nat → Int32) (n : Nat) : Nat → Int32
  | 0 => nI n
  | i + 1 => (z_hash x n i * 1000003 + x i) &&& 1073741823
/-- the reference's -/
def m_hash (x : Nat → Int32) (n : Nat) : Nat → Int64
  | 0 => (nI n).toInt64
  | i + 1 => (m_hash x n i * 1000003 + (x i).toInt64) &&& 1073741823
def m_free (g : Nat → Int32) (x : Int32) : Int32 := if x < 1 ∨ 65535 < x ∨ 0 ≤ m_findF g x 16 0 ∨ 0 ≤ m_findF g x 24 16 then 0 else 1
def m_letter (a b : Int32) (p q : Nat → Int32) (x i : Int32) : Int32 := if i < 0 ∨ (if x = 0 then a else b) ≤ i then -1 else (if x = 0 then p else q) i.toNatClampNeg
/-! The reference's object: its numbers v, its arrays c, at the addresses ad (by the numbers of the fields). -/
abbrev moV (sk : Int64) (v : Nat → Int32) (ad : Nat → Nat) : List Value := [.long sk, .int (v 1), .int (v 2), .int (v 3), .int (v 4), .ref (ad 5), .ref (ad 6), .ref (ad 7), .int (v 8), .int (v 9), .ref (ad 10), .ref (ad 11), .ref (ad 12), .ref (ad 13), .ref (ad 14), .ref (ad 15), .ref (ad 16), .ref (ad 17), .int (v 18), .ref (ad 19), .ref (ad 20), .ref (ad 21), .int (v 22), .ref (ad 23), .int (v 24), .ref (ad 25), .int (v 26), .ref (ad 27), .int (v 28), .int (v 29), .ref (ad 30)]
/-- which fields are arrays, of what kind, how long -/
def mo_t (i : Nat) : Nat := match i with
  | 14 => 1
  | 21 => 1
  | _ => 0
def mo_n (i : Nat) : Nat := match i with
  | 5 => 4 | 6 => 4 | 7 => 4
  | 10 => 64 | 11 => 64 | 12 => 64 | 13 => 64 | 14 => 64 | 15 => 64
  | 16 => 16 | 17 => 16
  | 19 => 520 | 20 => 520 | 21 => 520
  | 23 => 120 | 25 => 120 | 27 => 130 | 30 => 5
  | _ => 0
def mo (k : Nat → ClassId) (f : hm) (h : Nat) (ad : Nat → Nat) (sk : Int64) (v : Nat → Int32) (c : Nat → Nat → Int32) : Prop :=
  f h = some (.inr (8, moV sk v ad)) ∧ (∀ i, i < 31 → 0 < mo_n i → f (ad i) = some (.inl (k (mo_t i), mo_n i, .inl (c i)))) ∧ (∀ i j, i < 31 → j < 31 → 0 < mo_n i → 0 < mo_n j → ad i = ad j → i = j)
theorem mo.ne {k : Nat → ClassId} {f : hm} {h : Nat} {ad : Nat → Nat} {sk : Int64} {v : Nat → Int32} {c : Nat → Nat → Int32} (H : mo k f h ad sk v c) {i : Nat} (hi : i < 31) (hn : 0 < mo_n i) : h ≠ ad i := hm_neA H.1 (H.2.1 i hi hn)
theorem mo.arr {k : Nat → ClassId} {f : hm} {h : Nat} {ad : Nat → Nat} {sk : Int64} {v : Nat → Int32} {c : Nat → Nat → Int32} (H : mo k f h ad sk v c) (i : Nat) (hi : i < 31) (hn : 0 < mo_n i) : f (ad i) = some (.inl (k (mo_t i), mo_n i, .inl (c i))) := H.2.1 i hi hn
/-- a number is written -/
theorem mo.put {k : Nat → ClassId} {f f1 : hm} {h : Nat} {ad : Nat → Nat} {sk : Int64} {v v' : Nat → Int32} {c : Nat → Nat → Int32} (H : mo k f h ad sk v c) (e : f1 = hm_up f h (.inr (8, moV sk v' ad))) : mo k f1 h ad sk v' c :=
  ⟨hm_new1 e, fun i hi hn => hm_keep e (H.ne hi hn).symm (H.2.1 i hi hn), H.2.2⟩
/-- a place of an array is written -/
theorem mo.ast {k : Nat → ClassId} {f f1 : hm} {h : Nat} {ad : Nat → Nat} {sk : Int64} {v : Nat → Int32} {c : Nat → Nat → Int32} {g : Nat → Int32} (H : mo k f h ad sk v c) (i : Nat) (hi : i < 31) (hn : 0 < mo_n i) (e : f1 = hm_up f (ad i) (.inl (k (mo_t i), mo_n i, .inl g))) : mo k f1 h ad sk v (va_up c i g) := by
  refine ⟨hm_keep e (H.ne hi hn) H.1, fun j hj hm => ?_, H.2.2⟩
  by_cases q : j = i
  · subst q
    rw [hm_new1 e]
    simp [va_up]
  · rw [hm_keep e (fun z => q (H.2.2 j i hj hi hm hn z)) (H.2.1 j hj hm)]
    simp [va_up, q]
/-- what the reference owns -/
def mo_own (h : Nat) (ad : Nat → Nat) (q : Nat) : Prop := q = h ∨ ∃ i, i < 31 ∧ 0 < mo_n i ∧ q = ad i
theorem mo_keep1 {h : Nat} {ad : Nat → Nat} {f f1 : hm} {x : va_E} {e : va_E} {q : Nat} (hq : ¬ mo_own h ad q) (he : f1 = hm_up f h e) (h0 : f q = some x) : f1 q = some x := hm_keep he (fun z => hq (Or.inl z)) h0
theorem mo_keepA {h : Nat} {ad : Nat → Nat} {f f1 : hm} {x : va_E} {e : va_E} {q : Nat} (i : Nat) (hi : i < 31) (hn : 0 < mo_n i) (hq : ¬ mo_own h ad q) (he : f1 = hm_up f (ad i) e) (h0 : f q = some x) : f1 q = some x := hm_keep he (fun z => hq (Or.inr ⟨i, hi, hn, z⟩)) h0
/-- the reference's other cells stay -/
def mo_fr (h : Nat) (ad : Nat → Nat) (f f1 : hm) : Prop := ∀ (q : Nat) (x : va_E), ¬ mo_own h ad q → f q = some x → f1 q = some x
theorem mo_fr.rf {h : Nat} {ad : Nat → Nat} {f : hm} : mo_fr h ad f f := fun _ _ _ h => h
theorem mo_fr.put {h : Nat} {ad : Nat → Nat} {f f1 f2 : hm} {e : va_E} (H : mo_fr h ad f f1) (he : f2 = hm_up f1 h e) : mo_fr h ad f f2 := fun q x hq h0 => mo_keep1 hq he (H q x hq h0)
theorem mo_fr.ast {h : Nat} {ad : Nat → Nat} {f f1 f2 : hm} {e : va_E} (H : mo_fr h ad f f1) (i : Nat) (hi : i < 31) (hn : 0 < mo_n i) (he : f2 = hm_up f1 (ad i) e) : mo_fr h ad f f2 := fun q x hq h0 => mo_keepA i hi hn hq he (H q x hq h0)
theorem mo_fr.tr {h : Nat} {ad : Nat → Nat} {f f1 f2 : hm} (H : mo_fr h ad f f1) (K : mo_fr h ad f1 f2) : mo_fr h ad f f2 := fun q x hq h0 => K q x hq (H q x hq h0)
theorem mo.cv {k : Nat → ClassId} {f : hm} {h : Nat} {ad : Nat → Nat} {sk : Int64} {v v' : Nat → Int32} {c c' : Nat → Nat → Int32} (H : mo k f h ad sk v c) (e : v' = v) (e2 : c' = c) : mo k f h ad sk v' c' := by
  subst e; subst e2; exact H
/-- the places of the arrays' addresses in the list of what the constructor makes (the last first) -/
def mo_p (i : Nat) : Nat := match i with
  | 5 => 17 | 6 => 16 | 7 => 15 | 10 => 14 | 11 => 13 | 12 => 12 | 13 => 11 | 14 => 10 | 15 => 9 | 16 => 8 | 17 => 7 | 19 => 6 | 20 => 5 | 21 => 4 | 23 => 3 | 25 => 2 | 27 => 1 | _ => 0
theorem mo_p_inj : ∀ i, i < 31 → ∀ j, j < 31 → 0 < mo_n i → 0 < mo_n j → mo_p i = mo_p j → i = j := by decide +kernel
def mo_v0 (a b d : Int32) : Nat → Int32 := fun i => match i with
  | 1 => m_kept a
  | 2 => m_kept b
  | 3 => m_kept d
  | 9 => -1
  | _ => 0
theorem mo_inj {L : List Nat} (h : L.Nodup) (hl : L.length = 18) : ∀ i j, i < 31 → j < 31 → 0 < mo_n i → 0 < mo_n j → L.getD (mo_p i) 0 = L.getD (mo_p j) 0 → i = j := by
  intro i j hi hj h1 h2 e
  have hp : ∀ z, mo_p z < 18 := fun z => by unfold mo_p; split <;> omega
  have g : ∀ z, L[mo_p z]? = some (L.getD (mo_p z) 0) := fun z => by
    rw [List.getD_eq_getElem?_getD, List.getElem?_eq_getElem (by rw [hl]; exact hp z)]
    rfl
  exact mo_p_inj i hi j hj h1 h2 (hm_nd_at h (g i) (g j) e)
/-! The class's object: its numbers u, the addresses ad of what it holds (3 to 11 its fields; 14 to 16 the shelves' arrays, 17 to 19 the texts' arrays, 20 and 21 the reader's). -/
abbrev gsV (u : Nat → Int32) (ad : Nat → Nat) : List Value := [.int (u 0), .int (u 1), .int (u 2), .ref (ad 3), .ref (ad 4), .ref (ad 5), .ref (ad 6), .ref (ad 7), .ref (ad 8), .ref (ad 9), .ref (ad 10), .ref (ad 11), .int (u 12), .int (u 13), .int (u 14), .int (u 15)]
def gs_N (i : Nat) : Nat := match i with
  | 0 => 16
  | _ => 24
def gs (k : Nat → ClassId) (f : hm) (h : Nat) (ad : Nat → Nat) (u : Nat → Int32) (cn : Nat → Option Nat) (us : Nat → Nat) (g : Nat → Nat → Option Nat) (tn : Nat → Nat) (tx : Nat → Nat → Int32) (rd rs : Nat → Int32) (ra ky : Int32) : Prop :=
  f h = some (.inr (0, gsV u ad)) ∧ f (ad 3) = some (.inl (k 4, 4, .inr (.inr (.inr (.inr cn))))) ∧
  (∀ i, i < 3 → f (ad (4 + i)) = some (.inr (4, [.ref (ad (14 + i)), .int (nI (us i))]))) ∧ (∀ i, i < 3 → f (ad (14 + i)) = some (.inl (k 3, gs_N i, .inr (.inr (.inr (.inr (g i))))))) ∧
  (∀ i, i < 3 → f (ad (7 + i)) = some (.inr (5, [.ref (ad (17 + i)), .int (nI (tn i))]))) ∧ (∀ i, i < 3 → f (ad (17 + i)) = some (.inl (k 2, 120, .inl (tx i)))) ∧
  f (ad 10) = some (.inr (7, [.ref (ad 20), .ref (ad 21), .int ra])) ∧ f (ad 20) = some (.inl (k 0, 5, .inl rd)) ∧ f (ad 21) = some (.inl (k 1, 5, .inl rs)) ∧ f (ad 11) = some (.inr (6, [.int ky]))
def gs_ix (i : Nat) : Bool := (3 ≤ i && i ≤ 11) || (14 ≤ i && i ≤ 21)
def gs_ap (ad : Nat → Nat) : Prop := ∀ i j, i < 22 → j < 22 → gs_ix i = true → gs_ix j = true → ad i = ad j → i = j
/-- the places of the addresses in the list of what the constructor makes (the last first) -/
def gs_p (i : Nat) : Nat := match i with
  | 3 => 16 | 4 => 15 | 14 => 14 | 5 => 13 | 15 => 12 | 6 => 11 | 16 => 10 | 7 => 9 | 17 => 8 | 8 => 7 | 18 => 6 | 9 => 5 | 19 => 4 | 10 => 3 | 20 => 2 | 21 => 1 | _ => 0
theorem gs_p_inj : ∀ i, i < 22 → ∀ j, j < 22 → gs_ix i = true → gs_ix j = true → gs_p i = gs_p j → i = j := by decide +kernel
theorem gs_inj {L : List Nat} (h : L.Nodup) (hl : L.length = 17) : gs_ap (fun i => L.getD (gs_p i) 0) := by
  intro i j hi hj h1 h2 e
  have hp : ∀ z, gs_p z < 17 := fun z => by unfold gs_p; split <;> omega
  have g : ∀ z, L[gs_p z]? = some (L.getD (gs_p z) 0) := fun z => by
    rw [List.getD_eq_getElem?_getD, List.getElem?_eq_getElem (by rw [hl]; exact hp z)]
    rfl
  exact gs_p_inj i hi j hj h1 h2 (hm_nd_at h (g i) (g j) e)
def gs_u0 (a b d : Int32) : Nat → Int32 := fun i => match i with
  | 0 => z_kept a
  | 1 => z_kept b
  | 2 => z_kept d
  | 13 => -1
  | _ => 0
/-- the shelves' rows: fresh, blank, each another one -/
def gs_r0 (f f1 : hm) (g : Nat → Nat → Option Nat) : Prop := (∀ s, s < 3 → ∀ i, i < gs_N s → ∃ q, g s i = some q ∧ f q = none ∧ f1 q = some (.inr (3, gr0))) ∧ ∀ s, s < 3 → ∀ i, i < gs_N s → ∀ s', s' < 3 → ∀ j, j < gs_N s' → g s i = g s' j → s = s' ∧ i = j
abbrev G0 : va_E := .inr (3, gr0)
theorem gs_r0_mk {f f1 a0 b0 a1 b1 a2 b2 : hm} {g0 g1 g2 : Nat → Option Nat} (h0 : hm_rows0 a0 b0 g0 16) (h1 : hm_rows0 a1 b1 g1 24) (h2 : hm_rows0 a2 b2 g2 24)
    (z0 : ∀ q, a0 q = none → f q = none) (z1 : ∀ q, a1 q = none → f q = none) (z2 : ∀ q, a2 q = none → f q = none)
    (e0 : ∀ q, b0 q = some G0 → f1 q = some G0) (e1 : ∀ q, b1 q = some G0 → f1 q = some G0) (e2 : ∀ q, b2 q = some G0 → f1 q = some G0)
    (d01 : ∀ q, b0 q = some G0 → a1 q = some G0) (d02 : ∀ q, b0 q = some G0 → a2 q = some G0) (d12 : ∀ q, b1 q = some G0 → a2 q = some G0) :
    gs_r0 f f1 (fun s => match s with | 0 => g0 | 1 => g1 | _ => g2) := by
  have k01 : ∀ i j, i < 16 → j < 24 → g0 i ≠ g1 j := by
    intro i j hi hj e
    obtain ⟨q, hq, -, hq1⟩ := h0.1 i hi
    obtain ⟨r, hr, hr0, -⟩ := h1.1 j hj
    rw [hq, hr] at e
    cases e
    rw [d01 q hq1] at hr0
    cases hr0
  have k02 : ∀ i j, i < 16 → j < 24 → g0 i ≠ g2 j := by
    intro i j hi hj e
    obtain ⟨q, hq, -, hq1⟩ := h0.1 i hi
    obtain ⟨r, hr, hr0, -⟩ := h2.1 j hj
    rw [hq, hr] at e
    cases e
    rw [d02 q hq1] at hr0
    cases hr0
  have k12 : ∀ i j, i < 24 → j < 24 → g1 i ≠ g2 j := by
    intro i j hi hj e
    obtain ⟨q, hq, -, hq1⟩ := h1.1 i hi
    obtain ⟨r, hr, hr0, -⟩ := h2.1 j hj
    rw [hq, hr] at e
    cases e
    rw [d12 q hq1] at hr0
    cases hr0
  refine ⟨fun s hs i hi => ?_, fun s hs i hi s' hs' j hj e => ?_⟩
  · match s, hs, hi with
    | 0, _, hi => obtain ⟨q, a, b, c⟩ := h0.1 i hi; exact ⟨q, a, z0 q b, e0 q c⟩
    | 1, _, hi => obtain ⟨q, a, b, c⟩ := h1.1 i hi; exact ⟨q, a, z1 q b, e1 q c⟩
    | 2, _, hi => obtain ⟨q, a, b, c⟩ := h2.1 i hi; exact ⟨q, a, z2 q b, e2 q c⟩
    | n + 3, hs, _ => omega
  · match s, hs, hi, s', hs', hj, e with
    | 0, _, hi, 0, _, hj, e => exact ⟨rfl, h0.2 i j hi hj e⟩
    | 0, _, hi, 1, _, hj, e => exact absurd e (k01 i j hi hj)
    | 0, _, hi, 2, _, hj, e => exact absurd e (k02 i j hi hj)
    | 1, _, hi, 0, _, hj, e => exact absurd e.symm (k01 j i hj hi)
    | 1, _, hi, 1, _, hj, e => exact ⟨rfl, h1.2 i j hi hj e⟩
    | 1, _, hi, 2, _, hj, e => exact absurd e (k12 i j hi hj)
    | 2, _, hi, 0, _, hj, e => exact absurd e.symm (k02 j i hj hi)
    | 2, _, hi, 1, _, hj, e => exact absurd e.symm (k12 j i hj hi)
    | 2, _, hi, 2, _, hj, e => exact ⟨rfl, h2.2 i j hi hj e⟩
    | n + 3, hs, _, _, _, _, _ => omega
    | _, _, _, n + 3, hs', _, _ => omega
