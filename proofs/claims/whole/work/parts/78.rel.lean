/-! The class's state as numbers, and how it stands to the reference's. -/
def cS : Type := (Nat → Int32) × (Nat) × (Nat → Nat → Int32) × (Nat → Nat) × (Nat → Nat → Nat → Int32) × (Nat → Nat → Option Nat) × (Nat) × (Nat → Nat → Int32) × (Nat → Nat) × (Nat → Nat → Int32) × (Nat → Int32) × (Nat → Int32) × (Int32) × (Int32)
def cSm (u : Nat → Int32) (nc : Nat) (cl : Nat → Nat → Int32) (us : Nat → Nat) (w : Nat → Nat → Nat → Int32) (fm : Nat → Nat → Option Nat) (nf : Nat) (fa : Nat → Nat → Int32) (tn : Nat → Nat) (tx : Nat → Nat → Int32) (rd : Nat → Int32) (rs : Nat → Int32) (ra : Int32) (ky : Int32) : cS := (u, nc, cl, us, w, fm, nf, fa, tn, tx, rd, rs, ra, ky)
def cS.u (S : cS) : Nat → Int32 := S.1
def cS.nc (S : cS) : Nat := S.2.1
def cS.cl (S : cS) : Nat → Nat → Int32 := S.2.2.1
def cS.us (S : cS) : Nat → Nat := S.2.2.2.1
def cS.w (S : cS) : Nat → Nat → Nat → Int32 := S.2.2.2.2.1
def cS.fm (S : cS) : Nat → Nat → Option Nat := S.2.2.2.2.2.1
def cS.nf (S : cS) : Nat := S.2.2.2.2.2.2.1
def cS.fa (S : cS) : Nat → Nat → Int32 := S.2.2.2.2.2.2.2.1
def cS.tn (S : cS) : Nat → Nat := S.2.2.2.2.2.2.2.2.1
def cS.tx (S : cS) : Nat → Nat → Int32 := S.2.2.2.2.2.2.2.2.2.1
def cS.rd (S : cS) : Nat → Int32 := S.2.2.2.2.2.2.2.2.2.2.1
def cS.rs (S : cS) : Nat → Int32 := S.2.2.2.2.2.2.2.2.2.2.2.1
def cS.ra (S : cS) : Int32 := S.2.2.2.2.2.2.2.2.2.2.2.2.1
def cS.ky (S : cS) : Int32 := S.2.2.2.2.2.2.2.2.2.2.2.2.2
def o_a (s : Nat) : Nat := match s with
  | 0 => 0
  | 1 => 16
  | _ => 40
/-- a row and its slot -/
def o_row (s : Nat) (w : Nat → Int32) (fm : Option Nat) (nf : Nat) (c : Nat → Nat → Int32) (k : Nat) : Prop :=
  (w 0 = c 10 k) ∧
  (w 1 = c 11 k) ∧
  (w 2 = c 12 k) ∧
  (w 3 = c 13 k) ∧
  (∃ q, q ≤ 15 ∧ w 2 = nI q) ∧
  (c 14 k = 0 ↔ w 6 = 0 ∧ w 7 = 0) ∧
  ((fm = none ∧ c 15 k < 0) ∨ ∃ t, fm = some t ∧ t < nf ∧ c 15 k = nI t) ∧
  (s = 0 → w 4 = c 16 k ∧ w 5 = c 17 k ∧ w 7 = 0 ∧ (w 6 = 0 ↔ fm = none)) ∧
  (s = 1 → w 7 = 0 ∧ ¬ fm = none) ∧
  (s = 2 → w 6 = 0 ∧ ¬ fm = none)
theorem o_row.n0 {s : Nat} {w : Nat → Int32} {fm : Option Nat} {nf : Nat} {c : Nat → Nat → Int32} {k : Nat} (H : o_row s w fm nf c k) : w 0 = c 10 k := H.1
theorem o_row.n1 {s : Nat} {w : Nat → Int32} {fm : Option Nat} {nf : Nat} {c : Nat → Nat → Int32} {k : Nat} (H : o_row s w fm nf c k) : w 1 = c 11 k := H.2.1
theorem o_row.n2 {s : Nat} {w : Nat → Int32} {fm : Option Nat} {nf : Nat} {c : Nat → Nat → Int32} {k : Nat} (H : o_row s w fm nf c k) : w 2 = c 12 k := H.2.2.1
theorem o_row.n3 {s : Nat} {w : Nat → Int32} {fm : Option Nat} {nf : Nat} {c : Nat → Nat → Int32} {k : Nat} (H : o_row s w fm nf c k) : w 3 = c 13 k := H.2.2.2.1
theorem o_row.sc {s : Nat} {w : Nat → Int32} {fm : Option Nat} {nf : Nat} {c : Nat → Nat → Int32} {k : Nat} (H : o_row s w fm nf c k) : ∃ q, q ≤ 15 ∧ w 2 = nI q := H.2.2.2.2.1
theorem o_row.ov {s : Nat} {w : Nat → Int32} {fm : Option Nat} {nf : Nat} {c : Nat → Nat → Int32} {k : Nat} (H : o_row s w fm nf c k) : c 14 k = 0 ↔ w 6 = 0 ∧ w 7 = 0 := H.2.2.2.2.2.1
theorem o_row.fa {s : Nat} {w : Nat → Int32} {fm : Option Nat} {nf : Nat} {c : Nat → Nat → Int32} {k : Nat} (H : o_row s w fm nf c k) : (fm = none ∧ c 15 k < 0) ∨ ∃ t, fm = some t ∧ t < nf ∧ c 15 k = nI t := H.2.2.2.2.2.2.1
theorem o_row.k0 {s : Nat} {w : Nat → Int32} {fm : Option Nat} {nf : Nat} {c : Nat → Nat → Int32} {k : Nat} (H : o_row s w fm nf c k) : s = 0 → w 4 = c 16 k ∧ w 5 = c 17 k ∧ w 7 = 0 ∧ (w 6 = 0 ↔ fm = none) := H.2.2.2.2.2.2.2.1
theorem o_row.k1 {s : Nat} {w : Nat → Int32} {fm : Option Nat} {nf : Nat} {c : Nat → Nat → Int32} {k : Nat} (H : o_row s w fm nf c k) : s = 1 → w 7 = 0 ∧ ¬ fm = none := H.2.2.2.2.2.2.2.2.1
theorem o_row.k2 {s : Nat} {w : Nat → Int32} {fm : Option Nat} {nf : Nat} {c : Nat → Nat → Int32} {k : Nat} (H : o_row s w fm nf c k) : s = 2 → w 6 = 0 ∧ ¬ fm = none := H.2.2.2.2.2.2.2.2.2
/-- a shelf and its slots -/
def r_sh (s : Nat) (c : Nat → Nat → Int32) (us : Nat) (w : Nat → Nat → Int32) (fm : Nat → Option Nat) (nf : Nat) (sg : Nat → Nat) : Prop :=
  (o_pm (c 10) (o_a s) (gs_N s) us sg) ∧
  (∀ i, i < us → o_row s (w i) (fm i) nf c (sg i)) ∧
  (∀ i j, i < us → j < us → w i 0 = w j 0 → i = j)
theorem r_sh.pm {s : Nat} {c : Nat → Nat → Int32} {us : Nat} {w : Nat → Nat → Int32} {fm : Nat → Option Nat} {nf : Nat} {sg : Nat → Nat} (H : r_sh s c us w fm nf sg) : o_pm (c 10) (o_a s) (gs_N s) us sg := H.1
theorem r_sh.row {s : Nat} {c : Nat → Nat → Int32} {us : Nat} {w : Nat → Nat → Int32} {fm : Nat → Option Nat} {nf : Nat} {sg : Nat → Nat} (H : r_sh s c us w fm nf sg) : ∀ i, i < us → o_row s (w i) (fm i) nf c (sg i) := H.2.1
theorem r_sh.num {s : Nat} {c : Nat → Nat → Int32} {us : Nat} {w : Nat → Nat → Int32} {fm : Nat → Option Nat} {nf : Nat} {sg : Nat → Nat} (H : r_sh s c us w fm nf sg) : ∀ i j, i < us → j < us → w i 0 = w j 0 → i = j := H.2.2
def r_tx (n : Nat) (x : Nat → Int32) (vn : Int32) (y : Nat → Int32) : Prop :=
  (n ≤ 120) ∧
  (vn = nI n) ∧
  (∀ j, j < n → x j = y j) ∧
  (∀ j, j < n → ∃ q, q < 127 ∧ x j = nI q)
theorem r_tx.le {n : Nat} {x : Nat → Int32} {vn : Int32} {y : Nat → Int32} (H : r_tx n x vn y) : n ≤ 120 := H.1
theorem r_tx.vn {n : Nat} {x : Nat → Int32} {vn : Int32} {y : Nat → Int32} (H : r_tx n x vn y) : vn = nI n := H.2.1
theorem r_tx.eq {n : Nat} {x : Nat → Int32} {vn : Int32} {y : Nat → Int32} (H : r_tx n x vn y) : ∀ j, j < n → x j = y j := H.2.2.1
theorem r_tx.ch {n : Nat} {x : Nat → Int32} {vn : Int32} {y : Nat → Int32} (H : r_tx n x vn y) : ∀ j, j < n → ∃ q, q < 127 ∧ x j = nI q := H.2.2.2
def rl (S : cS) (sk : Int64) (v : Nat → Int32) (c : Nat → Nat → Int32) (sg : Nat → Nat → Nat) (B : Nat) : Prop :=
  (S.ky.toInt64 = sk) ∧
  (∃ x y z : Nat, x ≤ 1000 ∧ y ≤ 1000 ∧ z ≤ 1000 ∧ S.u 0 = nI x ∧ v 1 = nI x ∧ S.u 1 = nI y ∧ v 2 = nI y ∧ S.u 2 = nI z ∧ v 3 = nI z) ∧
  (S.u 12 = nI S.nc ∧ v 8 = nI S.nc ∧ S.nc ≤ 4) ∧
  (∀ j, j < S.nc → S.cl j 0 = c 5 j ∧ S.cl j 1 = c 6 j ∧ S.cl j 2 = c 7 j) ∧
  (S.u 13 = v 9 ∧ (v 9 = -1 ∨ ∃ j, j < S.nc ∧ v 9 = nI j)) ∧
  (∃ M, M ≤ B ∧ S.u 14 = nI M ∧ v 18 = nI M ∧ ∀ i, i < S.us 2 → ∃ q, 1 ≤ q ∧ q ≤ M ∧ S.w 2 i 0 = nI q) ∧
  (∃ T, T ≤ 10000 * B ∧ S.u 15 = nI T ∧ v 4 = nI T) ∧
  (S.nf ≤ B ∧ v 22 = nI S.nf) ∧
  (∀ t, t < S.nf → S.fa t 0 = c 19 t ∧ S.fa t 1 = c 20 t ∧ S.fa t 2 = c 21 t ∧ (∃ q, q ≤ 15 ∧ S.fa t 0 = nI q) ∧ ∃ q, q ≤ 3 ∧ S.fa t 1 = nI q) ∧
  (r_tx (S.tn 0) (S.tx 0) (v 24) (c 23)) ∧
  (r_tx (S.tn 1) (S.tx 1) (v 26) (c 25)) ∧
  (r_sh 0 c (S.us 0) (S.w 0) (S.fm 0) S.nf (sg 0)) ∧
  (r_sh 1 c (S.us 1) (S.w 1) (S.fm 1) S.nf (sg 1)) ∧
  (r_sh 2 c (S.us 2) (S.w 2) (S.fm 2) S.nf (sg 2)) ∧
  (∀ j, j < 64 → c 15 j < 0 ∨ ∃ t, t < 520 ∧ c 15 j = nI t)
theorem rl.sk {S : cS} {sk : Int64} {v : Nat → Int32} {c : Nat → Nat → Int32} {sg : Nat → Nat → Nat} {B : Nat} (H : rl S sk v c sg B) : S.ky.toInt64 = sk := H.1
theorem rl.li {S : cS} {sk : Int64} {v : Nat → Int32} {c : Nat → Nat → Int32} {sg : Nat → Nat → Nat} {B : Nat} (H : rl S sk v c sg B) : ∃ x y z : Nat, x ≤ 1000 ∧ y ≤ 1000 ∧ z ≤ 1000 ∧ S.u 0 = nI x ∧ v 1 = nI x ∧ S.u 1 = nI y ∧ v 2 = nI y ∧ S.u 2 = nI z ∧ v 3 = nI z := H.2.1
theorem rl.nc {S : cS} {sk : Int64} {v : Nat → Int32} {c : Nat → Nat → Int32} {sg : Nat → Nat → Nat} {B : Nat} (H : rl S sk v c sg B) : S.u 12 = nI S.nc ∧ v 8 = nI S.nc ∧ S.nc ≤ 4 := H.2.2.1
theorem rl.cl {S : cS} {sk : Int64} {v : Nat → Int32} {c : Nat → Nat → Int32} {sg : Nat → Nat → Nat} {B : Nat} (H : rl S sk v c sg B) : ∀ j, j < S.nc → S.cl j 0 = c 5 j ∧ S.cl j 1 = c 6 j ∧ S.cl j 2 = c 7 j := H.2.2.2.1
theorem rl.us {S : cS} {sk : Int64} {v : Nat → Int32} {c : Nat → Nat → Int32} {sg : Nat → Nat → Nat} {B : Nat} (H : rl S sk v c sg B) : S.u 13 = v 9 ∧ (v 9 = -1 ∨ ∃ j, j < S.nc ∧ v 9 = nI j) := H.2.2.2.2.1
theorem rl.md {S : cS} {sk : Int64} {v : Nat → Int32} {c : Nat → Nat → Int32} {sg : Nat → Nat → Nat} {B : Nat} (H : rl S sk v c sg B) : ∃ M, M ≤ B ∧ S.u 14 = nI M ∧ v 18 = nI M ∧ ∀ i, i < S.us 2 → ∃ q, 1 ≤ q ∧ q ≤ M ∧ S.w 2 i 0 = nI q := H.2.2.2.2.2.1
theorem rl.tm {S : cS} {sk : Int64} {v : Nat → Int32} {c : Nat → Nat → Int32} {sg : Nat → Nat → Nat} {B : Nat} (H : rl S sk v c sg B) : ∃ T, T ≤ 10000 * B ∧ S.u 15 = nI T ∧ v 4 = nI T := H.2.2.2.2.2.2.1
theorem rl.nf {S : cS} {sk : Int64} {v : Nat → Int32} {c : Nat → Nat → Int32} {sg : Nat → Nat → Nat} {B : Nat} (H : rl S sk v c sg B) : S.nf ≤ B ∧ v 22 = nI S.nf := H.2.2.2.2.2.2.2.1
theorem rl.fa {S : cS} {sk : Int64} {v : Nat → Int32} {c : Nat → Nat → Int32} {sg : Nat → Nat → Nat} {B : Nat} (H : rl S sk v c sg B) : ∀ t, t < S.nf → S.fa t 0 = c 19 t ∧ S.fa t 1 = c 20 t ∧ S.fa t 2 = c 21 t ∧ (∃ q, q ≤ 15 ∧ S.fa t 0 = nI q) ∧ ∃ q, q ≤ 3 ∧ S.fa t 1 = nI q := H.2.2.2.2.2.2.2.2.1
theorem rl.t0 {S : cS} {sk : Int64} {v : Nat → Int32} {c : Nat → Nat → Int32} {sg : Nat → Nat → Nat} {B : Nat} (H : rl S sk v c sg B) : r_tx (S.tn 0) (S.tx 0) (v 24) (c 23) := H.2.2.2.2.2.2.2.2.2.1
theorem rl.t1 {S : cS} {sk : Int64} {v : Nat → Int32} {c : Nat → Nat → Int32} {sg : Nat → Nat → Nat} {B : Nat} (H : rl S sk v c sg B) : r_tx (S.tn 1) (S.tx 1) (v 26) (c 25) := H.2.2.2.2.2.2.2.2.2.2.1
theorem rl.s0 {S : cS} {sk : Int64} {v : Nat → Int32} {c : Nat → Nat → Int32} {sg : Nat → Nat → Nat} {B : Nat} (H : rl S sk v c sg B) : r_sh 0 c (S.us 0) (S.w 0) (S.fm 0) S.nf (sg 0) := H.2.2.2.2.2.2.2.2.2.2.2.1
theorem rl.s1 {S : cS} {sk : Int64} {v : Nat → Int32} {c : Nat → Nat → Int32} {sg : Nat → Nat → Nat} {B : Nat} (H : rl S sk v c sg B) : r_sh 1 c (S.us 1) (S.w 1) (S.fm 1) S.nf (sg 1) := H.2.2.2.2.2.2.2.2.2.2.2.2.1
theorem rl.s2 {S : cS} {sk : Int64} {v : Nat → Int32} {c : Nat → Nat → Int32} {sg : Nat → Nat → Nat} {B : Nat} (H : rl S sk v c sg B) : r_sh 2 c (S.us 2) (S.w 2) (S.fm 2) S.nf (sg 2) := H.2.2.2.2.2.2.2.2.2.2.2.2.2.1
theorem rl.fm {S : cS} {sk : Int64} {v : Nat → Int32} {c : Nat → Nat → Int32} {sg : Nat → Nat → Nat} {B : Nat} (H : rl S sk v c sg B) : ∀ j, j < 64 → c 15 j < 0 ∨ ∃ t, t < 520 ∧ c 15 j = nI t := H.2.2.2.2.2.2.2.2.2.2.2.2.2.2
section RL
variable {S : cS} {sk : Int64} {v : Nat → Int32} {c : Nat → Nat → Int32} {sg : Nat → Nat → Nat} {B : Nat}
theorem rl.same (H : rl S sk v c sg B) : rl S sk v c sg (B + 1) := by
  obtain ⟨a1, a2, a3, a4, a5, ⟨M, m1, m2⟩, ⟨T, b1, b2⟩, ⟨d1, d2⟩, a9, a10, a11, a12, a13, a14, a15⟩ := H
  exact ⟨a1, a2, a3, a4, a5, ⟨M, by omega, m2⟩, ⟨T, by omega, b2⟩, ⟨by omega, d2⟩, a9, a10, a11, a12, a13, a14, a15⟩
theorem rl.sh (H : rl S sk v c sg B) : ∀ s, s < 3 → r_sh s c (S.us s) (S.w s) (S.fm s) S.nf (sg s) := by
  intro s hs
  match s, hs with
  | 0, _ => exact H.s0
  | 1, _ => exact H.s1
  | 2, _ => exact H.s2
/-! answers -/
theorem r_sh.fn {s us nf : Nat} {w : Nat → Nat → Int32} {fm : Nat → Option Nat} {sg : Nat → Nat} {x : Int32} (H : r_sh s c us w fm nf sg) (h : z_fi w x us 0 = none) : m_findF (c 10) x (gs_N s) (o_a s) = -1 := o_find_n H.pm (fun i hi => (H.row i hi).n0) h
theorem r_sh.fs {s us nf i : Nat} {w : Nat → Nat → Int32} {fm : Nat → Option Nat} {sg : Nat → Nat} {x : Int32} (H : r_sh s c us w fm nf sg) (h : z_fi w x us 0 = some i) : i < us ∧ m_findF (c 10) x (gs_N s) (o_a s) = nI (sg i) := o_find_s H.pm (fun i hi => (H.row i hi).n0) H.num h
theorem r_sh.lt {s us nf i : Nat} {w : Nat → Nat → Int32} {fm : Nat → Option Nat} {sg : Nat → Nat} (H : r_sh s c us w fm nf sg) (hs : s < 3) (h : i < us) : o_a s ≤ sg i ∧ sg i < o_a s + gs_N s ∧ sg i < 64 ∧ ¬ c 10 (sg i) = 0 := by
  obtain ⟨a, b, d⟩ := o_pm_in H.pm h
  refine ⟨a, b, ?_, d⟩
  have : o_a s + gs_N s ≤ 64 := by match s, hs with | 0, _ => decide | 1, _ => decide | 2, _ => decide
  omega
/-- the bind of the found row: none just where nothing is found -/
theorem o_bind {o : Option Nat} {g : Nat → Option Nat} {u : Nat} (h : ∀ i, o = some i → i < u) (hg : ∀ i, i < u → ∃ q, g i = some q) : o.bind g = none ↔ o = none := by
  cases o with
  | none => exact ⟨fun _ => rfl, fun _ => rfl⟩
  | some i =>
    obtain ⟨q, hq⟩ := hg i (h i rfl)
    exact ⟨fun z => (by rw [Option.bind_some, hq] at z; cases z), fun z => by cases z⟩
theorem r_sh.fl {s us nf : Nat} {w : Nat → Nat → Int32} {fm : Nat → Option Nat} {sg : Nat → Nat} (H : r_sh s c us w fm nf sg) (hs : s < 3) : z_full us (gs_N s) = m_fu (m_roomF (c 10) (gs_N s) (o_a s)) := by
  unfold z_full m_fu
  by_cases h : us < gs_N s
  · obtain ⟨k, e, h1, h2, h3⟩ := o_room_s H.pm h
    have : o_a s + gs_N s ≤ 64 := by match s, hs with | 0, _ => decide | 1, _ => decide | 2, _ => decide
    rw [if_pos h, e, if_neg (nI_pos (by omega))]
  · rw [if_neg h, o_room_n H.pm h]
    decide
theorem rl.free (H : rl S sk v c sg B) {g : Nat → Nat → Option Nat} (hg : ∀ s, s < 3 → ∀ i, i < gs_N s → ∃ q, g s i = some q) (x : Int32) : z_free ((z_fi (S.w 0) x (S.us 0) 0).bind (g 0)) ((z_fi (S.w 1) x (S.us 1) 0).bind (g 1)) x = m_free (c 10) x := by
  have key : ∀ s, s < 3 → (((z_fi (S.w s) x (S.us s) 0).bind (g s) = none) ↔ ¬ 0 ≤ m_findF (c 10) x (gs_N s) (o_a s)) := by
    intro s hs
    have hle := o_pm_le (H.sh s hs).pm
    rw [o_bind (u := S.us s) (fun i h => ((H.sh s hs).fs h).1) (fun i h => hg s hs i (by omega))]
    constructor
    · intro h
      rw [(H.sh s hs).fn h]
      decide
    · intro h
      cases hz : z_fi (S.w s) x (S.us s) 0 with
      | none => rfl
      | some i =>
        obtain ⟨h1, h2⟩ := (H.sh s hs).fs hz
        exact absurd (by rw [h2]; exact nI_pos' (by have := ((H.sh s hs).lt hs h1); omega)) h
  have k0 : ((z_fi (S.w 0) x (S.us 0) 0).bind (g 0) = none) ↔ ¬ 0 ≤ m_findF (c 10) x 16 0 := key 0 (by decide)
  have k1 : ((z_fi (S.w 1) x (S.us 1) 0).bind (g 1) = none) ↔ ¬ 0 ≤ m_findF (c 10) x 24 16 := key 1 (by decide)
  unfold z_free m_free
  have e : (x < 1 ∨ 65535 < x ∨ ¬ (z_fi (S.w 0) x (S.us 0) 0).bind (g 0) = none ∨ ¬ (z_fi (S.w 1) x (S.us 1) 0).bind (g 1) = none) ↔ (x < 1 ∨ 65535 < x ∨ 0 ≤ m_findF (c 10) x 16 0 ∨ 0 ≤ m_findF (c 10) x 24 16) := by
    rw [k0, k1, Decidable.not_not, Decidable.not_not]
  by_cases h : x < 1 ∨ 65535 < x ∨ 0 ≤ m_findF (c 10) x 16 0 ∨ 0 ≤ m_findF (c 10) x 24 16
  · rw [if_pos h, if_pos (e.mpr h)]
  · rw [if_neg h, if_neg (fun z => h (e.mp z))]
def o_fv (S : cS) (e s i : Nat) : Int32 := match S.fm s i with
  | none => 0
  | some t => S.fa t e
theorem rl.act (H : rl S sk v c sg B) (hB : B ≤ 512) {s i : Nat} (hs : s < 3) (hi : i < S.us s) {m1 : Option Nat} (hm : m1 = none ↔ S.fm s i = none) : z_act (S.w s i) m1 (o_fv S 2 s i) (S.u 15) = m_act v c (sg s i) := by
  have R := (H.sh s hs).row i hi
  have L := (H.sh s hs).lt hs hi
  obtain ⟨T, -, t1, t2⟩ := H.tm
  have key : (¬ S.w s i 6 = 0 ∨ ¬ S.w s i 7 = 0 ∨ (¬ m1 = none ∧ ¬ o_fv S 2 s i = 0) ∨ S.w s i 3 ≤ S.u 15) ↔ (c 10 (sg s i) = 0 ∨ ¬ c 14 (sg s i) = 0 ∨ c 13 (sg s i) ≤ v 4 ∨ (¬ c 15 (sg s i) < 0 ∧ ¬ c 21 (c 15 (sg s i)).toNatClampNeg = 0)) := by
    have e3 : S.w s i 3 ≤ S.u 15 ↔ c 13 (sg s i) ≤ v 4 := by rw [R.n3, t1, t2]
    have eo := R.ov
    have ef : (¬ m1 = none ∧ ¬ o_fv S 2 s i = 0) ↔ (¬ c 15 (sg s i) < 0 ∧ ¬ c 21 (c 15 (sg s i)).toNatClampNeg = 0) := by
      rcases R.fa with ⟨f1, f2⟩ | ⟨t, f1, f2, f3⟩
      · exact ⟨fun z => absurd (hm.mpr f1) z.1, fun z => absurd f2 z.1⟩
      · have h5 : t < 2 ^ 31 := by have := H.nf.1; omega
        have e1 : o_fv S 2 s i = c 21 t := by unfold o_fv; rw [f1]; exact (H.fa t f2).2.2.1
        rw [f3, nI_clamp h5, hm, e1, f1]
        exact ⟨fun z => ⟨nI_pos h5, z.2⟩, fun z => ⟨(fun q => by cases q), z.2⟩⟩
    rw [e3, ef]
    constructor
    · intro z
      rcases z with z | z | z | z
      · exact Or.inr (Or.inl (fun q => z (eo.mp q).1))
      · exact Or.inr (Or.inl (fun q => z (eo.mp q).2))
      · exact Or.inr (Or.inr (Or.inr z))
      · exact Or.inr (Or.inr (Or.inl z))
    · intro z
      rcases z with z | z | z | z
      · exact absurd z L.2.2.2
      · by_cases q : S.w s i 6 = 0
        · exact Or.inr (Or.inl (fun q2 => z (eo.mpr ⟨q, q2⟩)))
        · exact Or.inl q
      · exact Or.inr (Or.inr (Or.inr z))
      · exact Or.inr (Or.inr (Or.inl z))
  unfold z_act m_act
  by_cases h : c 10 (sg s i) = 0 ∨ ¬ c 14 (sg s i) = 0 ∨ c 13 (sg s i) ≤ v 4 ∨ (¬ c 15 (sg s i) < 0 ∧ ¬ c 21 (c 15 (sg s i)).toNatClampNeg = 0)
  · rw [if_pos h, if_pos (key.mpr h)]
  · rw [if_neg h, if_neg (fun z => h (key.mp z))]
end RL
