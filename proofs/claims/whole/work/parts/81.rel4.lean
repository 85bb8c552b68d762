theorem o_tx1 {y : Int32} (h : ¬ z_text y = 0) : ∃ q, q < 127 ∧ y = nI q := by
  unfold z_text at h
  split at h
  · exact absurd rfl h
  · rename_i hh
    have h0 : ¬ y < 0 := fun z => hh (Or.inl (Int32.lt_trans z (by decide)))
    obtain ⟨q, q1, q2⟩ := nI_of2 (M := 126) (n := 126) rfl h0 (Int32.not_lt.mp (fun z => hh (Or.inr z)))
    exact ⟨q, by omega, q2⟩
section RL4
variable {S : cS} {sk : Int64} {v : Nat → Int32} {c : Nat → Nat → Int32} {sg : Nat → Nat → Nat} {B : Nat}
/-- two tokens are given -/
theorem rl.give (H : rl S sk v c sg B) (hB : B ≤ 512) {M ja jb p t n2 : Nat} {x o e1 e2 n28 : Int32} {Wa Wb : Nat → Int32} {g g2 y2 : Nat → Int32} {tn2 : Nat} {tx2 : Nat → Int32} (hM : M < B) (hm1 : S.u 14 = nI M) (hm2 : ∀ i, i < S.us 2 → ∃ q, 1 ≤ q ∧ q ≤ M ∧ S.w 2 i 0 = nI q)
    (ha1 : 16 ≤ ja) (ha2 : ja < 40) (ha3 : c 10 ja = 0) (hb1 : 40 ≤ jb) (hb2 : jb < 64) (hb3 : c 10 jb = 0) (hx : ¬ x = 0) (hnew : z_fi (S.w 1) x (S.us 1) 0 = none) (hp : p ≤ 15) (ht : t < S.nf)
    (wa0 : Wa 0 = x) (wa1 : Wa 1 = o) (wa2 : Wa 2 = S.fa t 0) (wa3 : Wa 3 = e1) (wa6 : Wa 6 = 0) (wa7 : Wa 7 = 0) (wb0 : Wb 0 = nI (M + 1)) (wb1 : Wb 1 = o) (wb2 : Wb 2 = nI p) (wb3 : Wb 3 = e2) (wb6 : Wb 6 = 0) (wb7 : Wb 7 = 0)
    (hn : n2 ≤ 120) (hy : ∀ j, j < n2 → y2 j = g2 j ∧ ∃ q, q < 127 ∧ y2 j = nI q) :
    rl (cSm (upd S.u 14 (nI (M + 1))) S.nc S.cl (va_up (va_up S.us 1 (S.us 1 + 1)) 2 (S.us 2 + 1)) (va_up (va_up S.w 1 (va_up (S.w 1) (S.us 1) Wa)) 2 (va_up (S.w 2) (S.us 2) Wb)) (va_up (va_up S.fm 1 (va_up (S.fm 1) (S.us 1) (some t))) 2 (va_up (S.fm 2) (S.us 2) (some t))) S.nf S.fa (va_up (va_up S.tn 2 tn2) 1 n2) (va_up (va_up S.tx 2 tx2) 1 y2) S.rd S.rs S.ra S.ky) sk
      (upd (upd (upd v 18 (nI (M + 1))) 28 n28) 26 (nI n2)) (va_up (va_up (m_put (m_put c ja x o (c 19 t) e1 (nI t)) jb (nI (M + 1)) o (nI p) e2 (nI t)) 27 g) 25 g2) (va_up (va_up sg 1 (va_up (sg 1) (S.us 1) ja)) 2 (va_up (sg 2) (S.us 2) jb)) B := by
  have hnf := H.nf
  obtain ⟨a1, a2, a3, a4, a5, a6, a7, a8, a9, a10, a11, a12, a13, a14, a15⟩ := H
  obtain ⟨f1, f2, f3, ⟨fq, f4, f5⟩, f6⟩ := a9 t ht
  refine ⟨a1, a2, a3, a4, a5, ⟨M + 1, by omega, rfl, rfl, fun i hi => ?_⟩, a7, a8, a9, a10, ⟨hn, rfl, fun j hj => (hy j hj).1, fun j hj => (hy j hj).2⟩, ?_, ?_, ?_, fun j hj => ?_⟩
  · show ∃ q, 1 ≤ q ∧ q ≤ M + 1 ∧ va_up (S.w 2) (S.us 2) Wb i 0 = nI q
    by_cases e : i = S.us 2
    · exact ⟨M + 1, by omega, by omega, by simp only [va_up, if_pos e]; exact wb0⟩
    · obtain ⟨q, q1, q2, q3⟩ := hm2 i (by have : i < S.us 2 + 1 := hi; omega)
      exact ⟨q, q1, by omega, by simp only [va_up, if_neg e]; exact q3⟩
  · have hh : ∀ k, k < o_a 0 + gs_N 0 → k ≠ ja ∧ k ≠ jb := fun k h => by have : k < 16 := h; omega
    have two : ∀ (f : Nat → Int32) (x y : Int32) (k : Nat), k < o_a 0 + gs_N 0 → upd (upd f ja x) jb y k = f k := fun f x y k h => (upd_ne (hh k h).2).trans (upd_ne (hh k h).1)
    exact a12.ag (Nat.le_refl _) (fun k _ h => two _ _ _ k h) (fun k _ h => two _ _ _ k h) (fun k _ h => two _ _ _ k h) (fun k _ h => two _ _ _ k h) (fun k _ h => two _ _ _ k h) (fun k _ h => two _ _ _ k h) (fun _ _ _ _ => rfl) (fun _ _ _ _ => rfl)
  · have s1 : r_sh 1 (m_put c ja x o (c 19 t) e1 (nI t)) (S.us 1 + 1) (va_up (S.w 1) (S.us 1) Wa) (va_up (S.fm 1) (S.us 1) (some t)) S.nf (va_up (sg 1) (S.us 1) ja) := by
      refine a13.put (k0 := ja) (W := Wa) (f0 := some t) (x := x) ha1 (by show ja < 16 + 24; omega) ha3 hx wa0 (fun i hi => z_fi_n.mp hnew i (Nat.zero_le _) (by omega)) rfl ⟨?_, ?_, ?_, ?_, ⟨fq, f4, wa2.trans f5⟩, ?_, Or.inr ⟨t, rfl, ht, pk_us⟩, fun z => absurd z (by decide), fun _ => ⟨wa7, fun z => by cases z⟩, fun z => absurd z (by decide)⟩ (fun k hk => ⟨upd_ne hk, upd_ne hk, upd_ne hk, upd_ne hk, upd_ne hk, fun z => absurd z (by decide)⟩)
      · rw [wa0]; exact pk_us.symm
      · rw [wa1]; exact pk_us.symm
      · rw [wa2, f1]; exact pk_us.symm
      · rw [wa3]; exact pk_us.symm
      · show upd (c 14) ja 0 ja = 0 ↔ _
        rw [pk_us]
        exact ⟨fun _ => ⟨wa6, wa7⟩, fun _ => rfl⟩
    have hh : ∀ k, k < o_a 1 + gs_N 1 → k ≠ jb := fun k h => by have : k < 16 + 24 := h; omega
    exact s1.ag (Nat.le_refl _) (fun k _ h => upd_ne (hh k h)) (fun k _ h => upd_ne (hh k h)) (fun k _ h => upd_ne (hh k h)) (fun k _ h => upd_ne (hh k h)) (fun k _ h => upd_ne (hh k h)) (fun k _ h => upd_ne (hh k h)) (fun z => absurd z (by decide)) (fun z => absurd z (by decide))
  · have hh : ∀ k, o_a 2 ≤ k → k ≠ ja := fun k h => by have : 40 ≤ k := h; omega
    have s2 : r_sh 2 (m_put c ja x o (c 19 t) e1 (nI t)) (S.us 2) (S.w 2) (S.fm 2) S.nf (sg 2) := a14.ag (Nat.le_refl _) (fun k h _ => upd_ne (hh k h)) (fun k h _ => upd_ne (hh k h)) (fun k h _ => upd_ne (hh k h)) (fun k h _ => upd_ne (hh k h)) (fun k h _ => upd_ne (hh k h)) (fun k h _ => upd_ne (hh k h)) (fun z => absurd z (by decide)) (fun z => absurd z (by decide))
    refine s2.put (k0 := jb) (W := Wb) (f0 := some t) (x := nI (M + 1)) hb1 (by show jb < 40 + 24; omega) ?_ (nI_ne0 (by omega) (by omega)) wb0 (fun i hi z => ?_) rfl ⟨?_, ?_, ?_, ?_, ⟨p, hp, wb2⟩, ?_, Or.inr ⟨t, rfl, ht, pk_us⟩, fun z => absurd z (by decide), fun z => absurd z (by decide), fun _ => ⟨wb6, fun z => by cases z⟩⟩ (fun k hk => ⟨upd_ne hk, upd_ne hk, upd_ne hk, upd_ne hk, upd_ne hk, fun z => absurd z (by decide)⟩)
    · show upd (c 10) ja x jb = 0
      rw [upd_ne (by omega)]
      exact hb3
    · obtain ⟨q, q1, q2, q3⟩ := hm2 i hi
      have := (nI_eq (by omega) (by omega)).mp (q3.symm.trans z)
      omega
    · rw [wb0]; exact pk_us.symm
    · rw [wb1]; exact pk_us.symm
    · rw [wb2]; exact pk_us.symm
    · rw [wb3]; exact pk_us.symm
    · show upd _ jb 0 jb = 0 ↔ _
      rw [pk_us]
      exact ⟨fun _ => ⟨wb6, wb7⟩, fun _ => rfl⟩
  · show upd (upd (c 15) ja (nI t)) jb (nI t) j < 0 ∨ ∃ q, q < 520 ∧ upd (upd (c 15) ja (nI t)) jb (nI t) j = nI q
    by_cases e : j = jb
    · rw [e, pk_us]
      exact Or.inr ⟨t, by omega, rfl⟩
    · rw [upd_ne e]
      by_cases e' : j = ja
      · rw [e', pk_us]
        exact Or.inr ⟨t, by omega, rfl⟩
      · rw [upd_ne e']
        exact a15 j hj
/-! texts -/
theorem rl.text0 (H : rl S sk v c sg B) {n : Nat} {x y : Nat → Int32} {v' : Nat → Int32} {c' : Nat → Nat → Int32} (hv : ∀ e, e ≠ 24 → v' e = v e) (hc : ∀ e, e ≠ 23 → c' e = c e) (ht : r_tx n x (v' 24) (c' 23)) (e0 : x = x) : rl (cSm S.u S.nc S.cl S.us S.w S.fm S.nf S.fa (va_up S.tn 0 n) (va_up S.tx 0 x) S.rd S.rs S.ra S.ky) sk v' c' sg (B + 1) := by
  obtain ⟨a1, a2, a3, a4, a5, a6, a7, a8, a9, a10, a11, a12, a13, a14, a15⟩ := H.same
  have q := fun e h => hc e h
  refine ⟨a1, ?_, ?_, ?_, ?_, ?_, ?_, ?_, ?_, ht, ?_, a12.cv (q _ (by decide)) (q _ (by decide)) (q _ (by decide)) (q _ (by decide)) (q _ (by decide)) (q _ (by decide)) (q _ (by decide)) (q _ (by decide)), a13.cv (q _ (by decide)) (q _ (by decide)) (q _ (by decide)) (q _ (by decide)) (q _ (by decide)) (q _ (by decide)) (q _ (by decide)) (q _ (by decide)), a14.cv (q _ (by decide)) (q _ (by decide)) (q _ (by decide)) (q _ (by decide)) (q _ (by decide)) (q _ (by decide)) (q _ (by decide)) (q _ (by decide)), ?_⟩
  · rw [hv 1 (by decide), hv 2 (by decide), hv 3 (by decide)]; exact a2
  · rw [hv 8 (by decide)]; exact a3
  · rw [hc 5 (by decide), hc 6 (by decide), hc 7 (by decide)]; exact a4
  · rw [hv 9 (by decide)]; exact a5
  · rw [hv 18 (by decide)]; exact a6
  · rw [hv 4 (by decide)]; exact a7
  · rw [hv 22 (by decide)]; exact a8
  · rw [hc 19 (by decide), hc 20 (by decide), hc 21 (by decide)]; exact a9
  · rw [hv 26 (by decide), hc 25 (by decide)]; exact a11
  · rw [hc 15 (by decide)]; exact a15
/-- what doesn't matter: the reader, the plain text, the reference's plain text, place and claims -/
theorem rl.junk (H : rl S sk v c sg B) {S' : cS} {v' : Nat → Int32} {c' : Nat → Nat → Int32} (hv : ∀ e, e ≠ 28 → e ≠ 29 → v' e = v e) (hc : ∀ e, e ≠ 27 → e ≠ 30 → c' e = c e)
    (h1 : S'.u = S.u) (h2 : S'.nc = S.nc) (h3 : S'.cl = S.cl) (h4 : S'.us = S.us) (h5 : S'.w = S.w) (h6 : S'.fm = S.fm) (h7 : S'.nf = S.nf) (h8 : S'.fa = S.fa) (h9 : S'.tn 0 = S.tn 0) (h10 : S'.tx 0 = S.tx 0) (h11 : S'.tn 1 = S.tn 1) (h12 : S'.tx 1 = S.tx 1) (h13 : S'.ky = S.ky) : rl S' sk v' c' sg (B + 1) := by
  obtain ⟨a1, a2, a3, a4, a5, a6, a7, a8, a9, a10, a11, a12, a13, a14, a15⟩ := H.same
  have q : ∀ e, 10 ≤ e → e ≤ 17 → c' e = c e := fun e _ _ => hc e (by omega) (by omega)
  refine ⟨by rw [h13]; exact a1, ?_, ?_, ?_, ?_, ?_, ?_, ?_, ?_, ?_, ?_, ?_, ?_, ?_, ?_⟩
  · rw [h1, hv 1 (by decide) (by decide), hv 2 (by decide) (by decide), hv 3 (by decide) (by decide)]; exact a2
  · rw [h1, h2, hv 8 (by decide) (by decide)]; exact a3
  · rw [h2, h3, hc 5 (by decide) (by decide), hc 6 (by decide) (by decide), hc 7 (by decide) (by decide)]; exact a4
  · rw [h1, h2, hv 9 (by decide) (by decide)]; exact a5
  · rw [h1, h4, h5, hv 18 (by decide) (by decide)]; exact a6
  · rw [h1, hv 4 (by decide) (by decide)]; exact a7
  · rw [h7, hv 22 (by decide) (by decide)]; exact a8
  · rw [h7, h8, hc 19 (by decide) (by decide), hc 20 (by decide) (by decide), hc 21 (by decide) (by decide)]; exact a9
  · rw [h9, h10, hv 24 (by decide) (by decide), hc 23 (by decide) (by decide)]; exact a10
  · rw [h11, h12, hv 26 (by decide) (by decide), hc 25 (by decide) (by decide)]; exact a11
  · rw [h4, h5, h6, h7]; exact a12.cv (q _ (by decide) (by decide)) (q _ (by decide) (by decide)) (q _ (by decide) (by decide)) (q _ (by decide) (by decide)) (q _ (by decide) (by decide)) (q _ (by decide) (by decide)) (q _ (by decide) (by decide)) (q _ (by decide) (by decide))
  · rw [h4, h5, h6, h7]; exact a13.cv (q _ (by decide) (by decide)) (q _ (by decide) (by decide)) (q _ (by decide) (by decide)) (q _ (by decide) (by decide)) (q _ (by decide) (by decide)) (q _ (by decide) (by decide)) (q _ (by decide) (by decide)) (q _ (by decide) (by decide))
  · rw [h4, h5, h6, h7]; exact a14.cv (q _ (by decide) (by decide)) (q _ (by decide) (by decide)) (q _ (by decide) (by decide)) (q _ (by decide) (by decide)) (q _ (by decide) (by decide)) (q _ (by decide) (by decide)) (q _ (by decide) (by decide)) (q _ (by decide) (by decide))
  · rw [hc 15 (by decide) (by decide)]; exact a15
theorem rl.wrap (H : rl S sk v c sg B) {n : Nat} {y g g1 : Nat → Int32} {n28 : Int32} (hn : n ≤ 120) (hy : ∀ j, j < n → y j = g j ∧ ∃ q, q < 127 ∧ y j = nI q) : rl (cSm S.u S.nc S.cl S.us S.w S.fm S.nf S.fa (va_up S.tn 1 n) (va_up S.tx 1 y) S.rd S.rs S.ra S.ky) sk (upd (upd v 28 n28) 26 (nI n)) (va_up (va_up c 27 g1) 25 g) sg (B + 1) := by
  obtain ⟨a1, a2, a3, a4, a5, a6, a7, a8, a9, a10, a11, a12, a13, a14, a15⟩ := H.same
  exact ⟨a1, a2, a3, a4, a5, a6, a7, a8, a9, a10, ⟨hn, rfl, fun j hj => (hy j hj).1, fun j hj => (hy j hj).2⟩, a12.cv rfl rfl rfl rfl rfl rfl rfl rfl, a13.cv rfl rfl rfl rfl rfl rfl rfl rfl, a14.cv rfl rfl rfl rfl rfl rfl rfl rfl, a15⟩
theorem rl.key (H : rl S sk v c sg B) {y : Int32} (hn : S.tn 0 < 120) (hy : ¬ z_text y = 0) : rl (cSm S.u S.nc S.cl S.us S.w S.fm S.nf S.fa (va_up S.tn 0 (S.tn 0 + 1)) (va_up S.tx 0 (upd (S.tx 0) (S.tn 0) y)) S.rd S.rs S.ra S.ky) sk (upd v 24 (nI (S.tn 0 + 1))) (va_up c 23 (upd (c 23) (S.tn 0) y)) sg (B + 1) := by
  obtain ⟨a1, a2, a3, a4, a5, a6, a7, a8, a9, a10, a11, a12, a13, a14, a15⟩ := H.same
  refine ⟨a1, a2, a3, a4, a5, a6, a7, a8, a9, ⟨by show S.tn 0 + 1 ≤ 120; omega, rfl, fun j hj => ?_, fun j hj => ?_⟩, a11, a12.cv rfl rfl rfl rfl rfl rfl rfl rfl, a13.cv rfl rfl rfl rfl rfl rfl rfl rfl, a14.cv rfl rfl rfl rfl rfl rfl rfl rfl, a15⟩
  · show upd (S.tx 0) (S.tn 0) y j = upd (c 23) (S.tn 0) y j
    by_cases e : j = S.tn 0
    · simp [upd, e]
    · rw [upd_ne e, upd_ne e]
      exact a10.eq j (by have : j < S.tn 0 + 1 := hj; omega)
  · show ∃ q, q < 127 ∧ upd (S.tx 0) (S.tn 0) y j = nI q
    by_cases e : j = S.tn 0
    · rw [e, pk_us]
      exact o_tx1 hy
    · rw [upd_ne e]
      exact a10.ch j (by have : j < S.tn 0 + 1 := hj; omega)
theorem rl.alter (H : rl S sk v c sg B) {y : Int32} {i : Nat} (hy : ¬ z_text y = 0) : rl (cSm S.u S.nc S.cl S.us S.w S.fm S.nf S.fa S.tn (va_up S.tx 0 (upd (S.tx 0) i y)) S.rd S.rs S.ra S.ky) sk v (va_up c 23 (upd (c 23) i y)) sg (B + 1) := by
  obtain ⟨a1, a2, a3, a4, a5, a6, a7, a8, a9, a10, a11, a12, a13, a14, a15⟩ := H.same
  refine ⟨a1, a2, a3, a4, a5, a6, a7, a8, a9, ⟨a10.le, a10.vn, fun j hj => ?_, fun j hj => ?_⟩, a11, a12.cv rfl rfl rfl rfl rfl rfl rfl rfl, a13.cv rfl rfl rfl rfl rfl rfl rfl rfl, a14.cv rfl rfl rfl rfl rfl rfl rfl rfl, a15⟩
  · show upd (S.tx 0) i y j = upd (c 23) i y j
    by_cases e : j = i
    · simp [upd, e]
    · rw [upd_ne e, upd_ne e]
      exact a10.eq j hj
  · show ∃ q, q < 127 ∧ upd (S.tx 0) i y j = nI q
    by_cases e : j = i
    · rw [e, pk_us]
      exact o_tx1 hy
    · rw [upd_ne e]
      exact a10.ch j hj
theorem rl.take0 (H : rl S sk v c sg B) {g : Nat → Int32} : rl (cSm S.u S.nc S.cl S.us S.w S.fm S.nf S.fa (va_up S.tn 0 0) S.tx S.rd S.rs S.ra S.ky) sk (upd v 24 (nI 0)) (va_up c 23 g) sg (B + 1) := by
  obtain ⟨a1, a2, a3, a4, a5, a6, a7, a8, a9, a10, a11, a12, a13, a14, a15⟩ := H.same
  exact ⟨a1, a2, a3, a4, a5, a6, a7, a8, a9, ⟨Nat.zero_le _, rfl, fun j hj => absurd hj (Nat.not_lt_zero _), fun j hj => absurd hj (Nat.not_lt_zero _)⟩, a11, a12.cv rfl rfl rfl rfl rfl rfl rfl rfl, a13.cv rfl rfl rfl rfl rfl rfl rfl rfl, a14.cv rfl rfl rfl rfl rfl rfl rfl rfl, a15⟩
theorem rl.take (H : rl S sk v c sg B) {x g : Nat → Int32} (hx : ∀ j, j < S.tn 1 → x j = S.tx 1 j) (hg : ∀ j, j < S.tn 1 → g j = c 25 j) : rl (cSm S.u S.nc S.cl S.us S.w S.fm S.nf S.fa (va_up S.tn 0 (S.tn 1)) (va_up S.tx 0 x) S.rd S.rs S.ra S.ky) sk (upd v 24 (nI (S.tn 1))) (va_up c 23 g) sg (B + 1) := by
  obtain ⟨a1, a2, a3, a4, a5, a6, a7, a8, a9, a10, a11, a12, a13, a14, a15⟩ := H.same
  exact ⟨a1, a2, a3, a4, a5, a6, a7, a8, a9, ⟨a11.le, rfl, fun j hj => (hx j hj).trans ((a11.eq j hj).trans (hg j hj).symm), fun j hj => by obtain ⟨q, q1, q2⟩ := a11.ch j hj; exact ⟨q, q1, (hx j hj).trans q2⟩⟩, a11, a12.cv rfl rfl rfl rfl rfl rfl rfl rfl, a13.cv rfl rfl rfl rfl rfl rfl rfl rfl, a14.cv rfl rfl rfl rfl rfl rfl rfl rfl, a15⟩
def o_pk (k0 k1 k2 : Nat) : Nat → Nat := fun s => match s with
  | 0 => k0
  | 1 => k1
  | _ => k2
def o_pp (p0 p1 p2 : Nat → Nat) : Nat → Nat → Nat := fun s => match s with
  | 0 => p0
  | 1 => p1
  | _ => p2
theorem rl.sweep (H : rl S sk v c sg B) {k0 k1 k2 : Nat} {p0 p1 p2 : Nat → Nat} (h0 : k0 ≤ S.us 0) (z0 : z_pm 16 p0) (y0 : z_perm (S.w 0) (S.u 15) (S.us 0) k0 p0) (h1 : k1 ≤ S.us 1) (z1 : z_pm 24 p1) (y1 : z_perm (S.w 1) (S.u 15) (S.us 1) k1 p1) (h2 : k2 ≤ S.us 2) (z2 : z_pm 24 p2) (y2 : z_perm (S.w 2) (S.u 15) (S.us 2) k2 p2) :
    rl (cSm S.u S.nc S.cl (o_pk k0 k1 k2) (fun s i => S.w s (o_pp p0 p1 p2 s i)) (fun s i => S.fm s (o_pp p0 p1 p2 s i)) S.nf S.fa S.tn S.tx S.rd S.rs S.ra S.ky) sk v (va_up c 10 (m_sw (c 10) (c 13) (v 4) 64)) (fun s i => sg s (o_pp p0 p1 p2 s i)) (B + 1) ∧ nI (S.us 0 - k0) + nI (S.us 1 - k1) + nI (S.us 2 - k2) = nI (m_swc (c 10) (c 13) (v 4) 64) := by
  obtain ⟨a1, a2, a3, a4, a5, ⟨M, m1, m2, m3, m4⟩, ⟨T, b1, b2, b3⟩, a8, a9, a10, a11, a12, a13, a14, a15⟩ := H.same
  have et : S.u 15 = v 4 := b2.trans b3.symm
  rw [et] at y0 y1 y2
  obtain ⟨q0, e0⟩ := a12.sw (c' := va_up c 10 (m_sw (c 10) (c 13) (v 4) 64)) (by decide) h0 z0 y0 rfl rfl rfl rfl rfl rfl rfl rfl
  obtain ⟨q1, e1⟩ := a13.sw (c' := va_up c 10 (m_sw (c 10) (c 13) (v 4) 64)) (by decide) h1 z1 y1 rfl rfl rfl rfl rfl rfl rfl rfl
  obtain ⟨q2, e2⟩ := a14.sw (c' := va_up c 10 (m_sw (c 10) (c 13) (v 4) 64)) (by decide) h2 z2 y2 rfl rfl rfl rfl rfl rfl rfl rfl
  refine ⟨⟨a1, a2, a3, a4, a5, ⟨M, m1, m2, m3, fun i hi => ?_⟩, ⟨T, b1, b2, b3⟩, a8, a9, a10, a11, q0, q1, q2, a15⟩, ?_⟩
  · have z : p2 i ∈ (List.range (S.us 2)).filter (fun i => decide (v 4 < S.w 2 i 3)) := by
      rw [← y2]
      exact List.mem_map.mpr ⟨i, List.mem_range.mpr hi, rfl⟩
    exact m4 (p2 i) (List.mem_range.mp (List.mem_filter.mp z).1)
  · rw [nI_add, nI_add, e0, e1, e2, m_swc_3]
    rfl
end RL4
