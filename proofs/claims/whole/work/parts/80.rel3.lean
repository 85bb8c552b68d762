def o_3 (a b d : Int32) : Nat → Int32 := fun q => match q with
  | 0 => a
  | 1 => b
  | _ => d
theorem upd_ne {f : Nat → Int32} {k j : Nat} {x : Int32} (h : j ≠ k) : upd f k x j = f j := if_neg h
section RL3
variable {S : cS} {sk : Int64} {v : Nat → Int32} {c : Nat → Nat → Int32} {sg : Nat → Nat → Nat} {B : Nat}
theorem r_sh.cv {s us nf : Nat} {w : Nat → Nat → Int32} {fm : Nat → Option Nat} {sg : Nat → Nat} {c c' : Nat → Nat → Int32} (H : r_sh s c us w fm nf sg) (e0 : c' 10 = c 10) (e1 : c' 11 = c 11) (e2 : c' 12 = c 12) (e3 : c' 13 = c 13) (e4 : c' 14 = c 14) (e5 : c' 15 = c 15) (e6 : c' 16 = c 16) (e7 : c' 17 = c 17) : r_sh s c' us w fm nf sg :=
  H.ag (Nat.le_refl _) (fun k _ _ => by rw [e0]) (fun k _ _ => by rw [e1]) (fun k _ _ => by rw [e2]) (fun k _ _ => by rw [e3]) (fun k _ _ => by rw [e4]) (fun k _ _ => by rw [e5]) (fun _ k _ _ => by rw [e6]) (fun _ k _ _ => by rw [e7])
theorem rl.client (H : rl S sk v c sg B) (hn : S.nc < 4) (a b d : Int32) : rl (cSm (upd S.u 12 (nI (S.nc + 1))) (S.nc + 1) (va_up S.cl S.nc (o_3 a b d)) S.us S.w S.fm S.nf S.fa S.tn S.tx S.rd S.rs S.ra S.ky) sk (upd v 8 (nI (S.nc + 1))) (va_up (va_up (va_up c 5 (upd (c 5) S.nc a)) 6 (upd (c 6) S.nc b)) 7 (upd (c 7) S.nc d)) sg (B + 1) := by
  obtain ⟨a1, a2, a3, a4, a5, a6, a7, a8, a9, a10, a11, a12, a13, a14, a15⟩ := H.same
  refine ⟨a1, a2, ⟨rfl, rfl, by show S.nc + 1 ≤ 4; omega⟩, fun j hj => ?_, ⟨a5.1, ?_⟩, a6, a7, a8, a9, a10, a11, a12.cv rfl rfl rfl rfl rfl rfl rfl rfl, a13.cv rfl rfl rfl rfl rfl rfl rfl rfl, a14.cv rfl rfl rfl rfl rfl rfl rfl rfl, a15⟩
  · show va_up S.cl S.nc (o_3 a b d) j 0 = upd (c 5) S.nc a j ∧ va_up S.cl S.nc (o_3 a b d) j 1 = upd (c 6) S.nc b j ∧ va_up S.cl S.nc (o_3 a b d) j 2 = upd (c 7) S.nc d j
    by_cases q : j = S.nc
    · subst q
      simp [va_up, upd, o_3]
    · simp only [va_up, upd, if_neg q]
      exact a4 j (by have : j < S.nc + 1 := hj; omega)
  · rcases a5.2 with q | ⟨j, q1, q2⟩
    · exact Or.inl q
    · exact Or.inr ⟨j, by show j < S.nc + 1; omega, q2⟩
theorem rl.login (H : rl S sk v c sg B) {j : Nat} (hj : j < S.nc) : rl (cSm (upd S.u 13 (nI j)) S.nc S.cl S.us S.w S.fm S.nf S.fa S.tn S.tx S.rd S.rs S.ra S.ky) sk (upd v 9 (nI j)) c sg (B + 1) := by
  obtain ⟨a1, a2, a3, a4, a5, a6, a7, a8, a9, a10, a11, a12, a13, a14, a15⟩ := H.same
  exact ⟨a1, a2, a3, a4, ⟨rfl, Or.inr ⟨j, hj, rfl⟩⟩, a6, a7, a8, a9, a10, a11, a12, a13, a14, a15⟩
theorem rl.logout (H : rl S sk v c sg B) : rl (cSm (upd S.u 13 (-1)) S.nc S.cl S.us S.w S.fm S.nf S.fa S.tn S.tx S.rd S.rs S.ra S.ky) sk (upd v 9 (-1)) c sg (B + 1) := by
  obtain ⟨a1, a2, a3, a4, a5, a6, a7, a8, a9, a10, a11, a12, a13, a14, a15⟩ := H.same
  exact ⟨a1, a2, a3, a4, ⟨rfl, Or.inl rfl⟩, a6, a7, a8, a9, a10, a11, a12, a13, a14, a15⟩
theorem rl.tick (H : rl S sk v c sg B) {x : Int32} (h1 : ¬ x < 0) (h2 : ¬ 10000 < x) : rl (cSm (upd S.u 15 (S.u 15 + x)) S.nc S.cl S.us S.w S.fm S.nf S.fa S.tn S.tx S.rd S.rs S.ra S.ky) sk (m_tickV v x) c sg (B + 1) := by
  obtain ⟨a1, a2, a3, a4, a5, a6, ⟨T, b1, b2, b3⟩, a8, a9, a10, a11, a12, a13, a14, a15⟩ := H
  obtain ⟨q, q1, q2⟩ := nI_of2 (M := 10000) (n := 10000) rfl h1 (Int32.not_lt.mp h2)
  have e : m_tickV v x = upd v 4 (v 4 + x) := if_neg (fun z => z.elim h1 (fun w => w (Int32.not_lt.mp h2)))
  rw [e]
  have H2 : rl S sk v c sg (B + 1) := rl.same ⟨a1, a2, a3, a4, a5, a6, ⟨T, b1, b2, b3⟩, a8, a9, a10, a11, a12, a13, a14, a15⟩
  refine ⟨a1, a2, a3, a4, a5, H2.md, ⟨T + q, by omega, ?_, ?_⟩, H2.nf, a9, a10, a11, a12, a13, a14, a15⟩
  · show S.u 15 + x = nI (T + q)
    rw [b2, q2, nI_add]
  · show v 4 + x = nI (T + q)
    rw [b3, q2, nI_add]
theorem rl.rev (H : rl S sk v c sg B) {t : Nat} (ht : t < S.nf) : rl (cSm S.u S.nc S.cl S.us S.w S.fm S.nf (va_up S.fa t (upd (S.fa t) 2 1)) S.tn S.tx S.rd S.rs S.ra S.ky) sk v (va_up c 21 (upd (c 21) t 1)) sg (B + 1) := by
  obtain ⟨a1, a2, a3, a4, a5, a6, a7, a8, a9, a10, a11, a12, a13, a14, a15⟩ := H.same
  refine ⟨a1, a2, a3, a4, a5, a6, a7, a8, fun t' ht' => ?_, a10, a11, a12.cv rfl rfl rfl rfl rfl rfl rfl rfl, a13.cv rfl rfl rfl rfl rfl rfl rfl rfl, a14.cv rfl rfl rfl rfl rfl rfl rfl rfl, a15⟩
  have z := a9 t' ht'
  show va_up S.fa t (upd (S.fa t) 2 1) t' 0 = c 19 t' ∧ va_up S.fa t (upd (S.fa t) 2 1) t' 1 = c 20 t' ∧ va_up S.fa t (upd (S.fa t) 2 1) t' 2 = upd (c 21) t 1 t' ∧ (∃ q, q ≤ 15 ∧ va_up S.fa t (upd (S.fa t) 2 1) t' 0 = nI q) ∧ ∃ q, q ≤ 3 ∧ va_up S.fa t (upd (S.fa t) 2 1) t' 1 = nI q
  by_cases q : t' = t
  · subst q
    simp only [va_up, upd, if_true]
    exact ⟨z.1, z.2.1, trivial, z.2.2.2.1, z.2.2.2.2⟩
  · simp only [va_up, upd, if_neg q]
    exact z
/-- a row's mark: the slot is over -/
theorem o_row.mark {s : Nat} {w : Nat → Int32} {fm : Option Nat} {nf k e : Nat} {c : Nat → Nat → Int32} (R : o_row s w fm nf c k) (he : (s = 1 ∧ e = 6) ∨ (s = 2 ∧ e = 7)) : o_row s (upd w e 1) fm nf (va_up c 14 (upd (c 14) k 1)) k := by
  obtain ⟨r0, r1, r2, r3, r4, r5, r6, r7, r8, r9⟩ := R
  have hv : va_up c 14 (upd (c 14) k 1) 14 k = 1 := by simp [va_up, upd]
  rcases he with ⟨hs, he⟩ | ⟨hs, he⟩
  · subst hs; subst he
    refine ⟨r0, r1, r2, r3, r4, ?_, r6, fun z => absurd z (by decide), fun _ => r8 rfl, fun z => absurd z (by decide)⟩
    rw [hv]
    exact ⟨fun z => absurd z (by decide), fun z => absurd z.1 (by show ¬ (1 : Int32) = 0; decide)⟩
  · subst hs; subst he
    refine ⟨r0, r1, r2, r3, r4, ?_, r6, fun z => absurd z (by decide), fun z => absurd z (by decide), fun _ => r9 rfl⟩
    rw [hv]
    exact ⟨fun z => absurd z (by decide), fun z => absurd z.2 (by show ¬ (1 : Int32) = 0; decide)⟩
theorem rl.mark1 (H : rl S sk v c sg B) {i : Nat} (hi : i < S.us 1) : rl (cSm S.u S.nc S.cl S.us (va_up S.w 1 (va_up (S.w 1) i (upd (S.w 1 i) 6 1))) S.fm S.nf S.fa S.tn S.tx S.rd S.rs S.ra S.ky) sk v (va_up c 14 (upd (c 14) (sg 1 i) 1)) sg (B + 1) := by
  have L := H.s1.lt (by decide) hi
  have L1 : 16 ≤ sg 1 i ∧ sg 1 i < 40 := ⟨L.1, L.2.1⟩
  obtain ⟨a1, a2, a3, a4, a5, a6, a7, a8, a9, a10, a11, a12, a13, a14, a15⟩ := H.same
  refine ⟨a1, a2, a3, a4, a5, a6, a7, a8, a9, a10, a11, a12.ag (Nat.le_refl _) (fun _ _ _ => rfl) (fun _ _ _ => rfl) (fun _ _ _ => rfl) (fun _ _ _ => rfl) (fun k _ h2 => ?_) (fun _ _ _ => rfl) (fun _ _ _ _ => rfl) (fun _ _ _ _ => rfl), ?_, a14.ag (Nat.le_refl _) (fun _ _ _ => rfl) (fun _ _ _ => rfl) (fun _ _ _ => rfl) (fun _ _ _ => rfl) (fun k h1 _ => ?_) (fun _ _ _ => rfl) (fun _ _ _ _ => rfl) (fun _ _ _ _ => rfl), a15⟩
  · have : k < 16 := h2
    exact upd_ne (by omega)
  · have z := a13.up (i0 := i) (W := upd (S.w 1 i) 6 1) (f0 := S.fm 1 i) (c' := va_up c 14 (upd (c 14) (sg 1 i) 1)) (Nat.le_refl _) hi rfl rfl ((a13.row i hi).mark (Or.inl ⟨rfl, rfl⟩)) (fun k hk => ⟨rfl, rfl, rfl, upd_ne hk, rfl, fun _ => ⟨rfl, rfl⟩⟩)
    rw [va_up_id] at z
    exact z
  · have : 40 ≤ k := h1
    exact upd_ne (by omega)
theorem rl.mark2 (H : rl S sk v c sg B) {i : Nat} (hi : i < S.us 2) : rl (cSm S.u S.nc S.cl S.us (va_up S.w 2 (va_up (S.w 2) i (upd (S.w 2 i) 7 1))) S.fm S.nf S.fa S.tn S.tx S.rd S.rs S.ra S.ky) sk v (va_up c 14 (upd (c 14) (sg 2 i) 1)) sg (B + 1) := by
  have L := H.s2.lt (by decide) hi
  have L1 : 40 ≤ sg 2 i ∧ sg 2 i < 64 := ⟨L.1, L.2.1⟩
  obtain ⟨a1, a2, a3, a4, a5, ⟨M, m1, m2, m3, m4⟩, a7, a8, a9, a10, a11, a12, a13, a14, a15⟩ := H.same
  refine ⟨a1, a2, a3, a4, a5, ⟨M, m1, m2, m3, fun j hj => ?_⟩, a7, a8, a9, a10, a11, a12.ag (Nat.le_refl _) (fun _ _ _ => rfl) (fun _ _ _ => rfl) (fun _ _ _ => rfl) (fun _ _ _ => rfl) (fun k _ h2 => ?_) (fun _ _ _ => rfl) (fun _ _ _ _ => rfl) (fun _ _ _ _ => rfl), a13.ag (Nat.le_refl _) (fun _ _ _ => rfl) (fun _ _ _ => rfl) (fun _ _ _ => rfl) (fun _ _ _ => rfl) (fun k h1 h2 => ?_) (fun _ _ _ => rfl) (fun _ _ _ _ => rfl) (fun _ _ _ _ => rfl), ?_, a15⟩
  · obtain ⟨q, q1, q2, q3⟩ := m4 j hj
    refine ⟨q, q1, q2, ?_⟩
    show va_up (S.w 2) i (upd (S.w 2 i) 7 1) j 0 = nI q
    by_cases e : j = i
    · subst e
      simp only [va_up, if_true]
      exact q3
    · simp only [va_up, if_neg e]
      exact q3
  · have : k < 16 := h2
    exact upd_ne (by omega)
  · have : k < 40 := h2
    exact upd_ne (by omega)
  · have z := a14.up (i0 := i) (W := upd (S.w 2 i) 7 1) (f0 := S.fm 2 i) (c' := va_up c 14 (upd (c 14) (sg 2 i) 1)) (Nat.le_refl _) hi rfl rfl ((a14.row i hi).mark (Or.inr ⟨rfl, rfl⟩)) (fun k hk => ⟨rfl, rfl, rfl, upd_ne hk, rfl, fun _ => ⟨rfl, rfl⟩⟩)
    rw [va_up_id] at z
    exact z
/-- a code is spent for a new family -/
theorem rl.spend (H : rl S sk v c sg B) (hB : B < 512) {i p q : Nat} (hi : i < S.us 0) (hp : p ≤ 15) (hq : q ≤ 3) : rl (cSm S.u S.nc S.cl S.us (va_up S.w 0 (va_up (S.w 0) i (upd (S.w 0 i) 6 1))) (va_up S.fm 0 (va_up (S.fm 0) i (some S.nf))) (S.nf + 1) (va_up S.fa S.nf (o_3 (nI p) (nI q) 0)) S.tn S.tx S.rd S.rs S.ra S.ky) sk (upd v 22 (nI (S.nf + 1)))
    (va_up (va_up (va_up (va_up (va_up c 19 (upd (c 19) S.nf (nI p))) 20 (upd (c 20) S.nf (nI q))) 21 (upd (c 21) S.nf 0)) 14 (upd (c 14) (sg 0 i) 1)) 15 (upd (c 15) (sg 0 i) (nI S.nf))) sg (B + 1) := by
  have L := H.s0.lt (by decide) hi
  have L1 : sg 0 i < 16 := L.2.1
  have hnf := H.nf
  obtain ⟨a1, a2, a3, a4, a5, a6, a7, a8, a9, a10, a11, a12, a13, a14, a15⟩ := H.same
  refine ⟨a1, a2, a3, a4, a5, a6, a7, ⟨by show S.nf + 1 ≤ B + 1; omega, rfl⟩, fun t ht => ?_, a10, a11, ?_, a13.ag (Nat.le_succ _) (fun _ _ _ => rfl) (fun _ _ _ => rfl) (fun _ _ _ => rfl) (fun _ _ _ => rfl) (fun k h1 _ => ?_) (fun k h1 _ => ?_) (fun _ _ _ _ => rfl) (fun _ _ _ _ => rfl), a14.ag (Nat.le_succ _) (fun _ _ _ => rfl) (fun _ _ _ => rfl) (fun _ _ _ => rfl) (fun _ _ _ => rfl) (fun k h1 _ => ?_) (fun k h1 _ => ?_) (fun _ _ _ _ => rfl) (fun _ _ _ _ => rfl), fun j hj => ?_⟩
  · show va_up S.fa S.nf (o_3 (nI p) (nI q) 0) t 0 = upd (c 19) S.nf (nI p) t ∧ va_up S.fa S.nf (o_3 (nI p) (nI q) 0) t 1 = upd (c 20) S.nf (nI q) t ∧ va_up S.fa S.nf (o_3 (nI p) (nI q) 0) t 2 = upd (c 21) S.nf 0 t ∧ (∃ q', q' ≤ 15 ∧ va_up S.fa S.nf (o_3 (nI p) (nI q) 0) t 0 = nI q') ∧ ∃ q', q' ≤ 3 ∧ va_up S.fa S.nf (o_3 (nI p) (nI q) 0) t 1 = nI q'
    by_cases e : t = S.nf
    · subst e
      simp only [va_up, upd, if_true, o_3]
      exact ⟨trivial, trivial, trivial, ⟨p, hp, rfl⟩, q, hq, rfl⟩
    · simp only [va_up, upd, if_neg e]
      exact a9 t (by have : t < S.nf + 1 := ht; omega)
  · obtain ⟨r0, r1, r2, r3, r4, r5, r6, r7, r8, r9⟩ := a12.row i hi
    refine a12.up (i0 := i) (W := upd (S.w 0 i) 6 1) (f0 := some S.nf) (Nat.le_succ _) hi rfl rfl ⟨r0, r1, r2, r3, r4, ?_, Or.inr ⟨S.nf, rfl, Nat.lt_succ_self _, ?_⟩, fun _ => ⟨(r7 rfl).1, (r7 rfl).2.1, (r7 rfl).2.2.1, ?_⟩, fun z => absurd z (by decide), fun z => absurd z (by decide)⟩ (fun k hk => ⟨rfl, rfl, rfl, upd_ne hk, upd_ne hk, fun _ => ⟨rfl, rfl⟩⟩)
    · show upd (c 14) (sg 0 i) 1 (sg 0 i) = 0 ↔ _
      rw [pk_us]
      exact ⟨fun z => absurd z (by decide), fun z => absurd z.1 (by show ¬ (1 : Int32) = 0; decide)⟩
    · exact pk_us
    · exact ⟨fun z => absurd z (by show ¬ (1 : Int32) = 0; decide), fun z => by cases z⟩
  · have : 16 ≤ k := h1
    exact upd_ne (by omega)
  · have : 16 ≤ k := h1
    exact upd_ne (by omega)
  · have : 40 ≤ k := h1
    exact upd_ne (by omega)
  · have : 40 ≤ k := h1
    exact upd_ne (by omega)
  · show upd (c 15) (sg 0 i) (nI S.nf) j < 0 ∨ ∃ t, t < 520 ∧ upd (c 15) (sg 0 i) (nI S.nf) j = nI t
    by_cases e : j = sg 0 i
    · rw [e, pk_us]
      exact Or.inr ⟨S.nf, by omega, rfl⟩
    · rw [upd_ne e]
      exact a15 j hj
/-- a code is added -/
theorem rl.auth (H : rl S sk v c sg B) {jr p : Nat} {x red ch : Int32} {W : Nat → Int32} {o : Int32} (hr1 : jr < 16) (hr2 : c 10 jr = 0) (hx : ¬ x = 0) (hnew : z_fi (S.w 0) x (S.us 0) 0 = none) (hp : p ≤ 15)
    (w0 : W 0 = x) (w1 : W 1 = o) (w2 : W 2 = nI p) (w3 : W 3 = S.u 15 + S.u 0) (w4 : W 4 = red) (w5 : W 5 = ch) (w6 : W 6 = 0) (w7 : W 7 = 0) :
    rl (cSm S.u S.nc S.cl (va_up S.us 0 (S.us 0 + 1)) (va_up S.w 0 (va_up (S.w 0) (S.us 0) W)) (va_up S.fm 0 (va_up (S.fm 0) (S.us 0) none)) S.nf S.fa S.tn S.tx S.rd S.rs S.ra S.ky) sk v
      (va_up (va_up (m_put c jr x o (nI p) (v 4 + v 1) (-1)) 16 (upd (c 16) jr red)) 17 (upd (c 17) jr ch)) (va_up sg 0 (va_up (sg 0) (S.us 0) jr)) (B + 1) := by
  obtain ⟨T, -, t1, t2⟩ := H.tm
  obtain ⟨lx, ly, lz, -, -, -, l1, l2, -⟩ := H.li
  obtain ⟨a1, a2, a3, a4, a5, a6, a7, a8, a9, a10, a11, a12, a13, a14, a15⟩ := H.same
  refine ⟨a1, a2, a3, a4, a5, a6, a7, a8, a9, a10, a11, ?_, ?_, ?_, fun j hj => ?_⟩
  · refine a12.put (k0 := jr) (W := W) (f0 := none) (x := x) (Nat.zero_le _) (by show jr < 0 + 16; omega) hr2 hx w0 (fun i hi => z_fi_n.mp hnew i (Nat.zero_le _) (by omega)) rfl ⟨?_, ?_, ?_, ?_, ⟨p, hp, w2⟩, ?_, Or.inl ⟨rfl, ?_⟩, fun _ => ⟨?_, ?_, w7, ⟨fun _ => rfl, fun _ => w6⟩⟩, fun z => absurd z (by decide), fun z => absurd z (by decide)⟩ (fun k hk => ⟨upd_ne hk, upd_ne hk, upd_ne hk, upd_ne hk, upd_ne hk, fun _ => ⟨upd_ne hk, upd_ne hk⟩⟩)
    · rw [w0]; exact pk_us.symm
    · rw [w1]; exact pk_us.symm
    · rw [w2]; exact pk_us.symm
    · rw [w3, t1, l1, ← t2, ← l2]; exact pk_us.symm
    · show upd (c 14) jr 0 jr = 0 ↔ _
      rw [pk_us]
      exact ⟨fun _ => ⟨w6, w7⟩, fun _ => rfl⟩
    · show upd (c 15) jr (-1) jr < 0
      rw [pk_us]
      decide
    · rw [w4]; exact pk_us.symm
    · rw [w5]; exact pk_us.symm
  · have hh : ∀ k, o_a 1 ≤ k → k ≠ jr := fun k h => by have : 16 ≤ k := h; omega
    exact a13.ag (Nat.le_refl _) (fun k h _ => upd_ne (hh k h)) (fun k h _ => upd_ne (hh k h)) (fun k h _ => upd_ne (hh k h)) (fun k h _ => upd_ne (hh k h)) (fun k h _ => upd_ne (hh k h)) (fun k h _ => upd_ne (hh k h)) (fun z => absurd z (by decide)) (fun z => absurd z (by decide))
  · have hh : ∀ k, o_a 2 ≤ k → k ≠ jr := fun k h => by have : 40 ≤ k := h; omega
    exact a14.ag (Nat.le_refl _) (fun k h _ => upd_ne (hh k h)) (fun k h _ => upd_ne (hh k h)) (fun k h _ => upd_ne (hh k h)) (fun k h _ => upd_ne (hh k h)) (fun k h _ => upd_ne (hh k h)) (fun k h _ => upd_ne (hh k h)) (fun z => absurd z (by decide)) (fun z => absurd z (by decide))
  · show upd (c 15) jr (-1) j < 0 ∨ ∃ t, t < 520 ∧ upd (c 15) jr (-1) j = nI t
    by_cases e : j = jr
    · rw [e, pk_us]
      exact Or.inl (by decide)
    · rw [upd_ne e]
      exact a15 j hj
end RL3
