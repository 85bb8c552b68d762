/-! The class's large methods: words. -/
def a_ref (fr f1 f2 : Int32) : Int32 := if fr = 0 then -5 else if f1 = 1 ∨ f2 = 1 then -6 else 0
def z_gt (e t : Int32) : Int32 := if e ≤ t then 0 else 1
theorem z_gt_0 {e t : Int32} : z_gt e t = 0 ↔ e ≤ t := by
  unfold z_gt
  split
  · exact ⟨fun _ => by assumption, fun _ => rfl⟩
  · exact ⟨fun z => absurd z (by decide), fun z => absurd z (by assumption)⟩
theorem z_act_gt {w : Nat → Int32} {m1 : Option Nat} {fv t : Int32} (h6 : w 6 = 0) (h7 : w 7 = 0) (hm : m1 = none) : z_act w m1 fv t = z_gt (w 3) t := by
  unfold z_act z_gt
  by_cases h : w 3 ≤ t
  · rw [if_pos (Or.inr (Or.inr (Or.inr h))), if_pos h]
  · rw [if_neg h, if_neg (fun z => z.elim (fun q => q h6) (fun z => z.elim (fun q => q h7) (fun z => z.elim (fun q => q.1 hm) h)))]
theorem z_full_b {u N : Nat} (h : ¬ z_full u N = 0) : z_full u N = 1 := by
  unfold z_full at *
  split
  · rename_i q
    exact absurd (if_pos q) h
  · rfl
theorem z_some_l {x : Int32} {r : Prop} (h : z_some x = 0) : x < 1 ∨ 15 < x ∨ r := by
  unfold z_some at h
  split at h
  · rename_i q
    exact q.elim Or.inl (fun z => Or.inr (Or.inl z))
  · exact absurd h (by decide)
theorem z_some_1 {x : Int32} (h : ¬ z_some x = 0) : ¬ x < 1 ∧ ¬ 15 < x := by
  unfold z_some at h
  split at h
  · exact absurd rfl h
  · rename_i q
    exact ⟨fun z => q (Or.inl z), fun z => q (Or.inr z)⟩
theorem z_some_2 {x : Int32} (h1 : ¬ x < 1) (h2 : ¬ 15 < x) : ¬ z_some x = 0 := by
  unfold z_some
  rw [if_neg (fun z => z.elim h1 h2)]
  decide
theorem a_ref_ok {fr f1 f2 : Int32} (h : a_ref fr f1 f2 = 0) : ¬ fr = 0 ∧ ¬ f1 = 1 ∧ ¬ f2 = 1 := by
  unfold a_ref at h
  split at h
  · exact absurd h (by decide)
  · split at h
    · exact absurd h (by decide)
    · rename_i a b
      exact ⟨a, fun z => b (Or.inl z), fun z => b (Or.inr z)⟩
theorem a_ex_ok {en now r1 red ch1 ch fr f1 f2 : Int32} (h : a_ex en now r1 red ch1 ch fr f1 f2 = 0) : ¬ en ≤ now ∧ r1 = red ∧ ch1 = ch ∧ a_ref fr f1 f2 = 0 := by
  unfold a_ex at h
  split at h
  · exact absurd h (by decide)
  · rename_i a
    refine ⟨fun z => a (Or.inl z), Decidable.not_not.mp (fun z => a (Or.inr (Or.inl z))), Decidable.not_not.mp (fun z => a (Or.inr (Or.inr z))), ?_⟩
    exact h
theorem a_rf_ok {act sc fsc fr f1 f2 : Int32} (h : a_rf act sc fsc fr f1 f2 = 0) : ¬ act = 0 ∧ ¬ sc < 0 ∧ ¬ 15 < sc ∧ ¬ z_within sc fsc = 0 ∧ a_ref fr f1 f2 = 0 := by
  unfold a_rf at h
  split at h
  · exact absurd h (by decide)
  · split at h
    · exact absurd h (by decide)
    · rename_i a b
      exact ⟨a, fun z => b (Or.inl z), fun z => b (Or.inr (Or.inl z)), fun z => b (Or.inr (Or.inr z)), h⟩
theorem a_auth_ok {r1 s1 red sc ch fr fu : Int32} (h : a_auth r1 s1 red sc ch fr fu = 0) : ¬ ch < 0 ∧ ¬ 1073741823 < ch ∧ r1 = red ∧ ¬ sc < 1 ∧ ¬ 15 < sc ∧ ¬ z_within sc s1 = 0 ∧ ¬ fr = 0 ∧ ¬ fu = 1 := by
  unfold a_auth at h
  split at h
  · exact absurd h (by decide)
  · split at h
    · exact absurd h (by decide)
    · split at h
      · exact absurd h (by decide)
      · split at h
        · exact absurd h (by decide)
        · split at h
          · exact absurd h (by decide)
          · rename_i a b d g i
            exact ⟨fun z => a (Or.inl z), fun z => a (Or.inr z), Decidable.not_not.mp b, fun z => d (Or.inl z), fun z => d (Or.inr (Or.inl z)), fun z => d (Or.inr (Or.inr z)), g, i⟩
/-- whether the number x is one of an active row -/
def z_ha (w : Nat → Nat → Int32) (m1 : Nat → Option Nat) (fv : Nat → Int32) (t : Int32) (u : Nat) (x : Int32) : Int32 := match z_fi w x u 0 with
  | none => 0
  | some i => z_act (w i) (m1 i) (fv i) t
theorem z_ha_n {w : Nat → Nat → Int32} {m1 : Nat → Option Nat} {fv : Nat → Int32} {t : Int32} {u : Nat} {x : Int32} (h : z_fi w x u 0 = none) : z_ha w m1 fv t u x = 0 := by
  unfold z_ha
  rw [h]
theorem z_ha_s {w : Nat → Nat → Int32} {m1 : Nat → Option Nat} {fv : Nat → Int32} {t : Int32} {u i : Nat} {x : Int32} (h : z_fi w x u 0 = some i) : z_ha w m1 fv t u x = z_act (w i) (m1 i) (fv i) t := by
  unfold z_ha
  rw [h]
theorem z_ha_01 (w : Nat → Nat → Int32) (m1 : Nat → Option Nat) (fv : Nat → Int32) (t : Int32) (u : Nat) (x : Int32) : z_ha w m1 fv t u x = 0 ∨ z_ha w m1 fv t u x = 1 := by
  unfold z_ha
  split
  · exact Or.inl rfl
  · exact z_act_01 _ _ _ _
def z_de (a : Int32) : Int32 := if a = 0 then 1 else 0
theorem z_de_1 {a : Int32} (h : a = 0) : z_de a = 1 := if_pos h
theorem z_de_0 {a : Int32} (h : ¬ a = 0) : z_de a = 0 := if_neg h
section HML2
variable {p : Program} {l : Launch} {e : Env} {R : Room} {s : State} {m : MethodId} {args : Array Value} {below : List Frame} {meth : Method} {c : Code} {H : Heap} {locs : List Loc} {cells slots : Nat} {Q : State → Prop} {cc : ByteArray} {pc : Nat} {ls : Array Slot} {rest : List Value}
theorem hm_ldcwS (hexec : p.tables.exec = Jvm.exec) (hb : c.code = cc) {own tx : String} {index q : Nat} (hown : s.vm.findClass own = some m.cls) (hZ : vk_R own index tx q s) (hdg : decode cc pc = .ok (.ldc_w index, 3))
    (k : W p l e R s m args below meth c H locs cells slots Q (F0 m (pc + 3) ls (.ref q :: rest))) : W p l e R s m args below meth c H locs cells slots Q (F0 m pc ls rest) := by
  intro T hT X
  obtain ⟨t, a1, b1⟩ := k T hT X
  exact ⟨t, X.ldcStringW hexec hown (text := tx) (a := q) hZ.1 hZ.2 (g := F0 m pc ls rest) rfl (by rw [hb]; exact hdg) t a1, b1⟩
end HML2
