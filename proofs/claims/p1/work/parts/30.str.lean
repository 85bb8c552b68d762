def R_JString : String := "java/lang/String"
def R_JStringLatin1 : String := "java/lang/StringLatin1"
def R_JPre : String := "jdk/internal/util/Preconditions"
/-- the String constants: lengths, bytes, where they stand -/
def st_len : List Nat := [7, 7, 7, 7, 9, 1, 64, 5, 5, 5, 5, 7]
def st_byt : List (List Int32) := [[123, 34, 115, 117, 98, 34, 58], [44, 34, 97, 117, 100, 34, 58], [44, 34, 101, 120, 112, 34, 58], [44, 34, 106, 116, 105, 34, 58], [44, 34, 115, 99, 111, 112, 101, 34, 58], [125], [65, 66, 67, 68, 69, 70, 71, 72, 73, 74, 75, 76, 77, 78, 79, 80, 81, 82, 83, 84, 85, 86, 87, 88, 89, 90, 97, 98, 99, 100, 101, 102, 103, 104, 105, 106, 107, 108, 109, 110, 111, 112, 113, 114, 115, 116, 117, 118, 119, 120, 121, 122, 48, 49, 50, 51, 52, 53, 54, 55, 56, 57, 45, 95], [34, 115, 117, 98, 34], [34, 97, 117, 100, 34], [34, 101, 120, 112, 34], [34, 106, 116, 105, 34], [34, 115, 99, 111, 112, 101, 34]]
def st_own (i : Nat) : String := match i with
  | 0 => "GrantServer"
  | 1 => "GrantServer"
  | 2 => "GrantServer"
  | 3 => "GrantServer"
  | 4 => "GrantServer"
  | 5 => "GrantServer"
  | 6 => "GrantServer$Wrapping"
  | 7 => "GrantServer$ClaimsReader"
  | 8 => "GrantServer$ClaimsReader"
  | 9 => "GrantServer$ClaimsReader"
  | 10 => "GrantServer$ClaimsReader"
  | _ => "GrantServer$ClaimsReader"
def st_idx (i : Nat) : Nat := match i with
  | 0 => 266
  | 1 => 275
  | 2 => 277
  | 3 => 282
  | 4 => 284
  | 5 => 286
  | 6 => 22
  | 7 => 76
  | 8 => 78
  | 9 => 80
  | 10 => 82
  | _ => 84
def st_txt (i : Nat) : String := match i with
  | 0 => "{\"sub\":"
  | 1 => ",\"aud\":"
  | 2 => ",\"exp\":"
  | 3 => ",\"jti\":"
  | 4 => ",\"scope\":"
  | 5 => "}"
  | 6 => "ABCDEFGHIJKLMNOPQRSTUVWXYZabcdefghijklmnopqrstuvwxyz0123456789-_"
  | 7 => "\"sub\""
  | 8 => "\"aud\""
  | 9 => "\"exp\""
  | 10 => "\"jti\""
  | _ => "\"scope\""
def z_enc (x : Int32) : Int32 := if x < 0 ∨ 255 < x then 0 else 1
/-- the first place, from j on, of t places of constant i, that holds the byte y -/
def st_fi (i : Nat) (y : Int32) : Nat → Nat → Int32
  | 0, _ => -1
  | t + 1, j => if (st_byt.getD i []).getD j 0 = y then nI j else st_fi i y t (j + 1)
/-- a character of a constant -/
def st_chr (i j : Nat) : Nat := ((st_byt.getD i []).getD j 0).toNatClampNeg
theorem st_ok : ∀ i, i < 12 → ∀ j, j < st_len.getD i 0 → ((((st_byt.getD i []).getD j 0) &&& 255).toUInt32 % 65536).toInt32 = nI (st_chr i j) ∧ st_chr i j < 128 ∧ (st_byt.getD i []).getD j 0 = nI (st_chr i j) := by decide +kernel
theorem st_ln : ∀ i, i < 12 → st_len.getD i 0 ≤ 64 := by decide +kernel
def hm_Z (sA sV : Nat → Nat) (A : Nat → Prop) (U : State) (H : Heap) : Prop := vk_S 12 st_len st_byt sA sV A U H ∧ va_Z "java/lang/String" "COMPACT_STRINGS" "Z" (.int 1) A U H ∧ (∀ i, i < 12 → vk_R (st_own i) (st_idx i) (st_txt i) (sA i) U) ∧ ∃ o : Option Nat, va_Z "jdk/internal/util/Preconditions" "SIOOBE_FORMATTER" "Ljava/util/function/BiFunction;" (va_rf o) A U H
theorem hm_Z.at {sA sV : Nat → Nat} {A B : Nat → Prop} {s U : State} {H : Heap} {locs : List Loc} (hZ : hm_Z sA sV A s s.heap) (hS : va_S A s.heap H locs) (hF : ∀ q, B q → A q) (hU : U.heap = H) (hW : s.WarmedH U.vm) : hm_Z sA sV B U U.heap := by
  rw [hU]
  exact ⟨((hZ.1.kept hS.2.1).narrow hF).moved hW.alike, ((hZ.2.1.kept hS.2.1).narrow hF).moved hW.alike, fun i hi => (hZ.2.2.1 i hi).warm hW, hZ.2.2.2.elim fun o ho => ⟨o, ((ho.kept hS.2.1).narrow hF).moved hW.alike⟩⟩
def hm_Bz (sA sV : Nat → Nat) (D : va_G) (cl : List vw_C) (tys : List (ClassId × FieldType)) (f : hm) (sz : Nat) (U : State) : Prop := hm_B D cl tys f sz U ∧ hm_Z sA sV (hm_A f sz) U U.heap
section HMZ
variable {p : Program} {l : Launch} {e : Env} {R : Room} {s : State} {m : MethodId} {args : Array Value} {below : List Frame} {meth : Method} {c : Code} {H : Heap} {locs : List Loc} {cells slots : Nat} {Q : State → Prop}
variable {cc : ByteArray} {pc : Nat} {ls : Array Slot} {rest : List Value} {D : va_G} {cl : List vw_C} {A : Nat → Prop} {tys : List (ClassId × FieldType)} {f f0 : hm} {nL mc ms : Nat} {Ts : List Cond} {own : String} {sA sV : Nat → Nat}
theorem hm_blindZ {sz : Nat} {as : List Value} : FrameBlind (va_Pc as (hm_Bz sA sV D cl tys f sz)) := fun a U g mk q => by
  obtain ⟨q0, ⟨q1, qP, qK⟩, q2, q3, q4, o, q5⟩ := q
  exact ⟨q0, ⟨q1, qP, hm_K.moved (u := U) (U := U.calling g mk a) (Vm.Alike.refl U.vm) qK⟩, vk_S.moved (u := U) (U := U.calling g mk a) (Vm.Alike.refl U.vm) q2, va_Z.moved (u := U) (U := U.calling g mk a) (Vm.Alike.refl U.vm) q3, fun i hi => vk_R.same (u := U) rfl (q4 i hi), o, va_Z.moved (u := U) (U := U.calling g mk a) (Vm.Alike.refl U.vm) q5⟩
theorem hm_preSZ (hZ : hm_Z sA sV A s s.heap) (hS : va_S A s.heap H locs) (hA : ∀ q, s.heap.size ≤ q → A q) (hM : hm_W D cl A f H) (hK : hm_K D cl tys s) {as : List Value} : PreS s H (va_Pc as (hm_Bz sA sV D cl tys f H.size)) as :=
  ⟨hm_blindZ, fun U hU hW => ⟨rfl, ⟨by rw [hU], by rw [hU]; exact hM.weaken (fun _ _ => trivial), hm_K.moved hW.alike hK⟩, hZ.at hS (hM.free hS hA) hU hW⟩⟩
theorem hm_preVZ (hZ : hm_Z sA sV A s s.heap) (hS : va_S A s.heap H locs) (hA : ∀ q, s.heap.size ≤ q → A q) (hM : hm_W D cl A f H) (hK : hm_K D cl tys s) {as : List Value} {b ci N : Nat} {fs : List Value} {C : String} {T : u_T} (he : f b = some (.inr (ci, fs))) (hc : cl[ci]? = some (C, T, N)) : PreV s H C b (va_Pc (.ref b :: as) (hm_Bz sA sV D cl tys f H.size)) as := by
  refine ⟨hm_blindZ, (hm_preV (as := as) hM hK he hc).2.1, fun U hU hW => ⟨rfl, ⟨by rw [hU], by rw [hU]; exact hM.weaken (fun _ _ => trivial), hm_K.moved hW.alike hK⟩, hZ.at hS (hM.free hS hA) hU hW⟩⟩
theorem hm_preVT (hZ : hm_Z sA sV A s s.heap) (hS : va_S A s.heap H locs) (hA : ∀ q, s.heap.size ≤ q → A q) (hM : hm_W D cl A f H) (hK : hm_K D cl tys s) {as : List Value} {i : Nat} (hi : i < 12) : PreV s H "java/lang/String" (sA i) (va_Pc (.ref (sA i) :: as) (hm_Bz sA sV D cl tys f H.size)) as := by
  refine ⟨hm_blindZ, vk_recv hZ.1 hi hS, fun U hU hW => ⟨rfl, ⟨by rw [hU], by rw [hU]; exact hM.weaken (fun _ _ => trivial), hm_K.moved hW.alike hK⟩, hZ.at hS (hM.free hS hA) hU hW⟩⟩
theorem hm_enterZ {y : MethodName} {ws ws' : List Cond} {rm : Room} {as : List Value} {Qc : Nat → Array Value → State → Outcome → State → Prop} {maxL : Nat} {ret : Option FieldType} (hy : plainName y.cls = true) (hw : ws = Cond.code y cc maxL ret :: ws') (hlen : (lg_sl as).length ≤ maxL)
    (body : ∀ (p : Program) (e : Env) (s : State) (m : MethodId) (below : List Frame) (meth : Method) (c : Code) (ls : Array Slot), hm_Z sA sV (hm_A f s.heap.size) s s.heap → CallFix p m c cc maxL s as.toArray ws y.cls → meth.sig.returnType = ret → meth.locks = false → meth.name = y.name → hm_K D cl tys s → hm_W D cl (hm_A f s.heap.size) f s.heap → va_S (hm_A f s.heap.size) s.heap s.heap [] → (∀ q, s.heap.size ≤ q → hm_A f s.heap.size q) → lv_has ls maxL (lv_args 0 as) →
      ∀ Q : State → Prop, MQ below (Qc s.heap.size) as.toArray s mc ms (hm_A f s.heap.size) = Q → W p l e rm s m as.toArray below meth c s.heap [] 0 0 Q (F0 m 0 ls [])) : ∀ sz, Met l y ws rm (va_Pc as (hm_Bz sA sV D cl tys f sz)) (Qc sz) mc ms (hm_A f sz) := by
  intro sz
  refine Met.ofW (cc := cc) (maxL := maxL) (ret := ret) hy hw ?_
  intro p e s m args below meth c s₁ B hml hv
  obtain ⟨rfl, ⟨rfl, hM, hK⟩, hZ⟩ := hv
  rw [lg_entry_eq]
  exact body p e s m below meth c _ hZ ⟨B.exec, B.bytes, hml, findClass_of_methodNamed B.named, atoms_spec (ws := ws) B.pre⟩ B.returns B.notSynchronized (name_of_methodNamed B.named B.method).1 hK hM.self va_S.rf (fun q h => Or.inr h) (lv_entry as hlen) _ rfl
end HMZ
section HMT
variable {R : Room} {s : State} {args : Array Value} {own : String} {idx maxL mc ms n : Nat} {y : MethodName} {bytes : ByteArray} {ret : Option FieldType} {rm : Room}
theorem hm_cwT (hts : ∀ w ∈ TB, w.before args s = true) (hm : hm_meS y bytes maxL ret n) (hl : Cond.methodLink own idx y ∈ TB) (hrc : rm.cells = mc) (hrs : rm.slots = ms) (hR : rm.frames + 1 ≤ R.frames ∧ 8 + (maxL + 11) + rm.locals ≤ R.locals) : CallB R s args own idx y bytes maxL ret (Cond.code y bytes maxL ret :: TB) rm mc ms n ∧ (Cond.static y).before args s = true := by
  obtain ⟨⟨h1, h2, h3⟩, h4⟩ := hm
  refine va_cwS n hts (hm_gd fun w hw => ?_) rfl hrc hrs h3 hR
  unfold va_wsS at hw
  rcases List.mem_append.mp hw with h | h
  · simp only [List.mem_cons, List.not_mem_nil, or_false] at h
    rcases h with rfl | rfl | rfl
    · exact hl
    · exact h4
    · exact h2
  · rcases List.mem_cons.mp h with rfl | h
    · exact h1
    · exact h
end HMT
abbrev hm_MvZ (l : Launch) (sA sV : Nat → Nat) (D : va_G) (cl : List vw_C) (tys : List (ClassId × FieldType)) (y : MethodName) (ws : List Cond) (rm : Room) (as : List Value) (f : hm) (post : hm → Prop) (mc ms : Nat) : Prop := ∀ sz : Nat, Met l y ws rm (va_Pc as (hm_Bz sA sV D cl tys f sz)) (va_Qv post (hm_R D cl tys f sz) (hm_A f sz)) mc ms (hm_A f sz)
abbrev hm_MiZ (l : Launch) (sA sV : Nat → Nat) (D : va_G) (cl : List vw_C) (tys : List (ClassId × FieldType)) (y : MethodName) (ws : List Cond) (rm : Room) (as : List Value) (f : hm) (post : Int32 → hm → Prop) (mc ms : Nat) : Prop := ∀ sz : Nat, Met l y ws rm (va_Pc as (hm_Bz sA sV D cl tys f sz)) (va_Qi post (hm_R D cl tys f sz) (hm_A f sz)) mc ms (hm_A f sz)
abbrev hm_MqZ (l : Launch) (sA sV : Nat → Nat) (D : va_G) (cl : List vw_C) (tys : List (ClassId × FieldType)) (y : MethodName) (ws : List Cond) (rm : Room) (as : List Value) (f : hm) (post : Option Nat → hm → Prop) (mc ms : Nat) : Prop := ∀ sz : Nat, Met l y ws rm (va_Pc as (hm_Bz sA sV D cl tys f sz)) (va_Qq post (hm_R D cl tys f sz) (hm_A f sz)) mc ms (hm_A f sz)
abbrev b_JString_charAt : ByteArray := prog_13_method_56_code
def y_JString_charAt : MethodName := ⟨R_JString, "charAt", "(I)C"⟩
abbrev b_JString_isLatin1 : ByteArray := prog_13_method_154_code
def y_JString_isLatin1 : MethodName := ⟨R_JString, "isLatin1", "()Z"⟩
abbrev b_JString_coder : ByteArray := prog_13_method_152_code
def y_JString_coder : MethodName := ⟨R_JString, "coder", "()B"⟩
abbrev b_JString_length : ByteArray := prog_13_method_54_code
def y_JString_length : MethodName := ⟨R_JString, "length", "()I"⟩
abbrev b_JString_checkIndex : ByteArray := prog_13_method_155_code
def y_JString_checkIndex : MethodName := ⟨R_JString, "checkIndex", "(II)V"⟩
abbrev b_JString_indexOf : ByteArray := prog_13_method_79_code
def y_JString_indexOf : MethodName := ⟨R_JString, "indexOf", "(I)I"⟩
abbrev b_JString_indexOf2 : ByteArray := prog_13_method_80_code
def y_JString_indexOf2 : MethodName := ⟨R_JString, "indexOf", "(II)I"⟩
abbrev b_JStringLatin1_charAt : ByteArray := prog_14_method_2_code
def y_JStringLatin1_charAt : MethodName := ⟨R_JStringLatin1, "charAt", "([BI)C"⟩
abbrev b_JStringLatin1_indexOf : ByteArray := prog_14_method_22_code
def y_JStringLatin1_indexOf : MethodName := ⟨R_JStringLatin1, "indexOf", "([BIII)I"⟩
abbrev b_JStringLatin1_canEncode : ByteArray := prog_14_method_4_code
def y_JStringLatin1_canEncode : MethodName := ⟨R_JStringLatin1, "canEncode", "(I)Z"⟩
abbrev b_JStringLatin1_indexOfChar : ByteArray := prog_14_method_23_code
def y_JStringLatin1_indexOfChar : MethodName := ⟨R_JStringLatin1, "indexOfChar", "([BIII)I"⟩
abbrev b_JPre_checkIndex : ByteArray := prog_17_method_11_code
def y_JPre_checkIndex : MethodName := ⟨R_JPre, "checkIndex", "(IILjava/util/function/BiFunction;)I"⟩
