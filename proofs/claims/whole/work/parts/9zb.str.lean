-- Strings: length and charAt of a String of Latin-1 bytes, and what they rest on
def yQc (r : Option Value) : Array Value → State → Outcome → State → Prop := fun _ st oc t => oc = .returned r ∧ t.heap = st.heap
/-- a String of n bytes g at str, its bytes at val; fm: the formatter -/
def yY (b str val n : Nat) (g : Nat → Int32) (fm : Value) (U : State) (H : Heap) : Prop :=
  va_O "java/lang/String" str (fun q => b ≤ q) U H ∧ va_OF "java/lang/String" "coder" "B" (.int 0) str (fun q => b ≤ q) U H ∧ va_OF "java/lang/String" "value" "[B" (.ref val) str (fun q => b ≤ q) U H ∧ va_T .byte val n (fun j => .int (g j)) (fun q => b ≤ q) U H ∧ va_Z "java/lang/String" "COMPACT_STRINGS" "Z" (.int 1) (fun q => b ≤ q) U H ∧ va_Z "jdk/internal/util/Preconditions" "SIOOBE_FORMATTER" "Ljava/util/function/BiFunction;" fm (fun q => b ≤ q) U H
theorem yY.moved {b str val n : Nat} {g : Nat → Int32} {fm : Value} {u U : State} {H : Heap} (hvm : u.vm.Alike U.vm) (h : yY b str val n g fm u H) : yY b str val n g fm U H :=
  ⟨va_O.moved hvm h.1, va_OF.moved hvm h.2.1, va_OF.moved hvm h.2.2.1, va_T.moved hvm h.2.2.2.1, va_Z.moved hvm h.2.2.2.2.1, va_Z.moved hvm h.2.2.2.2.2⟩
theorem yY.kept {b str val n : Nat} {g : Nat → Int32} {fm : Value} {U : State} {H H1 : Heap} (h : yY b str val n g fm U H) (hq : ∀ a : Nat, a < H.size → ¬ b ≤ a → H1[a]? = H[a]?) : yY b str val n g fm U H1 :=
  ⟨h.1.kept hq, h.2.1.kept hq, h.2.2.1.kept hq, h.2.2.2.1.kept hq, h.2.2.2.2.1.kept hq, h.2.2.2.2.2.kept hq⟩
def yPc (b str val n : Nat) (g : Nat → Int32) (fm : Value) (As : List Value) : Array Value → State → Prop := fun v U => v = As.toArray ∧ yY b str val n g fm U U.heap
theorem yPc_blind {b str val n : Nat} {g : Nat → Int32} {fm : Value} {As : List Value} : FrameBlind (yPc b str val n g fm As) := by
  intro a U fr mk q
  exact ⟨q.1, yY.moved (u := U) (U := U.calling fr mk a) (Vm.Alike.refl U.vm) q.2⟩
theorem y_good {w : Cond} (h : w ∈ xTb) : GoodIn xTb (w :: xTb) := by
  intro v hv
  rcases List.mem_cons.mp hv with rfl | hv
  · exact ⟨h, xTb_good h⟩
  · exact ⟨hv, xTb_good hv⟩
section YC
variable {p : Program} {l : Launch} {e : Env} {R : Room} {s : State} {m : MethodId} {args : Array Value} {below : List Frame} {meth : Method} {c : Code} {Q : State → Prop} {H : Heap} {locs : List Loc} {cells slots pc : Nat} {la : Array Slot} {st0 rest : List Value}
theorem y_call {r : Option Value} {a : Array Value} (hr : va_Run p l e R s m args below meth c H locs cells slots 0 0 (F0 m pc la st0) rest (yQc r a) (fun _ => False)) (k : W p l e R s m args below meth c H locs cells slots Q (F0 m (pc + 3) la (r.toList ++ rest))) : W p l e R s m args below meth c H locs cells slots Q (F0 m pc la st0) := by
  refine x_call hr (fun v' st₀ t L h0 hL hQ => ?_)
  obtain ⟨q1, q2⟩ := hQ
  have hv : v' = r := Outcome.returned.inj q1
  have hL0 : L = [] := List.eq_nil_iff_forall_not_mem.mpr fun q hq => hL q hq
  subst hL0 hv
  rw [q2, h0, List.append_nil]
  exact k
variable {b str val n : Nat} {g : Nat → Int32} {fm : Value} {y : MethodName} {bytes cc : ByteArray} {maxL nL d index : Nat} {ret : Option FieldType} {own : String} {As : List Value} {r : Option Value}
theorem y_cS (F : CallFix p m c cc nL s args xTb own) (hM : Met l y (Cond.code y bytes maxL ret :: xTb) (xRm d 0 0) (yPc b str val n g fm As) (yQc r) 0 0 (fun _ => False)) (h1 : Cond.code y bytes maxL ret ∈ xTb) (h2 : Cond.static y ∈ xTb) (h3 : Cond.initialized y.cls ∈ xTb) (h4 : Cond.methodLink own index y ∈ xTb)
    (hd : y.cls ≠ "java/lang/invoke/MethodHandle" ∧ y.cls ≠ "java/lang/invoke/VarHandle" ∧ (parseMethodDescriptor y.desc).map (fun d => d.parameters.length) = some As.length) (hR : d + 1 ≤ R.frames ∧ 8 + (maxL + 11) + 64 * d ≤ R.locals) (hY : yY b str val n g fm s H) (hsz : la.size = nL) (hst : st0 = As.reverse ++ rest) (hW : (rest.map fun v => v.category).sum ≤ 8) (hdg : decode cc pc = .ok (.invokestatic index, 3)) (hf : cells ≤ R.cells ∧ slots ≤ R.slots)
    (k : W p l e R s m args below meth c H locs cells slots Q (F0 m (pc + 3) la (r.toList ++ rest))) : W p l e R s m args below meth c H locs cells slots Q (F0 m pc la st0) := by
  obtain ⟨hx, hb, hml, hown, hts⟩ := id F
  exact y_call (va_runS F hM ⟨callB_of (ws' := xTb) As.length hts (y_good h1) rfl rfl rfl (hts _ h3) (hts _ h4) hd hR, hts _ h2⟩ ⟨yPc_blind, fun U hU hW => ⟨rfl, by rw [hU]; exact hY.moved hW.alike⟩⟩ rfl rfl hsz hst (lv_room hW) hdg hf) k
theorem y_cV (F : CallFix p m c cc nL s args xTb own) (hM : Met l y (Cond.code y bytes maxL ret :: xTb) (xRm d 0 0) (yPc b str val n g fm (.ref str :: As)) (yQc r) 0 0 (fun _ => False)) (h1 : Cond.code y bytes maxL ret ∈ xTb) (h2 : Cond.instanceMethod y ∈ xTb) (h5 : Cond.selects "java/lang/String" y y ∈ xTb) (h3 : Cond.initialized y.cls ∈ xTb) (h4 : Cond.methodLink own index y ∈ xTb)
    (hd : y.cls ≠ "java/lang/invoke/MethodHandle" ∧ y.cls ≠ "java/lang/invoke/VarHandle" ∧ (parseMethodDescriptor y.desc).map (fun d => d.parameters.length) = some As.length) (hR : d + 1 ≤ R.frames ∧ 8 + (maxL + 11) + 64 * d ≤ R.locals) (hY : yY b str val n g fm s H) (hsz : la.size = nL) (hst : st0 = As.reverse ++ .ref str :: rest) (hW : (rest.map fun v => v.category).sum ≤ 8) (hdg : decode cc pc = .ok (.invokevirtual index, 3)) (hf : cells ≤ R.cells ∧ slots ≤ R.slots)
    (k : W p l e R s m args below meth c H locs cells slots Q (F0 m (pc + 3) la (r.toList ++ rest))) : W p l e R s m args below meth c H locs cells slots Q (F0 m pc la st0) := by
  obtain ⟨hx, hb, hml, hown, hts⟩ := id F
  obtain ⟨cell, o1, o2, o3, -⟩ := id hY.1
  exact y_call (va_runV F hM ⟨callB_of (ws' := xTb) As.length hts (y_good h1) rfl rfl rfl (hts _ h3) (hts _ h4) hd hR, hts _ h2, hts _ h5⟩ ⟨yPc_blind, ⟨cell, o1, o2, o3⟩, fun U hU hW => ⟨rfl, by rw [hU]; exact hY.moved hW.alike⟩⟩ rfl rfl hsz hst (lv_room hW) hdg hf) k
end YC
section YM
variable {l : Launch} {b str val n : Nat} {g : Nat → Int32} {fm : Value} {y : MethodName} {bytes : ByteArray} {maxL d : Nat} {ret : Option FieldType} {As : List Value} {r : Option Value}
theorem y_met (hpl : plainName y.cls = true) (hsl : (lg_sl As).length ≤ maxL)
    (body : ∀ (p : Program) (e : Env) (s : State) (m : MethodId) (args : Array Value) (below : List Frame) (meth : Method) (c : Code) (la : Array Slot), CallFix p m c bytes maxL s args xTb y.cls → meth.sig.returnType = ret → meth.locks = false → yY b str val n g fm s s.heap → lv_has la maxL (lv_args 0 As) → W p l e (xRm d 0 0) s m args below meth c s.heap [] 0 0 (MQ below (yQc r) args s 0 0 (fun _ => False)) (F0 m 0 la [])) :
    Met l y (Cond.code y bytes maxL ret :: xTb) (xRm d 0 0) (yPc b str val n g fm As) (yQc r) 0 0 (fun _ => False) := by
  refine Met.ofW (cc := bytes) (maxL := maxL) (ret := ret) hpl rfl ?_
  intro p e s m args below meth c s₁ B hml hv
  obtain ⟨hv1, hv2⟩ := hv
  have hts := atoms_spec (ws := Cond.code y bytes maxL ret :: xTb) B.pre
  subst hv1
  have hl := lv_entry As (n := maxL) hsl
  rw [lg_entry_eq]
  exact body p e s m _ below meth c _ ⟨B.exec, B.bytes, hml, findClass_of_methodNamed B.named, fun w hw => hts w (List.mem_cons_of_mem _ hw)⟩ B.returns B.notSynchronized hv2 hl
end YM
def yPre : MethodName := ⟨"jdk/internal/util/Preconditions", "checkIndex", "(IILjava/util/function/BiFunction;)I"⟩
def yChk : MethodName := ⟨"java/lang/String", "checkIndex", "(II)V"⟩
def yLat : MethodName := ⟨"java/lang/StringLatin1", "charAt", "([BI)C"⟩
def yIsL : MethodName := ⟨"java/lang/String", "isLatin1", "()Z"⟩
def yCod : MethodName := ⟨"java/lang/String", "coder", "()B"⟩
def yLen : MethodName := ⟨"java/lang/String", "length", "()I"⟩
def yChr : MethodName := ⟨"java/lang/String", "charAt", "(I)C"⟩
def yOfT : MethodName := ⟨"TermReader$Packed", "ofText", "(Ljava/lang/String;)J"⟩
theorem yi_1 : Cond.initialized "java/lang/String" ∈ xTb := xhas_in (i := 112) (by decide +kernel)
theorem yi_2 : Cond.initialized "java/lang/StringLatin1" ∈ xTb := xhas_in (i := 113) (by decide +kernel)
theorem yi_3 : Cond.initialized "jdk/internal/util/Preconditions" ∈ xTb := xhas_in (i := 114) (by decide +kernel)
theorem yw_of : Cond.static yOfT ∈ xTb ∧ Cond.code yOfT prog_5_method_5_code 4 (some .long) ∈ xTb := ⟨xhas_in (i := 171) (by decide +kernel), xhas_in (i := 172) (by decide +kernel)⟩
theorem yw_len : Cond.methodLink "TermReader$Packed" 21 yLen ∈ xTb ∧ Cond.instanceMethod yLen ∈ xTb ∧ Cond.selects "java/lang/String" yLen yLen ∈ xTb ∧ Cond.code yLen prog_18_method_54_code 1 (some .int) ∈ xTb := ⟨xhas_in (i := 173) (by decide +kernel), xhas_in (i := 174) (by decide +kernel), xhas_in (i := 175) (by decide +kernel), xhas_in (i := 176) (by decide +kernel)⟩
theorem yw_cod : Cond.methodLink "java/lang/String" 335 yCod ∈ xTb ∧ Cond.instanceMethod yCod ∈ xTb ∧ Cond.selects "java/lang/String" yCod yCod ∈ xTb ∧ Cond.code yCod prog_18_method_152_code 1 (some .byte) ∈ xTb := ⟨xhas_in (i := 177) (by decide +kernel), xhas_in (i := 178) (by decide +kernel), xhas_in (i := 179) (by decide +kernel), xhas_in (i := 180) (by decide +kernel)⟩
theorem yw_cs : Cond.fieldLink "java/lang/String" 38 "java/lang/String" "COMPACT_STRINGS" "Z" ∈ xTb := xhas_in (i := 181) (by decide +kernel)
theorem yw_chr : Cond.methodLink "TermReader$Packed" 27 yChr ∈ xTb ∧ Cond.instanceMethod yChr ∈ xTb ∧ Cond.selects "java/lang/String" yChr yChr ∈ xTb ∧ Cond.code yChr prog_18_method_56_code 2 (some .char) ∈ xTb := ⟨xhas_in (i := 183) (by decide +kernel), xhas_in (i := 184) (by decide +kernel), xhas_in (i := 185) (by decide +kernel), xhas_in (i := 186) (by decide +kernel)⟩
theorem yw_isl : Cond.methodLink "java/lang/String" 492 yIsL ∈ xTb ∧ Cond.instanceMethod yIsL ∈ xTb ∧ Cond.selects "java/lang/String" yIsL yIsL ∈ xTb ∧ Cond.code yIsL prog_18_method_154_code 1 (some .boolean) ∈ xTb := ⟨xhas_in (i := 187) (by decide +kernel), xhas_in (i := 188) (by decide +kernel), xhas_in (i := 189) (by decide +kernel), xhas_in (i := 190) (by decide +kernel)⟩
theorem yw_lat : Cond.methodLink "java/lang/String" 495 yLat ∈ xTb ∧ Cond.static yLat ∈ xTb ∧ Cond.code yLat prog_19_method_2_code 2 (some .char) ∈ xTb := ⟨xhas_in (i := 191) (by decide +kernel), xhas_in (i := 192) (by decide +kernel), xhas_in (i := 193) (by decide +kernel)⟩
theorem yw_chk : Cond.methodLink "java/lang/StringLatin1" 9 yChk ∈ xTb ∧ Cond.static yChk ∈ xTb ∧ Cond.code yChk prog_18_method_155_code 2 none ∈ xTb := ⟨xhas_in (i := 194) (by decide +kernel), xhas_in (i := 195) (by decide +kernel), xhas_in (i := 196) (by decide +kernel)⟩
theorem yw_fm : Cond.fieldLink "java/lang/String" 1053 "jdk/internal/util/Preconditions" "SIOOBE_FORMATTER" "Ljava/util/function/BiFunction;" ∈ xTb := xhas_in (i := 197) (by decide +kernel)
theorem yw_pre : Cond.methodLink "java/lang/String" 1059 yPre ∈ xTb ∧ Cond.static yPre ∈ xTb ∧ Cond.code yPre prog_22_method_11_code 3 (some .int) ∈ xTb := ⟨xhas_in (i := 199) (by decide +kernel), xhas_in (i := 200) (by decide +kernel), xhas_in (i := 201) (by decide +kernel)⟩
theorem yw_val : Cond.fieldLink "java/lang/String" 9 "java/lang/String" "value" "[B" ∈ xTb := xhas_in (i := 1514) (by decide +kernel)
theorem yw_cdr : Cond.fieldLink "java/lang/String" 15 "java/lang/String" "coder" "B" ∈ xTb := xhas_in (i := 1515) (by decide +kernel)
