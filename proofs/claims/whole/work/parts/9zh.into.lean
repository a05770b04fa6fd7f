-- into a callee's frame and out of it
section IN
variable {p : Program} {l : Launch} {e : Env} {R : Room} {s : State} {m : MethodId} {args : Array Value} {below : List Frame} {meth : Method} {c : Code} {T : State} {locs : List Loc} {cells slots : Nat}
set_option maxHeartbeats 1000000 in
theorem x_into {D : va_G} {K : xTy} {b scr : Nat} {sc : xSc} {C0 S0 mi ci d mc ms : Nat} {h : xH} {H : Heap} {g : JFrame} {ig : Instr} {len : Nat} (a : Array Value) (X : Stand p l e R s m args below meth c T locs cells slots) (hT : T.heap = H) (cx : xcx D K b scr sc mi p s m args meth c) (hw : xwd D K b scr s C0 S0 h.1 h.2 H locs cells slots)
    (hg : g.method = m) (hsize : g.locals.size = c.maxLocals) (hdg : decode c.code g.pc = .ok (ig, len)) {mk : MethodId} {methk : Method} {ck : Code} (hn : s.methodNamed? (xme ci).1 = some mk) (hmk : s.vm.method? mk = some methk) (hck : methk.code = some ck) (hbk : ck.code = xby ci) (hmlk : ck.maxLocals = (xme ci).2.2.1) (hrk : methk.sig.returnType = (xme ci).2.2.2.1) (hlkk : methk.locks = false) (hci : ci < 221)
    (hW : 2 * g.monitorRoom + (g.stack.map fun v => v.category).sum ≤ 8) (hfr : d + 1 ≤ R.frames) (hlo : 64 * (d + 1) ≤ R.locals) (hmc : cells + mc ≤ R.cells) (hms : slots + ms ≤ R.slots) :
    ∃ Y : State, Stand p l e (xRm d mc ms) (T.calling g mk a) mk a (.java g :: below) methk ck Y [] 0 0 ∧ Y.heap = H ∧ (∀ acts, (doInvoke e (T.setTop g) acts mk a).1 = Y.setTop (entryFrame mk a (xme ci).2.2.1)) ∧ xcx D K b scr sc ci p (T.calling g mk a) mk a methk ck ∧ (T.calling g mk a).methodNamed? (xme ci).1 = some mk ∧ xwd D K b scr (T.calling g mk a) (xcn h) (xsn h) h.1 h.2 H [] 0 0 := by
  obtain ⟨hx, hb, hml, hown, hts, hK, hX, hsb, hbs, hname, hrt, hlk, hex⟩ := id cx
  obtain ⟨w1, w2, w3, w4, w5, hP, hS⟩ := id hw
  obtain ⟨f1, f2, f3, f4, f5⟩ := xmi_facts hci
  have hnT : T.methodNamed? (xme ci).1 = some mk := X.named hn
  have hmT : T.vm.method? mk = some methk := by
    rw [X.warmed.alike.method?]
    exact hmk
  have hpk : T.plainMethod mk := by
    refine State.plainMethod.of_name ?_
    intro k hk
    obtain ⟨k', hk', hnn⟩ := className_of_methodNamed hnT
    cases hk.symm.trans hk'
    rw [hnn]
    exact f4
  obtain ⟨Y0, hdo⟩ := X.into hg hsize hdg a (R' := xRm d mc ms) hmT hck hlkk hpk hfr (by
    rw [hmlk]
    show 2 * g.monitorRoom + (g.stack.map fun v => v.category).sum + ((xme ci).2.2.1 + 11) + 64 * d ≤ R.locals
    omega) hmc hms
  have hWU : s.WarmedH (T.calling g mk a).vm := X.warmed
  have hUh : (T.calling g mk a).heap = H := hT
  have hsc : H[scr]? = s.heap[scr]? := hS.2.1 scr (by omega) (by show ¬ b ≤ scr; omega)
  refine ⟨_, Y0, hT, fun acts => by rw [hdo acts, hmlk], ⟨hx, hbk, hmlk, findClass_of_methodNamed hnT, fun w hw => word_at hWU (xTb_good hw) (hts w hw), va_K.moved hWU.alike hK, by rw [hUh]; exact (hX.kept hsc).moved hWU.alike, hsb, by rw [hUh]; omega, (name_of_methodNamed hn hmk).1, hrk, hlkk, xex_move hex hUh (fun q hq => hS.2.1 q (by omega) (by show ¬ b ≤ q; omega)) hWU⟩, hnT, ⟨by rw [hUh]; exact w4, Nat.zero_add _, Nat.zero_add _, w4, w5, hP, by rw [hUh]; exact va_S.rf⟩⟩
/-- behind a callee: what the caller's world is then -/
theorem xwd_back {D : va_G} {K : xTy} {b scr C0 S0 : Nat} {h h1 : xH} {H H1 : Heap} {L : List Loc} (hw : xwd D K b scr s C0 S0 h.1 h.2 H locs cells slots) (m1 : xcn h ≤ xcn h1) (m2 : xsn h ≤ xsn h1) (q2 : H1.size = b + xcn h1) (q3 : h1.1.length ≤ 1000) (q4 : va_P D xCl (xw K b scr h1.1) H1) (q5 : ∀ q, q < b → H1[q]? = H[q]?) (hL : ∀ q ∈ L, b ≤ q.base) :
    xwd D K b scr s C0 S0 h1.1 h1.2 H1 (locs ++ L) (cells + (xcn h1 - xcn h)) (slots + (xsn h1 - xsn h)) := by
  obtain ⟨w1, w2, w3, w4, w5, hP, hS⟩ := id hw
  have w3' : slots + S0 = xsn h := w3
  have w2' : cells + C0 = xcn h := w2
  have w4' : H.size = b + xcn h := w4
  refine ⟨w1, by show _ = xcn h1; omega, by show _ = xsn h1; omega, q2, q3, q4, by rw [w1, q2]; omega, fun z hz hn => ?_, fun z hz => ?_⟩
  · have hz2 : z < b := by
      have : ¬ b ≤ z := hn
      omega
    rw [q5 z hz2]
    exact hS.2.1 z hz hn
  · rcases List.mem_append.mp hz with hz | hz
    · exact hS.2.2 z hz
    · exact hL z hz
end IN
/-- the calls of the law's helpers: all of instances, none of a nest mate's -/
def hCk (r : xRow) : Bool := if xkd r = 2 then (match r.1 with
  | .invokevirtual _ => decide (r.2.2.1 < 214) && decide (r.2.2.2.2.2.2.1 = 0)
  | _ => false) else !(xkd r == 4)
/-- the calls of the law: a helper by invokestatic -/
def lCk (r : xRow) : Bool := if xkd r = 2 then (if r.2.2.1 < 214 then true else (match r.1 with
  | .invokestatic _ => true
  | _ => false)) else !(xkd r == 4)
set_option maxRecDepth 100000 in
theorem lCk_all : xsc (fun _ r => lCk r) 0 (xcs.getD 220 []) = true := by decide +kernel
theorem lCk_of {pc : Nat} {r : xRow} (hrow : xrow 220 pc = some r) : lCk r = true := xsc_at lCk_all (show (xcs.getD 220 []).getD pc none = some r from hrow)
set_option maxRecDepth 100000 in
theorem hCk_all : ∀ mi, mi < 6 → xsc (fun _ r => hCk r) 0 (xcs.getD (214 + mi) []) = true := by decide +kernel
theorem hCk_of {mi pc : Nat} {r : xRow} (h1 : 214 ≤ mi) (h2 : mi < 220) (hrow : xrow mi pc = some r) : hCk r = true := by
  have h9 := hCk_all (mi - 214) (by omega)
  rw [show 214 + (mi - 214) = mi by omega] at h9
  exact xsc_at h9 (show (xcs.getD mi []).getD pc none = some r from hrow)
theorem xhnd_of {mi pc ev : Nat} {t : Nat × Nat} (h : xhnd mi pc ev = some t) : ∃ q ∈ xhd, q.1 = mi ∧ q.2.1 ≤ pc ∧ pc < q.2.2.1 ∧ q.2.2.2.1 = ev ∧ q.2.2.2.2 = t := by
  unfold xhnd at h
  rw [Option.map_eq_some_iff] at h
  obtain ⟨q, h1, h2⟩ := h
  have h3 := List.find?_some h1
  simp only [Bool.and_eq_true, beq_iff_eq] at h3
  exact ⟨q, List.mem_of_find?_eq_some h1, h3.1, Nat.le_of_ble_eq_true h3.2.1, Nat.le_of_ble_eq_true h3.2.2.1, h3.2.2.2, h2⟩
