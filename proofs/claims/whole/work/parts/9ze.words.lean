-- throws: what is known where one is thrown
def xEn (e : Nat) : String := ["java/lang/IllegalArgumentException", "java/lang/IllegalStateException", "java/lang/IndexOutOfBoundsException"].getD e ""
abbrev eNm : List String := ["java/lang/RuntimeException", "java/lang/Exception"]
def eIc (e : Nat) : Nat := [106, 125, 150].getD e 0
def eNw (e : Nat) : Nat := [102, 121, 146].getD e 0
/-- the throws: method, pc, what, the message's entry, its word's place -/
def e3l : List (Nat × Nat × Nat × Nat × Nat) := [(2, 28, 0, 104, 495), (2, 72, 1, 123, 546), (3, 67, 0, 144, 864), (3, 122, 2, 148, 874), (4, 8, 2, 160, 904), (7, 16, 2, 160, 904), (8, 8, 2, 160, 904), (8, 114, 0, 189, 1082), (9, 61, 0, 194, 1094)]
def e3s (ix place : Nat) : Bool := match lw_tbl[place]? with
  | some (.stringRef o k _) => decide (o = "TermReader") && decide (k = ix)
  | _ => false
theorem e3s_of {ix place : Nat} (h : e3s ix place = true) : ∃ t, Cond.stringRef "TermReader" ix t ∈ lw_tbl := by
  unfold e3s at h
  split at h
  · rename_i o k t he
    simp only [Bool.and_eq_true, decide_eq_true_eq] at h
    obtain ⟨rfl, rfl⟩ := h
    exact ⟨t, List.mem_of_getElem? he⟩
  · cases h
def e3c (mi pc : Nat) (r : xRow) : Bool := if xkd r = 3 then e3l.any (fun q => decide (mi = q.1) && (decide (pc = q.2.1) && decide (r.2.2.1 = 1000 + q.2.2.1))) else true
set_option maxRecDepth 100000 in
theorem e3_all : ∀ mi, mi < 214 → xsc (e3c mi) 0 (xcs.getD mi []) = true := by decide +kernel
set_option maxRecDepth 100000 in
theorem e3_in : ∀ q ∈ e3l, q.1 < 214 ∧ q.2.2.1 < 3 ∧ (xme q.1).1.cls = "TermReader" ∧ e3s q.2.2.2.1 q.2.2.2.2 = true := by decide +kernel
set_option maxRecDepth 100000 in
theorem e3_de : ∀ q ∈ e3l, decode (xby q.1) q.2.1 = .ok (.new (eNw q.2.2.1), 3) ∧ decode (xby q.1) (q.2.1 + 3) = .ok (.dup, 1) ∧ decode (xby q.1) (q.2.1 + 4) = .ok (.ldc q.2.2.2.1, 2) ∧ decode (xby q.1) (q.2.1 + 6) = .ok (.invokespecial (eIc q.2.2.1), 3) ∧ decode (xby q.1) (q.2.1 + 9) = .ok (.athrow, 1) := by decide +kernel
set_option maxRecDepth 100000 in
theorem e3_ex : ∀ q ∈ e3l, Cond.exactly (.string "TermReader" q.2.2.2.1) "java/lang/String" ∈ xF1 := by decide +kernel
/-- the words that are not of the tables alone -/
def eok2 (w : Cond) : Bool := match w with
  | .declares _ => true
  | .castable _ _ => true
  | .laysStatic _ _ _ => true
  | _ => false
def eok3 (w : Cond) : Bool := match w with
  | .isRef (.static o f d) => decide (Cond.laysStatic o f d ∈ lw_tbl) && decide (Cond.isRef (.static o f d) ∈ xF1)
  | _ => false
def eok (w : Cond) : Bool := (decide (w ∈ lw_tbl) && (goodWord w || eok2 w)) || eok3 w
set_option maxRecDepth 100000 in
theorem e_w : ∀ e, e < 3 → Cond.classLink "TermReader" (eNw e) (xEn e) ∈ xTb ∧ Cond.instantiable (xEn e) 6 ∈ xTb ∧ Cond.initialized (xEn e) ∈ xTb := by decide +kernel
set_option maxRecDepth 100000 in
theorem e_a : ∀ e, e < 3 → ∀ w ∈ Bundle.ownAtoms "TermReader" (eIc e) (xEn e) eNm, eok w = true := by decide +kernel
theorem e_fit : ∀ e, e < 3 → Bundle.fit (xEn e) = true := by decide +kernel
theorem e_fits : ∀ n ∈ eNm, Bundle.fit n = true := by decide +kernel
/-- a static, laid at the start, is laid still -/
theorem e_ls {b : Nat} {U : State} {args : Array Value} {o f d : String} (hex : xex b U) (h : Cond.laysStatic o f d ∈ lw_tbl) : (Cond.laysStatic o f d).before args U = true := by
  obtain ⟨s0, a0, e1, e2, e3, e4, e5⟩ := hex
  obtain ⟨c, k, i, fd, a, cell, hc, hi, hst, ha, hcell, hs, hcls, hlt, hty⟩ := Cond.laysStatic_spec (e4 _ h)
  obtain ⟨k', hi', hek⟩ := State.fieldFound?_setVm e3.alike hi
  have hab : a < b := by rw [← e1]; exact (Array.getElem?_eq_some_iff.mp hcell).1
  exact Cond.laysStatic_of (s := U) (by rw [e3.alike.findClass]; exact hc) hi' hst (by rw [hek]; exact ha) (by rw [e2 a hab]; exact hcell) hs hcls hlt (by rw [hek]; exact hty)
theorem e_rs {b : Nat} {U : State} {args : Array Value} {o f d : String} (hex : xex b U) (h : Cond.laysStatic o f d ∈ lw_tbl) (h2 : Cond.isRef (.static o f d) ∈ xF1) : (Cond.isRef (.static o f d)).before args U = true := by
  obtain ⟨s0, a0, e1, e2, e3, e4, e5⟩ := hex
  have fl : ∀ w ∈ xF1, w.before a0 s0 = true := flat_of_before _ e5
  obtain ⟨v, hv, hvr⟩ := Cond.isRef_spec (fl _ h2)
  obtain ⟨c, k, i, fd, a, cell, hc, hi, hst, ha, hcell, hs, hcls, hlt, hty⟩ := Cond.laysStatic_spec (e4 _ h)
  obtain ⟨-, a', cell', ha', hcell', -, hslot⟩ := Term.static_spec hi hv
  cases ha.symm.trans ha'
  cases hcell.symm.trans hcell'
  obtain ⟨k', hi', hek⟩ := State.fieldFound?_setVm e3.alike hi
  have hab : a < b := by rw [← e1]; exact (Array.getElem?_eq_some_iff.mp hcell).1
  have hi2 : U.fieldFound? o f d = some (c, k', i, fd) := hi'
  have hcU : U.heap[a]? = some cell := by rw [e2 a hab]; exact hcell
  have haU : k'.statics = some a := by rw [hek]; exact ha
  have hev : (Term.static o f d).eval args U none [] U = some v := by
    simp [Term.eval, State.fieldNamed?, hi2, hst, haU, hcU, hs, hslot]
  simp only [Cond.before, Cond.holds, Cond.value, hev]
  cases v <;> first | rfl | (simp [Value.isRef] at hvr)
theorem eok_at {b : Nat} {U : State} {args : Array Value} {w : Cond} (h : eok w = true) (hex : xex b U) (hts : ∀ w ∈ xTb, w.before args U = true) : w.before args U = true := by
  simp only [eok, Bool.or_eq_true, Bool.and_eq_true, decide_eq_true_eq] at h
  rcases h with ⟨hm, hg | h2⟩ | h3
  · exact hts w (List.mem_filter.mpr ⟨hm, hg⟩)
  · unfold eok2 at h2
    split at h2
    · obtain ⟨s0, a0, e1, e2, e3, e4, e5⟩ := hex
      exact va_Nw.use rfl (va_Nw.warmD e3 (va_Nw.of rfl (e4 _ hm)))
    · obtain ⟨s0, a0, e1, e2, e3, e4, e5⟩ := hex
      exact va_Nw.use rfl (va_Nw.warmC e3 (va_Nw.of rfl (e4 _ hm)))
    · exact e_ls hex hm
    · cases h2
  · unfold eok3 at h3
    split at h3
    · simp only [Bool.and_eq_true, decide_eq_true_eq] at h3
      exact e_rs hex h3.1 h3.2
    · cases h3
/-- a launch without traces -/
theorem e_tr {l : Launch} (hf : l.flags = flags0) {e : Env} (ha : l.admits e) : e.platform.stackTraces = false := by
  rw [ha.platform]
  show l.stackTraces = false
  unfold Launch.stackTraces
  rw [hf]
  decide
section ER
variable {p : Program} {l : Launch} {e : Env} {R : Room} {s : State} {m : MethodId} {args : Array Value} {below : List Frame} {meth : Method} {c : Code} {T : State} {locs : List Loc} {cells slots : Nat}
/-- the same walk, as if it began here -/
theorem x_rebase {R' : Room} (X : Stand p l e R s m args below meth c T locs cells slots) (hf : R'.frames ≤ R.frames) (hl : R'.locals ≤ R.locals) (hc : cells + R'.cells ≤ R.cells) (hs : slots + R'.slots ≤ R.slots) :
    Stand p l e R' (T.setFrames (.invoking m args :: below)) m args below meth c T [] 0 0 := by
  obtain ⟨g₀, hr⟩ := X.frames_eq
  obtain ⟨th, hth, -⟩ := State.frames_cons hr
  have hcur : T.cur < T.threads.size := State.cur_lt_of_frames hr
  have hfr : (T.setFrames (.invoking m args :: below)).frames = .invoking m args :: below := State.frames_setFrames _ hcur
  have hm' : T.vm.method? m = some meth := X.method'
  obtain ⟨th', hth', -⟩ := State.frames_cons hfr
  refine ⟨X.admits, X.cas, X.clock, hfr, ?_, ?_, hm', X.code, X.here, X.tail, State.WarmedH.refl (T.setFrames (.invoking m args :: below)), (State.stackLimits_setFrames ..).symm, (State.stackBytes_setFrames ..).symm, ?_⟩
  · have hroom := X.room
    have hu : (T.setFrames (.invoking m args :: below)).localsInUse = s.localsInUse := by
      rw [State.localsInUse_invoking (s := T.setFrames (.invoking m args :: below)) hfr hm' X.code, State.localsInUse_invoking X.frames X.method X.code]
    obtain ⟨q1, q2⟩ := X.heapHas hc hs
    have hb := X.book
    simp only [State.hasRoom, Bool.and_eq_true, decide_eq_true_eq] at hroom ⊢
    rw [hu, hfr, State.stackLimits_setFrames, State.stackBytes_setFrames, X.limits, X.bytes]
    rw [X.frames] at hroom
    obtain ⟨⟨⟨⟨r1, r2, r3, r4, r5, r6⟩, r7⟩, r8⟩, r9⟩ := hroom
    exact ⟨⟨⟨⟨by omega, by omega, by omega, by omega, by omega, r6⟩, q1⟩, q2⟩, hb⟩
  · have hh := X.hears
    have e1 : ∀ x : MethodId, (T.setFrames (.invoking m args :: below)).vm.method? x = s.vm.method? x := fun x => X.warmed.alike.method? x
    unfold State.hears at hh ⊢
    split at hh <;> simp_all [State.code?_eq]
  · have h := (State.sameButNew.refl (T.setFrames (.invoking m args :: below)) hth').setFrames T.frames (State.cur_lt_of_frames hfr)
    rw [State.setFrames_setFrames, State.setFrames_self hth] at h
    exact h
theorem x_keep {U : State} {k n : Nat} (h : T.sameButNew U [] k n) {q : Nat} {cell : Cell} (hq : T.heap[q]? = some cell) : U.heap[q]? = some cell := by
  obtain ⟨c', h1, h2, h3, h4⟩ := h.2.2.2.2.2 q cell hq
  have h5 : c'.slots = cell.slots := Array.ext_getElem? fun i => h4 i (by simp)
  rw [h1, h2, h5]
theorem x_keep' {U : State} {k n : Nat} (h : T.sameButNew U [] k n) {q : Nat} (hq : q < T.heap.size) : U.heap[q]? = T.heap[q]? := by
  rw [x_keep h (Array.getElem?_eq_getElem hq), Array.getElem?_eq_getElem hq]
end ER
