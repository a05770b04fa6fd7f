-- a thrown object is caught: the search may resolve the types that it asks about
def xFinds (e : Env) (s s' : State) (f : JFrame) (a : Addr) (h : Handler) : Prop :=
  ∀ (Q : Handler → Pre) (E : CtlPost) (d : Bool) (acts : List Action), wp (findHandler f a) Q E e d acts s ↔ Q h d acts s'
section EC
variable {e : Env} {s : State} {f : JFrame} {a : Addr}
theorem xgo_type {E : CtlPost} {d : Bool} {acts : List Action} {Q : Handler → Pre} {x : ExceptionTableEntry} {t : List ExceptionTableEntry} {cc : ClassId} {cell : Cell} {vm' : Vm} (hx : covers x f.pc = true) (h0 : x.catchType ≠ 0) (hg : (Jvm.resolveClass f.method.cls x.catchType).Gives e.toSetting s.vm (.ok cc) vm') (hsz : vm'.classes.size ≤ s.vm.classes.size) (hcell : s.heap[a]? = some cell) (hobj : ∀ k, cell.vm ≠ .statics k) (hk : ∃ k, vm'.classes[cell.cls]? = some k) (hc : ∃ k, vm'.classes[cc]? = some k) :
    wp (findHandler.go f a (x :: t)) Q E e d acts s ↔ if vm'.assignable cell.cls cc = true then Q (.found x.handlerPc) d acts (s.setVm vm') else wp (findHandler.go f a t) Q E e d acts (s.setVm vm') := by
  simp only [covers] at hx
  obtain ⟨ha, ht⟩ := hg.op (op := VmOp.resolveClass f.method.cls x.catchType) rfl
  have hcell' : (s.setVm vm').heap[a]? = some cell := hcell
  cases hfit : vm'.assignable cell.cls cc <;>
    simp [findHandler.go, hx, h0, ha, ht, hsz, hcell, hobj, hk, hc, hfit, VmOp.dirties, VmOp.acts]
theorem xstep_catch {s' : State} {r : List Frame} {pc : Nat} (hfind : xFinds e s s' f a (.found pc)) : (stepThrowing e s a (.java f :: r)).Is (s'.setFrames (.java { f with pc := pc, stack := [.ref a] } :: r)) [] := by
  simp only [stepThrowing, searchFrame, vmDo]
  generalize hr : Sem.go _ e false [] s = res
  obtain ⟨as, rfl, ha⟩ := Sem.eq_ok_of hr (a := Handler.found pc) (s' := s') (acts' := []) (by simp [hfind _ _ _ _])
  exact ⟨rfl, ha⟩
theorem xcaught {tb : Tables} {target : State} {g : JFrame} {c : Code} {below : List Frame} {vm' : Vm} (h : At s g.method c below) {pc : Nat} (hfind : xFinds e ((s.setTop g).pushFrame (.throwing a)) (((s.setTop g).pushFrame (.throwing a)).setVm vm') g a (.found pc))
    (hrest : Steps tb e below ((s.setVm vm').setTop { g with pc := pc, stack := [.ref a] }) target) : Steps tb e below ((s.setTop g).pushFrame (.throwing a)) target := by
  obtain ⟨hgo, hw⟩ := h.throwing a
  refine Steps.head hgo hw ?_
  rw [stepThread_throwing (frames_entered h.top _), (xstep_catch hfind).1]
  obtain ⟨g₀, hg⟩ := Option.isSome_iff_exists.mp h.top
  obtain ⟨r, hr⟩ := State.topJava?_eq_some.mp hg
  have hr' : (s.setVm vm').frames = .java g₀ :: r := hr
  rw [State.setTop_of_frames _ hr'] at hrest
  have e1 : ∀ fs : List Frame, (((s.setTop g).pushFrame (.throwing a)).setVm vm').setFrames fs = (s.setVm vm').setFrames fs := fun fs => by
    show (((s.setTop g).pushFrame (.throwing a)).setFrames fs).setVm vm' = (s.setFrames fs).setVm vm'
    rw [State.pushFrame, State.setTop_of_frames _ hr, State.setFrames_setFrames, State.setFrames_setFrames]
  rw [e1, hr]
  exact hrest
theorem xfinds1 {meth : Method} {code : Code} (hm : s.vm.method? f.method = some meth) (hc : meth.code = some code) {x : ExceptionTableEntry} {rest : List ExceptionTableEntry} (htab : code.exceptionTable.toList = x :: rest) {cc : ClassId} {cell : Cell} {vm' : Vm} (hx : covers x f.pc = true) (h0 : x.catchType ≠ 0) (hg : (Jvm.resolveClass f.method.cls x.catchType).Gives e.toSetting s.vm (.ok cc) vm') (hsz : vm'.classes.size ≤ s.vm.classes.size) (hcell : s.heap[a]? = some cell) (hobj : ∀ k, cell.vm ≠ .statics k) (hk : ∃ k, vm'.classes[cell.cls]? = some k) (hcl : ∃ k, vm'.classes[cc]? = some k) (hfit : vm'.assignable cell.cls cc = true) : xFinds e s (s.setVm vm') f a (.found x.handlerPc) := by
  intro Q E d acts
  rw [W.findHandler_eq hm hc, htab, xgo_type hx h0 hg hsz hcell hobj hk hcl, if_pos hfit]
theorem xfinds2 {meth : Method} {code : Code} (hm : s.vm.method? f.method = some meth) (hc : meth.code = some code) {x y : ExceptionTableEntry} {rest : List ExceptionTableEntry} (htab : code.exceptionTable.toList = x :: y :: rest) {c1 c2 : ClassId} {cell : Cell} {vm1 vm2 : Vm}
    (hx : covers x f.pc = true) (h0 : x.catchType ≠ 0) (hg : (Jvm.resolveClass f.method.cls x.catchType).Gives e.toSetting s.vm (.ok c1) vm1) (hsz : vm1.classes.size ≤ s.vm.classes.size) (hcell : s.heap[a]? = some cell) (hobj : ∀ k, cell.vm ≠ .statics k) (hk : ∃ k, vm1.classes[cell.cls]? = some k) (hcl : ∃ k, vm1.classes[c1]? = some k) (hno : vm1.assignable cell.cls c1 = false)
    (hy : covers y f.pc = true) (h02 : y.catchType ≠ 0) (hg2 : (Jvm.resolveClass f.method.cls y.catchType).Gives e.toSetting vm1 (.ok c2) vm2) (hsz2 : vm2.classes.size ≤ vm1.classes.size) (hk2 : ∃ k, vm2.classes[cell.cls]? = some k) (hcl2 : ∃ k, vm2.classes[c2]? = some k) (hfit : vm2.assignable cell.cls c2 = true) : xFinds e s (s.setVm vm2) f a (.found y.handlerPc) := by
  intro Q E d acts
  rw [W.findHandler_eq hm hc, htab, xgo_type hx h0 hg hsz hcell hobj hk hcl, if_neg (by rw [hno]; decide), xgo_type (s := s.setVm vm1) hy h02 hg2 hsz2 hcell hobj hk2 hcl2, if_pos hfit]
  exact Iff.rfl
end EC
/-- the handlers of the law's helpers, as the tables have them -/
def xhl (mi : Nat) : List (Nat × Nat × Nat × Nat) := [[(0, 7, 10, 13), (0, 7, 14, 15)], [(0, 8, 11, 13), (0, 8, 14, 21)], [(0, 9, 12, 21)], [(0, 17, 20, 21)], [(0, 10, 13, 21), (0, 10, 17, 13)], [(0, 9, 12, 13)]].getD (mi - 214) []
/-- the entry of a type in the law's file -/
def eCt (e : Nat) : Nat := [13, 15, 21].getD e 0
/-- a row of xhd: at what place of the table it stands, which type is asked before, where the handler begins -/
def e5l : List ((Nat × Nat × Nat × Nat × Nat × Nat) × Nat × Nat × Nat) := [((214, 0, 7, 0, 12, 5), 0, 0, 10), ((214, 0, 7, 1, 16, 5), 1, 0, 14), ((215, 0, 8, 0, 12, 2), 0, 0, 11), ((215, 0, 8, 2, 15, 2), 1, 0, 14), ((216, 0, 9, 2, 13, 3), 0, 0, 12), ((217, 0, 17, 2, 22, 4), 0, 0, 20), ((218, 0, 10, 2, 15, 4), 0, 0, 13), ((218, 0, 10, 0, 19, 4), 1, 2, 17), ((219, 0, 9, 0, 13, 3), 0, 0, 12)]
theorem e5_all : ∀ q ∈ xhd, ∃ z ∈ e5l, z.1 = q := by decide
/-- the rows of the table, taken apart -/
def e5t (z : (Nat × Nat × Nat × Nat × Nat × Nat) × Nat × Nat × Nat) : Bool := match z.2.1 with
  | 0 => decide ((xhl z.1.1)[0]? = some (z.1.2.1, z.1.2.2.1, z.2.2.2, eCt z.1.2.2.2.1))
  | _ => decide ((xhl z.1.1)[0]? = some (z.1.2.1, z.1.2.2.1, ((xhl z.1.1).getD 0 (0, 0, 0, 0)).2.2.1, eCt z.2.2.1)) && (decide ((xhl z.1.1)[1]? = some (z.1.2.1, z.1.2.2.1, z.2.2.2, eCt z.1.2.2.2.1)) && (decide (z.2.2.1 < 3) && !(z.2.2.1 == z.1.2.2.2.1)))
theorem e5_t : ∀ z ∈ e5l, e5t z = true ∧ z.1.2.2.2.1 < 3 ∧ 214 ≤ z.1.1 ∧ z.1.1 < 220 ∧ z.1.2.2.2.2.2 < (xme z.1.1).2.2.1 := by decide +kernel
set_option maxRecDepth 100000 in
theorem e5_d : ∀ z ∈ e5l, (decode (xby z.1.1) z.2.2.2 = .ok (.astore z.1.2.2.2.2.2, 2) ∧ z.1.2.2.2.2.1 = z.2.2.2 + 2) ∨ (∃ h : z.1.2.2.2.2.2 < 4, decode (xby z.1.1) z.2.2.2 = .ok (.astore_n ⟨z.1.2.2.2.2.2, h⟩, 1) ∧ z.1.2.2.2.2.1 = z.2.2.2 + 1) := by decide +kernel
set_option maxRecDepth 100000 in
theorem e5_w : ∀ e, e < 3 → Cond.classLink "TermReaderLaw" (eCt e) (xEn e) ∈ xTb ∧ eCt e ≠ 0 := by decide +kernel
set_option maxRecDepth 100000 in
theorem e5_n : ∀ e, e < 3 → ∀ e', e' < 3 → e ≠ e' → Cond.not (Cond.castable (xEn e) (xEn e')) ∈ xF1 := by decide +kernel
section EF
variable {p : Program} {l : Launch} {e : Env} {R : Room} {s : State} {m : MethodId} {args : Array Value} {below : List Frame} {meth : Method} {c : Code} {T : State} {locs : List Loc} {cells slots : Nat}
/-- one type of the table, asked about -/
theorem x_asked {vm0 : Vm} {ev : Nat} (hpl : e.platform.magicAccessors = ({} : Platform).magicAccessors) (hown : s.vm.findClass "TermReaderLaw" = some m.cls) (hts : ∀ w ∈ xTb, w.before args s = true) (hW : s.WarmedH vm0) (hev : ev < 3) :
    ∃ cc vm', s.vm.findClass (xEn ev) = some cc ∧ (Jvm.resolveClass m.cls (eCt ev)).Gives e.toSetting vm0 (.ok cc) vm' ∧ vm'.classes.size ≤ vm0.classes.size ∧ s.WarmedH vm' ∧ ∃ k, vm'.classes[cc]? = some k := by
  obtain ⟨cc, hcc, hcl⟩ := Cond.classLink_spec hown (hts _ (e5_w ev hev).1) e.platform hpl
  obtain ⟨hg₁, hwarm₁, hready₁⟩ := State.classEntry (e := e) hW hcl
  obtain ⟨k, hk⟩ := Vm.classAt_of_findClass hcc
  obtain ⟨k', hk', -⟩ := hwarm₁.alike.2.2 _ _ hk
  exact ⟨cc, _, hcc, hg₁, by no_record, hwarm₁, k', hk'⟩
/-- the handler is found -/
theorem x_find {b : Nat} {g : JFrame} {x : Addr} {ce : Cell} {z : (Nat × Nat × Nat × Nat × Nat × Nat) × Nat × Nat × Nat} (X : Stand p l e R s m args below meth c T locs cells slots) (hown : s.vm.findClass "TermReaderLaw" = some m.cls) (hts : ∀ w ∈ xTb, w.before args s = true) (hex : xex b s) (hg : g.method = m) (htab : c.exceptionTable.toList = tableOf (xhl z.1.1)) (hz : z ∈ e5l) (hp1 : z.1.2.1 ≤ g.pc) (hp2 : g.pc < z.1.2.2.1)
    (hcell : T.heap[x]? = some ce) (hvm : ce.vm = .none) (hcls : T.vm.findClass (xEn z.1.2.2.2.1) = some ce.cls) :
    ∃ vm', s.WarmedH vm' ∧ xFinds e ((T.setTop g).pushFrame (.throwing x)) (((T.setTop g).pushFrame (.throwing x)).setVm vm') g x (.found z.2.2.2) := by
  have hpl : e.platform.magicAccessors = ({} : Platform).magicAccessors := by rw [X.admits.platform]
  obtain ⟨t1, t2, t3, t4, t5⟩ := e5_t z hz
  have hv : ((T.setTop g).pushFrame (.throwing x)).vm = T.vm := Stand.throwing_vm T g x
  have hh : ((T.setTop g).pushFrame (.throwing x)).heap = T.heap := Stand.throwing_heap T g x
  have hm : ((T.setTop g).pushFrame (.throwing x)).vm.method? g.method = some meth := by
    rw [hv, hg]
    exact X.method'
  have hcell' : ((T.setTop g).pushFrame (.throwing x)).heap[x]? = some ce := by rw [hh]; exact hcell
  have hobj : ∀ k, ce.vm ≠ .statics k := fun k => by rw [hvm]; intro h; cases h
  have hcS : s.vm.findClass (xEn z.1.2.2.2.1) = some ce.cls := by rw [← X.warmed.alike.findClass]; exact hcls
  have hcv : ∀ (h a : Nat), covers (⟨z.1.2.1, z.1.2.2.1, h, a⟩ : ExceptionTableEntry) g.pc = true := fun h a => by
    simp only [covers, Bool.and_eq_true, decide_eq_true_eq]
    exact ⟨hp1, hp2⟩
  obtain ⟨k0, hk0⟩ := Vm.classAt_of_findClass hcS
  subst hg
  unfold e5t at t1
  split at t1
  · rename_i hz0
    have t1 := of_decide_eq_true t1
    obtain ⟨x0, rest, hx0⟩ : ∃ x0 rest, xhl z.1.1 = x0 :: rest := by
      cases hq : xhl z.1.1 with
      | nil => rw [hq] at t1; simp at t1
      | cons a l => exact ⟨a, l, rfl⟩
    rw [hx0] at t1 htab
    have hx1 : x0 = (z.1.2.1, z.1.2.2.1, z.2.2.2, eCt z.1.2.2.2.1) := by simpa using t1
    subst hx1
    obtain ⟨cc, vm', q1, q2, q3, q4, q5⟩ := x_asked (e := e) hpl hown hts X.warmed t2
    have hec : ce.cls = cc := Option.some.inj (hcS.symm.trans q1)
    have hk' : ∃ k, vm'.classes[ce.cls]? = some k := by rw [hec]; exact q5
    exact ⟨vm', q4, xfinds1 hm X.code htab (hcv _ _) (e5_w _ t2).2 (by rw [hv]; exact q2) (by rw [hv]; exact q3) hcell' hobj hk' q5 (by rw [hec]; exact va_asg _ _)⟩
  · simp only [Bool.and_eq_true, decide_eq_true_eq, Bool.not_eq_true', beq_eq_false_iff_ne] at t1
    obtain ⟨u1, u2, u3, u4⟩ := t1
    obtain ⟨x0, y0, rest, hx0⟩ : ∃ x0 y0 rest, xhl z.1.1 = x0 :: y0 :: rest := by
      cases hq : xhl z.1.1 with
      | nil => rw [hq] at u1; simp at u1
      | cons a l =>
        cases l with
        | nil => rw [hq] at u2; simp at u2
        | cons a2 l2 => exact ⟨a, a2, l2, rfl⟩
    rw [hx0] at u1 u2 htab
    have hy1 : y0 = (z.1.2.1, z.1.2.2.1, z.2.2.2, eCt z.1.2.2.2.1) := by simpa using u2
    obtain ⟨hp, hx1⟩ : ∃ hp, x0 = (z.1.2.1, z.1.2.2.1, hp, eCt z.2.2.1) := ⟨_, by simpa using u1⟩
    subst hy1 hx1
    obtain ⟨c1, vm1, q1, q2, q3, q4, q5⟩ := x_asked (e := e) hpl hown hts X.warmed u3
    obtain ⟨c2, vm2, r1, r2, r3, r4, r5⟩ := x_asked (e := e) hpl hown hts q4 t2
    have hec : ce.cls = c2 := Option.some.inj (hcS.symm.trans r1)
    obtain ⟨k1, hk1, -⟩ := q4.alike.2.2 _ _ hk0
    obtain ⟨k2, hk2, -⟩ := r4.alike.2.2 _ _ hk0
    have hno : vm1.assignable ce.cls c1 = false := by
      obtain ⟨s0, a0, e1, e2, e3, e4, e5⟩ := hex
      have fl : ∀ w ∈ xF1, w.before a0 s0 = true := flat_of_before _ e5
      obtain ⟨ca, cb, n1, n2, n3⟩ := va_Nc.moved (U := s) e3.alike (va_Nc.of (fl _ (e5_n _ t2 _ u3 (Ne.symm u4))))
      cases Option.some.inj (hcS.symm.trans n1)
      cases Option.some.inj (q1.symm.trans n2)
      rw [q4.alike.assignable]
      exact n3
    exact ⟨vm2, r4, xfinds2 hm X.code htab (hcv _ _) (e5_w _ u3).2 (by rw [hv]; exact q2) (by rw [hv]; exact q3) hcell' hobj ⟨k1, hk1⟩ q5 hno (hcv _ _) (e5_w _ t2).2 r2 r3 ⟨k2, hk2⟩ r5 (by rw [hec]; exact va_asg _ _)⟩
end EF
