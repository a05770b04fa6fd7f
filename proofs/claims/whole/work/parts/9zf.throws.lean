-- throws: the throw, and the methods that come to one
section ET
variable {p : Program} {l : Launch} {e : Env} {R : Room} {s : State} {m : MethodId} {args : Array Value} {below : List Frame} {meth : Method} {c : Code}
/-- what a method that throws leaves -/
def xQe (D : va_G) (K : xTy) (b scr ev : Nat) (h' : xH) (st : State) (x : Addr) (t : State) : Prop :=
  t.heap.size = b + xcn h' ∧ h'.1.length ≤ 1000 ∧ va_P D xCl (xw K b scr h'.1) t.heap ∧ (∀ q, q < b → t.heap[q]? = st.heap[q]?) ∧ ∃ ce : Cell, t.heap[x]? = some ce ∧ ce.vm = .none ∧ t.vm.findClass (xEn ev) = some ce.cls
def MQE (below : List Frame) (Qe : State → Addr → State → Prop) (s : State) (mc ms : Nat) (free : Addr → Prop) : State → Prop := fun t =>
  ∃ x : Addr, t.status = .running ∧ Ended t below (.threw x) ∧ Qe s x t ∧ ∃ L, s.WarmedH t.vm ∧ s.sameButNew ({ t with vm := s.vm } : State) L mc ms ∧ ∀ q ∈ L, free q.base
theorem x_ctor {H : Heap} {cells slots pc a q ev : Nat} {la : Array Slot} {bytes : ByteArray} (hl : l.flags = flags0) (hx : p.tables.exec = Jvm.exec) (hb : c.code = bytes) (hown : s.vm.findClass "TermReader" = some m.cls) (hev : ev < 3) (hat : ∀ w ∈ Bundle.ownAtoms "TermReader" (eIc ev) (xEn ev) eNm, w.before args s = true)
    {cX : ClassId} {kX : Class} (hfX : s.vm.findClass (xEn ev) = some cX) (hkX : s.vm.classes[cX]? = some kX) (hcell : H[a]? = some { cls := cX, slots := kX.instanceTypes.map defaultValue, vm := .none }) (hnew : s.heap.size ≤ a) (hsz : la.size = c.maxLocals)
    (hd6 : decode bytes pc = .ok (.invokespecial (eIc ev), 3)) (hd9 : decode bytes (pc + 3) = .ok (.athrow, 1)) (hout : ∀ x ∈ c.exceptionTable.toList, covers x (pc + 3) = false) (hRf : 5 < R.frames) (hRl : 82 ≤ R.locals) (hlk : meth.locks = false) :
    W p l e R s m args below meth c H [] cells slots (fun U => U.status = .running ∧ Ended U below (.threw a) ∧ s.WarmedH U.vm ∧ s.sameButNew ({ U with vm := s.vm } : State) [] cells slots ∧ ∃ ce : Cell, U.heap[a]? = some ce ∧ ce.vm = .none ∧ s.vm.findClass (xEn ev) = some ce.cls) (F0 m pc la [.ref q, .ref a, .ref a]) := by
  intro T hT X
  subst hb
  obtain ⟨U, h1, h2, h3, h4, h5, ce, h6, h7⟩ := X.ctorThrowS hx (e_tr hl X.admits) (names := eNm) hown (e_fit ev hev) e_fits hat (fun x hx => by cases hx) hfX hkX (by rw [hT]; exact hcell) hnew (msg := .ref q) rfl (g := F0 m pc la [.ref q, .ref a, .ref a]) rfl hsz rfl rfl (rest := []) rfl hd6 hd9 hout
    (by show 2 + 3 < R.frames; omega) (by show 2 * 0 + (1 + 0) + (13 * (2 + 1) + 42) ≤ R.locals; omega) hlk
  exact ⟨U, h1, h2, h3, h4, h5, ce, h6, h7.vm, h7.cls⟩
/-- no method of the class's has a handler -/
theorem x_nohand {mi pc : Nat} {T : State} {locs : List Loc} {cells slots : Nat} (hmi : mi < 214) (hts : ∀ w ∈ xTb, w.before args s = true) (hnm : s.methodNamed? (xme mi).1 = some m) (X : Stand p l e R s m args below meth c T locs cells slots) : ∀ x ∈ c.exceptionTable.toList, covers x pc = false := by
  obtain ⟨meth', c', g1, g2, -, -, -, -, g7, -⟩ := Cond.code_spec hnm (hts _ (xws_good hmi _ List.mem_cons_self).1)
  cases X.method.symm.trans g1
  cases X.code.symm.trans g2
  have h0 : c.exceptionTable.size = 0 := by simpa [Array.isEmpty] using g7
  have h1 : c.exceptionTable.toList = [] := List.eq_nil_of_length_eq_zero (by simpa using h0)
  intro y hy
  rw [h1] at hy
  cases hy
set_option maxHeartbeats 1000000 in
set_option maxRecDepth 100000 in
/-- a throw -/
theorem xthrow_sound {D : va_G} {K : xTy} {b scr : Nat} {sc : xSc} {C0 S0 mi d pc : Nat} {r : xRow} {A : List xC} {g : Nat} {H : Heap} {locs : List Loc} {cells slots : Nat} {la : Array Slot}
    (hl : l.flags = flags0) (hmi : mi < 214) (cx : xcx D K b scr sc mi p s m args meth c) (hnm : s.methodNamed? (xme mi).1 = some m) (hrow : xrow mi pc = some r) (hk : xkd r = 3) (hsz : la.size = (xme mi).2.2.1) (hw : xwd D K b scr s C0 S0 A g H locs cells slots)
    (hc : xcn (A, g + 1) ≤ C0 + R.cells) (hsl : xsn (A, g + 1) ≤ S0 + R.slots) (hd : d + 8 ≤ R.frames) (hlo : 64 * (d + 8) ≤ R.locals) :
    W p l e R s m args below meth c H locs cells slots (MQE below (xQe D K b scr (r.2.2.1 - 1000) (A, g + 1)) s R.cells R.slots (fun q => b ≤ q)) (F0 m pc la []) := by
  have h1 := xsc_at (e3_all mi hmi) (show (xcs.getD mi []).getD pc none = some r from hrow)
  rw [Nat.zero_add] at h1
  unfold e3c at h1
  rw [if_pos hk] at h1
  simp only [List.any_eq_true, Bool.and_eq_true, decide_eq_true_eq] at h1
  obtain ⟨q, hq, rfl, rfl, hr1⟩ := h1
  have hev : r.2.2.1 - 1000 = q.2.2.1 := by omega
  rw [hev]
  obtain ⟨i1, i2, i3, i4⟩ := e3_in q hq
  obtain ⟨d0, d3, d4, d6, d9⟩ := e3_de q hq
  have i5 := e3_ex q hq
  obtain ⟨tx, htx⟩ := e3s_of i4
  obtain ⟨hx, hb, hml, hown, hts, hK, hX, hsb, hbs, hname, hrt, hlk, hex⟩ := id cx
  obtain ⟨w1, w2, w3, w4, w5, hP, hS⟩ := id hw
  have w3' : slots + S0 = xsn (A, g) := w3
  have hsn : xsn (A, g + 1) = xsn (A, g) + 6 := by
    simp only [xsn]
    omega
  have hcn : xcn (A, g + 1) = A.length + (g + 1) := rfl
  rw [i3] at hown
  intro T hT X
  have hout := x_nohand (pc := q.2.1 + 6 + 3) hmi hts hnm X
  have hW' : s.WarmedH (T.setFrames (.invoking m args :: below)).vm := X.warmed
  have hex' : xex b (T.setFrames (.invoking m args :: below)) := xex_move hex (show (T.setFrames (.invoking m args :: below)).heap = H from hT) (fun z hz => hS.2.1 z (by omega) (by show ¬ b ≤ z; omega)) hW'
  have hts' : ∀ w ∈ xTb, w.before args (T.setFrames (.invoking m args :: below)) = true := fun w hw => word_at hW' (xTb_good hw) (hts w hw)
  have hown' : (T.setFrames (.invoking m args :: below)).vm.findClass "TermReader" = some m.cls := by
    rw [hW'.alike.findClass]
    exact hown
  obtain ⟨s0, a0, e1, e2, e3, e4, e5⟩ := id hex'
  have fl : ∀ w ∈ xF1, w.before a0 s0 = true := flat_of_before _ e5
  obtain ⟨am, y1, y2, y3, q1, -⟩ := Cond.exactly_spec (args := a0) (first := s0) (o := none) (s := s0) (idx := []) (fl _ i5)
  have hZ : vk_R "TermReader" q.2.2.2.1 tx am (T.setFrames (.invoking m args :: below)) := vk_R.warm e3 (vk_R.of (e4 _ htx) q1)
  have X' := x_rebase (R' := { frames := R.frames, cells := 1, slots := 6, locals := R.locals }) X (Nat.le_refl _) (Nat.le_refl _) (by show cells + 1 ≤ R.cells; omega) (by show slots + 6 ≤ R.slots; omega)
  have key : W p l e { frames := R.frames, cells := 1, slots := 6, locals := R.locals } (T.setFrames (.invoking m args :: below)) m args below meth c H [] 0 0 (fun U => U.status = .running ∧ Ended U below (.threw H.size) ∧ (T.setFrames (.invoking m args :: below)).WarmedH U.vm ∧ (T.setFrames (.invoking m args :: below)).sameButNew ({ U with vm := (T.setFrames (.invoking m args :: below)).vm } : State) [] (0 + 1) (0 + 6) ∧ ∃ ce : Cell, U.heap[H.size]? = some ce ∧ ce.vm = .none ∧ (T.setFrames (.invoking m args :: below)).vm.findClass (xEn q.2.2.1) = some ce.cls) (F0 m q.2.1 la []) := by
    refine W.newc hx hb hown' (hts' _ (e_w _ i2).1) (hts' _ (e_w _ i2).2.1) (hts' _ (e_w _ i2).2.2) rfl d0 (Nat.le_refl _) (Nat.le_refl _) (fun cC kC f1 f2 f3 f4 => ?_)
    refine lv_dup hx hb d3 rfl ?_
    refine va_ldcS hx hb hown' hZ d4 ?_
    exact x_ctor hl hx hb hown' i2 (fun w hw => eok_at (e_a _ i2 w hw) hex' hts') f1 f2 (a := H.size) (by simp) (by show T.heap.size ≤ H.size; rw [hT]; exact Nat.le_refl _) (hsz.trans hml.symm) d6 d9 hout (by show 5 < R.frames; omega) (by show 82 ≤ R.locals; omega) hlk
  obtain ⟨U, st, u1, u2, u3, u4, ce, u5, u6, u7⟩ := key T hT X'
  have hT2 : T.sameButNew ({ U with vm := T.vm } : State) [] 1 6 := by
    obtain ⟨v1, v2⟩ := u4
    rw [State.setFrames_setFrames] at v1
    exact ⟨v1, v2⟩
  have hb1 : U.heap.size ≤ T.heap.size + 1 := hT2.2.2.1
  have hb2 : H.size < U.heap.size := (Array.getElem?_eq_some_iff.mp u5).1
  rw [hT] at hb1
  have kp : ∀ z : Nat, z < H.size → U.heap[z]? = H[z]? := fun z hz => by
    have h9 := x_keep' hT2 (q := z) (by rw [hT]; exact hz)
    rw [hT] at h9
    exact h9
  have hsm := X.same.trans (hT2.setVm s.vm)
  rw [List.append_nil] at hsm
  refine ⟨U, st, H.size, u1, u2, ⟨by rw [hcn]; omega, w5, hP.kept (fun k z hz => kp z.1 (hP k z hz).lt), fun z hz => ?_, ce, u5, u6, ?_⟩, locs, State.WarmedH.trans X.warmed u3, hsm.mono (by omega) (by omega), hS.2.2⟩
  · rw [kp z (by omega)]
    exact hS.2.1 z (by omega) (by show ¬ b ≤ z; omega)
  · rw [u3.alike.findClass]
    exact u7
end ET
theorem xcallee {mi pc : Nat} {r : xRow} (hok : xok mi pc r = true) (hk : xkd r = 2) : r.2.2.1 < xlim mi := by
  have h9 := hok
  obtain ⟨i, len, r1, r2, r3, rv, rk, sw⟩ := r
  simp only [xok, Bool.and_eq_true] at h9
  have h9 := h9.2.2
  cases i with
  | invokevirtual ix =>
    have h1000 : r1 < 1000 := by
      simp only [xkd] at hk
      split at hk
      · assumption
      · cases hk
    simp only [xokI, if_pos h1000, Bool.and_eq_true, decide_eq_true_eq] at h9
    exact h9.1
  | invokespecial ix =>
    have h1000 : r1 < 1000 := by
      simp only [xkd] at hk
      split at hk
      · assumption
      · cases hk
    simp only [xokI, if_pos h1000, Bool.and_eq_true, decide_eq_true_eq] at h9
    exact h9.1
  | invokestatic ix =>
    have h1000 : r1 < 1000 := by
      simp only [xkd] at hk
      split at hk
      · assumption
      · cases hk
    simp only [xokI, if_pos h1000, Bool.and_eq_true, decide_eq_true_eq] at h9
    exact h9.1
  | _ => first
    | (simp [xkd] at hk; done)
    | (simp only [xkd] at hk; split at hk <;> cases hk)
theorem xkd_lt (r : xRow) : xkd r < 5 := by
  unfold xkd
  split <;> first | decide | (split <;> decide)
theorem xkd_3 {r : xRow} (h0 : xkd r = 0 → False) (h1 : xkd r = 1 → False) (h2 : xkd r = 2 → False) (h4 : xkd r = 4 → False) : xkd r = 3 := by
  have h5 := xkd_lt r
  have a0 : ¬ xkd r = 0 := h0
  have a1 : ¬ xkd r = 1 := h1
  have a2 : ¬ xkd r = 2 := h2
  have a4 : ¬ xkd r = 4 := h4
  omega
section EG
variable {l : Launch}
/-- the pure machine's frame, where it comes to a throw -/
def xGoE (l : Launch) (sc : xSc) (d mi pc : Nat) (ls : xL) (st : List Value) (h : xH) (ev : Nat) (h' : xH) : Prop :=
  ∀ (p : Program) (e : Env) (R : Room) (s : State) (m : MethodId) (args : Array Value) (below : List Frame) (meth : Method) (c : Code) (D : va_G) (K : xTy) (b scr C0 S0 : Nat) (H : Heap) (locs : List Loc) (cells slots : Nat) (la : Array Slot),
    xcx D K b scr sc mi p s m args meth c → s.methodNamed? (xme mi).1 = some m → lv_has la (xme mi).2.2.1 (ls.map (xtv b scr)) → xwd D K b scr s C0 S0 h.1 h.2 H locs cells slots → xcn h' ≤ C0 + R.cells → xsn h' ≤ S0 + R.slots → d ≤ R.frames → 64 * d ≤ R.locals →
    W p l e R s m args below meth c H locs cells slots (MQE below (xQe D K b scr ev h') s R.cells R.slots (fun q => b ≤ q)) (F0 m pc la (st.map (xv b scr)))
set_option maxHeartbeats 4000000 in
/-- SOUND: what the pure machine throws, the machine throws -/
theorem xr_soundE (hf : l.flags = flags0) (sc : xSc) : ∀ (n d mi pc : Nat) (ls : xL) (st : List Value) (h : xH) (ev : Nat) (h' : xH), mi < 214 → xr sc n d mi pc ls st h = some (.inr ev, h') → xGoE l sc d mi pc ls st h ev h'
  | 0, _, _, _, _, _, _, _, _, _, hr => by cases hr
  | n + 1, d, mi, pc, ls, st, h, ev, h', hmi, hr => by
    intro p e R s m args below meth c D K b scr C0 S0 H locs cells slots la cx hnm hl hw hc hsl hd hlo
    unfold xr at hr
    split at hr
    · cases hr
    · rename_i r hrow
      have hok : xok mi pc r = true := xall_row (xall_of (by omega)) hrow
      split at hr
      · rename_i hk
        split at hr
        · cases hr
        · rename_i q hq
          have hm := xr_mono sc n _ _ _ _ _ _ _ _ hr
          refine xs_sound cx hok hq hl hw ⟨Nat.le_trans hm.1 hc, Nat.le_trans hm.2 hsl⟩ ⟨hd, hlo⟩ (fun la' H' locs' cells' slots' hl' hw' => ?_)
          exact xr_soundE hf sc n d mi _ _ _ _ _ _ hmi hr p e R s m args below meth c D K b scr C0 S0 H' locs' cells' slots' la' cx hnm hl' hw' hc hsl hd hlo
      · split at hr
        · cases hr
        · cases hr
      · rename_i hk
        split at hr
        · cases hr
        · rename_i d'
          split at hr
          · cases hr
          · rename_i q hq
            split at hr
            · cases hr
            · rename_i v1 h1 hcal
              have hce : r.2.2.1 < 214 := by
                have h9 := xcallee hok hk
                unfold xlim at h9
                rwa [if_pos hmi] at h9
              have a1 := xr_mono sc n _ _ _ _ _ _ _ _ hcal
              have a2 := xr_mono sc n _ _ _ _ _ _ _ _ hr
              have G := xr_sound (xOf_holds l) sc n d' _ _ _ _ _ _ _ hce hcal
              refine xcall_sound cx hok hk hce hq hw hl.1 a1 (Nat.le_trans a2.1 hc) (Nat.le_trans a2.2 hsl) hd hlo (xmet_of hce (xcall_sl hq) a1 G D K b scr) (fun H' locs' cells' slots' hw' => ?_)
              exact xr_soundE hf sc n (d' + 1) mi _ _ _ _ _ _ hmi hr p e R s m args below meth c D K b scr C0 S0 H' locs' cells' slots' la cx hnm hl hw' hc hsl hd hlo
            · rw [xhnd_none hmi] at hr
              cases hr
      · rename_i hk
        split at hr
        · rename_i d'
          split at hr
          rotate_left
          · cases hr
          rename_i hcat
          have hm := xr_mono sc n _ _ _ _ _ _ _ _ hr
          have kk := xr_soundE hf sc n (d' + 8) mi _ _ _ _ _ _ hmi hr p e R s m args below meth c D K b scr C0 S0 H locs cells slots la cx hnm hl hw hc hsl hd hlo
          exact xOf_holds l sc p e R s m args below meth c _ D K b scr C0 S0 mi d' pc r _ h.1 h.2 H locs cells slots la hmi cx hrow hk hl.1 hw (Nat.le_trans hm.1 hc) (Nat.le_trans hm.2 hsl) hd hlo (by rw [List.map_map]; simpa [Function.comp_def, xv_cat] using hcat) kk
        · cases hr
      · rename_i k0 k1 k2 k4
        split at hr
        · rename_i d'
          split at hr
          · obtain ⟨he, hh⟩ := Prod.mk.inj (Option.some.inj hr)
            have he := Sum.inr.inj he
            subst he
            subst hh
            have hk : xkd r = 3 := xkd_3 k0 k1 k2 k4
            exact xthrow_sound hf hmi cx hnm hrow hk hl.1 hw hc hsl hd hlo
          · cases hr
        · cases hr
end EG
