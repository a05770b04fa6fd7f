-- the law at the machine; its frame is the guide's skeleton, with the launch's flags and the method's name beside
/-! THE CLAIM OUT OF ONE WALK OF THE LAW'S BODY. Your part is whole_start (and what it stands on); all else here is the same for every law, but numbers. -/
def R_law : String := "TermReaderLaw"
def lw_P (b : Addr) (xs : List Int32) (args : Array Value) (s : State) : Prop := args = #[.ref b] ∧ s.IntsAt b xs ∧ xs.length ≤ 2560 ∧ (Jvm.Cond.and given_1 narrow_1).before args s = true
def lw_Q (_ : Array Value) (s : State) (o : Outcome) (t : State) : Prop := o = .returned (some (.int 1)) ∧ Framed s o t [] 601024 7293034
def lw_Z (below : List Frame) (a : Array Value) (s : State) : State → Prop := fun t => ∃ o, t.status = .running ∧ Ended t below o ∧ lw_Q a s o t
/-- the law's own end, with 1 on the stack, nothing written that was there before, its room as the claim has it -/
theorem lw_ret {p : Program} {l : Launch} {e : Env} {s : State} {m : MethodId} {below : List Frame} {meth : Method} {c : Code} {b : Nat} (hx : p.tables.exec = Jvm.exec) (hb : c.code = code) (hr : meth.sig.returnType = ret) (hlocks : meth.locks = false) {pc : Nat} {H : Heap} {ls : Array Slot} (hdg : decode code pc = .ok (.ireturn, 1)) : W p l e room_1 s m #[Value.ref b] below meth c H [] 601024 7293034 (lw_Z below #[Value.ref b] s) (F0 m pc ls [.int 1]) := by
  intro T hT X
  obtain ⟨fs, hret, hrun, hended, hW, hframe⟩ := X.leave (v := some (.int 1)) (hlocks := hlocks) (fun h => by rw [hr] at h; cases h)
  have hmeth' : T.vm.method? m = some meth := X.method'
  refine ⟨T.setFrames fs, ?_, .returned (some (.int 1)), hrun, hended, rfl, ⟨_, rfl⟩, hW, hframe⟩
  jvm_step X.here [X.here.top, hx, hb, hdg, hmeth', hr, ret, narrow_b1]
  (try refine ⟨rfl, ?_⟩); (try refine ⟨rfl, ?_⟩)
  first | (intro acts; rw [hret _ acts rfl rfl rfl]) | rw [hret _ _ rfl rfl rfl]
  exact Steps.refl _
/-- what holds at the law's entry: the machine, the code, the tables' words (any of lw_tbl by 'hts w (by decide +kernel)'), the script of L ints xs at the cell b, what the Statement gives of the start (any of its parts by flat_of_before) -/
def lw_At (p : Program) (s : State) (m : MethodId) (meth : Method) (c : Code) (b L : Nat) (xs : Nat → Int32) : Prop :=
  p.tables.exec = Jvm.exec ∧ c.code = code ∧ meth.sig.returnType = ret ∧ c.maxLocals = 7 ∧ s.vm.findClass R_law = some m.cls ∧ (∀ w ∈ lw_tbl, w.before #[Value.ref b] s = true) ∧ va_X b L xs s s.heap ∧ b < s.heap.size ∧ meth.locks = false ∧ (Jvm.Cond.and given_1 narrow_1).before #[Value.ref b] s = true ∧ meth.name = x.name

theorem xhnd_220 {pc ev : Nat} : xhnd 220 pc ev = none := by
  unfold xhnd
  rw [Option.map_eq_none_iff, List.find?_eq_none]
  intro q hq
  have h1 : q.1 < 220 := (by decide : ∀ q ∈ xhd, q.1 < 220) q hq
  have h2 : (q.1 == 220) = false := by
    rw [beq_eq_false_iff_ne]
    omega
  simp [h2]
section LR
variable {l : Launch}
set_option maxHeartbeats 4000000 in
set_option maxRecDepth 100000 in
/-- SOUND, for the law -/
theorem xr_soundL (hf : l.flags = flags0) (sc : xSc) : ∀ (n d pc : Nat) (ls : xL) (st : List Value) (h h' : xH), xr sc n d 220 pc ls st h = some (.inl (some (.int 1)), h') → ∀ (p : Program) (e : Env) (s : State) (m : MethodId) (below : List Frame) (meth : Method) (c : Code) (D : va_G) (K : xTy) (scr : Nat) (H : Heap) (locs : List Loc) (cells slots : Nat) (la : Array Slot),
    xcx D K s.heap.size scr sc 220 p s m #[Value.ref scr] meth c → lv_has la (xme 220).2.2.1 (ls.map (xtv s.heap.size scr)) → xwd D K s.heap.size scr s 0 0 h.1 h.2 H locs cells slots → xcn h' ≤ 601024 → xsn h' ≤ 7293034 → d ≤ 2048 → 64 * d ≤ 84000 →
    W p l e room_1 s m #[Value.ref scr] below meth c H locs cells slots (lw_Z below #[Value.ref scr] s) (F0 m pc la (st.map (xv s.heap.size scr)))
  | 0, _, _, _, _, _, _, hr => by cases hr
  | n + 1, d, pc, ls, st, h, h', hr => by
    intro p e s m below meth c D K scr H locs cells slots la cx hl hw hc hsl hd hlo
    have hc0 : xcn h' ≤ 0 + room_1.cells := by show xcn h' ≤ 0 + 601024; omega
    have hs0 : xsn h' ≤ 0 + room_1.slots := by show xsn h' ≤ 0 + 7293034; omega
    unfold xr at hr
    split at hr
    · cases hr
    · rename_i r hrow
      have hok : xok 220 pc r = true := xall_row (xall_of (by omega)) hrow
      have hck := lCk_of hrow
      unfold lCk at hck
      split at hr
      · rename_i hk
        split at hr
        · cases hr
        · rename_i q hq
          have hm := xr_mono sc n _ _ _ _ _ _ _ _ hr
          refine xs_sound cx hok hq hl hw ⟨Nat.le_trans hm.1 hc0, Nat.le_trans hm.2 hs0⟩ ⟨hd, hlo⟩ (fun la' H' locs' cells' slots' hl' hw' => ?_)
          exact xr_soundL hf sc n d _ _ _ _ _ hr p e s m below meth c D K scr H' locs' cells' slots' la' cx hl' hw' hc hsl hd hlo
      · split at hr
        · cases hr
        · rename_i v1 hv
          cases hr
          obtain ⟨hx, hb, hml, hown, hts, hK, hX, hsb, hbs, hnm, hrt, hlk, hex⟩ := id cx
          obtain ⟨w1, w2, w3, w4, w5, hP, hS⟩ := id hw
          have w3' : slots + 0 = xsn h := w3
          have w2' : cells + 0 = xcn h := w2
          obtain ⟨i, len, r1, r2, r3, rv, rk, sw⟩ := r
          simp only [xok, Bool.and_eq_true, decide_eq_true_eq] at hok
          obtain ⟨hdec, hlen, -⟩ := hok
          unfold xret at hv
          split at hv
          · rename_i z heq
            dsimp only at heq hlen hdec
            subst heq
            simp only [xlen, Bool.or_eq_true, beq_iff_eq] at hlen
            obtain rfl : len = 1 := by omega
            have hz : z = 1 := by
              split at hv
              · cases hv
                rfl
              · split at hv
                · cases hv
                  rfl
                · cases hv
              · cases hv
            subst hz
            refine va_forget (fun q hq => hS.2.2 q hq) ?_
            refine W.widen (k := 601024) (n := 7293034) (by omega) (by omega) ?_
            exact lw_ret hx hb hrt hlk hdec
          · split at hv <;> cases hv
          · split at hv <;> cases hv
          · cases hv
      · rename_i hk
        rw [if_pos hk] at hck
        split at hr
        · cases hr
        · rename_i d'
          split at hr
          · cases hr
          · rename_i q hq
            split at hr
            · cases hr
            · rename_i v1 h1 hcal
              have a1 := xr_mono sc n _ _ _ _ _ _ _ _ hcal
              have a2 := xr_mono sc n _ _ _ _ _ _ _ _ hr
              by_cases hce : r.2.2.1 < 214
              · have G := xr_sound (xOf_holds l) sc n d' _ _ _ _ _ _ _ hce hcal
                refine xcall_sound cx hok hk hce hq hw hl.1 a1 (Nat.le_trans a2.1 hc0) (Nat.le_trans a2.2 hs0) hd hlo (xmet_of hce (xcall_sl hq) a1 G D K s.heap.size scr) (fun H' locs' cells' slots' hw' => ?_)
                exact xr_soundL hf sc n (d' + 1) _ _ _ _ _ hr p e s m below meth c D K scr H' locs' cells' slots' la cx hl hw' hc hsl hd hlo
              · have hce2 : r.2.2.1 < 220 := xcallee hok hk
                have G := xr_soundH hf sc n d' _ _ _ _ _ _ _ (by omega) hce2 hcal
                refine xhelp_sound cx hrow hok hk (by omega) hce2 hq hw hl.1 a1 (Nat.le_trans a2.1 hc0) (Nat.le_trans a2.2 hs0) hd hlo G (fun H' locs' cells' slots' hw' => ?_)
                exact xr_soundL hf sc n (d' + 1) _ _ _ _ _ hr p e s m below meth c D K scr H' locs' cells' slots' la cx hl hw' hc hsl hd hlo
            · rw [xhnd_220] at hr
              cases hr
      · rename_i hk
        rw [if_neg (by rw [hk]; decide), hk] at hck
        cases hck
      · split at hr
        · split at hr
          · cases hr
          · cases hr
        · cases hr
end LR
theorem l_arr : Cond.arrayClass .int ∈ xTb ∧ Cond.arrayClass .long ∈ xTb ∧ Cond.arrayClass .char ∈ xTb := ⟨xhas_in (i := 246) (by decide +kernel), xhas_in (i := 245) (by decide +kernel), xhas_in (i := 150) (by decide +kernel)⟩
theorem l_arrof {s : State} {args : Array Value} {ty : FieldType} (h : (Cond.arrayClass ty).before args s = true) : ∃ cA : ClassId, ArrOfT s cA ty ∧ s.vm.findClass ("[" ++ ty.toString) = some cA := by
  obtain ⟨cA, kA, comp, f1, f2, f3⟩ := Cond.arrayClass_spec h
  exact ⟨cA, fun N z => ⟨(fun k h => by cases h), kA, f2, comp, f3⟩, f1⟩
/-- the tables' numbers -/
theorem l_known {s : State} {args : Array Value} (hts : ∀ w ∈ xTb, w.before args s = true) : ∃ (D : va_G) (K : xTy), va_K D xCl (xtl K) s := by
  have h0 : ∀ ci : Nat, ∃ q : ClassId × (Nat → Nat), ci < 8 → u_Kn s (xcl ci).1 (xcl ci).2.1 (xcl ci).2.2 q.1 q.2 := by
    intro ci
    by_cases hci : ci < 8
    · obtain ⟨cC, iS, hk⟩ := u_known (C := (xcl ci).1) (T := (xcl ci).2.1) (N := (xcl ci).2.2) (n := (xcl ci).2.2) hts (xin_ws ci hci) (hts _ (xin_inst ci hci).1)
      exact ⟨(cC, iS), fun _ => hk⟩
    · exact ⟨(0, fun _ => 0), fun h => absurd h hci⟩
  obtain ⟨f, hf⟩ := Classical.axiomOfChoice h0
  obtain ⟨k1, a1, b1⟩ := l_arrof (hts _ l_arr.1)
  obtain ⟨k2, a2, b2⟩ := l_arrof (hts _ l_arr.2.1)
  obtain ⟨k3, a3, b3⟩ := l_arrof (hts _ l_arr.2.2)
  refine ⟨(fun c => (f c).1, fun c => (f c).2), (k1, k2, k3), fun c q hq => ?_, fun k q hk => ?_⟩
  · have hlt : c < 8 := (List.getElem?_eq_some_iff.mp hq).1
    have he : xcl c = q := Option.some.inj ((xcl_get hlt).symm.trans hq)
    have := hf c hlt
    rw [he] at this
    exact this
  · match k, hk with
    | 0, hk => cases hk; exact ⟨a1, b1⟩
    | 1, hk => cases hk; exact ⟨a2, b2⟩
    | 2, hk => cases hk; exact ⟨a3, b3⟩
    | k + 3, hk => simp [xtl] at hk
set_option maxHeartbeats 1000000 in
set_option maxRecDepth 100000 in
/-- from the entry, for every script of at most 2560 ints, the law comes to its end with true -/
theorem whole_start {p : Program} {e : Env} {s : State} {m : MethodId} {below : List Frame} {meth : Method} {c : Code} (l : Launch) (hfl : l.flags = flags0) {b L : Nat} {xs : Nat → Int32} (hL : L ≤ 2560) (C0 : lw_At p s m meth c b L xs) : W p l e room_1 s m #[Value.ref b] below meth c s.heap [] 0 0 (lw_Z below #[Value.ref b] s) (entryFrame m ([Value.ref b] : List Value).toArray 7) := by
  obtain ⟨hx, hb, hr, hml, hown, hts, hX, hbl, hlocks, hgv, hnm⟩ := id C0
  have hts' : ∀ w ∈ xTb, w.before #[Value.ref b] s = true := fun w hw => hts w (xTb_tbl hw)
  obtain ⟨D, K, hK⟩ := l_known hts'
  obtain ⟨n, o, h', he, ho, h1, h2⟩ := law_end (sc := (L, xs)) (d := 0) hL
  subst ho
  have cx : xcx D K s.heap.size b (L, xs) 220 p s m #[Value.ref b] meth c := ⟨hx, hb, hml, hown, hts', hK, hX, hbl, Nat.le_refl _, hnm, hr, hlocks, s, #[Value.ref b], rfl, fun _ _ => rfl, State.WarmedH.refl s, hts, hgv⟩
  have hl := lv_entry ([.ref b]) (n := 7) (Nat.le_of_ble_eq_true rfl)
  have hm : ([(0, Value.ref 1000000000)] : xL).map (xtv s.heap.size b) = lv_args 0 [.ref b] := by simp [xtv, xv, lv_args]
  rw [← hm] at hl
  rw [lg_entry_eq]
  exact xr_soundL hfl (L, xs) n (0 + 130) 0 _ [] ([], 0) h' he p e s m below meth c D K b s.heap [] 0 0 _ cx hl ⟨rfl, rfl, rfl, rfl, by decide, fun k q h => by simp [xw] at h, va_S.rf⟩ h1 h2 (by decide) (by decide)
set_option maxHeartbeats 4000000 in
theorem lw_walk (l : Launch) (hfl : l.flags = flags0) (b : Addr) (xs : List Int32) : MetFree l x (headSpec (Jvm.Cond.code x code maxLocals ret :: tables_1) room_1) (lw_P b xs) (fun _ _ _ _ _ => True) lw_Q := by
  refine MetFree.of_bodyS (code := code) (maxLocals := maxLocals) (ret := ret) (by decide) ?_ ?_
  · intro args s m h hn
    obtain ⟨meth, c, h1, h2, h3, h4, h5, h6, -, -⟩ := Cond.code_spec hn (atoms_spec (ws := Jvm.Cond.code x code maxLocals ret :: tables_1) h _ List.mem_cons_self)
    exact ⟨meth, c, h1, h2, h3, h4, h5, h6⟩
  · intro p e s m args below meth c s₁ B hml0 hP _
    obtain ⟨rfl, hx, hbd, hgv⟩ := hP
    obtain ⟨scr, harrAt, hlist, hof, hsmall⟩ := hx
    obtain ⟨hcb, hkn, -, -⟩ := State.arrayAt?_spec harrAt
    have hown : s.vm.findClass R_law = some m.cls := findClass_of_methodNamed B.named
    have hts0 : ∀ c ∈ (Jvm.Cond.code x code maxLocals ret :: tables_1), c.before #[Value.ref b] s = true := atoms_spec (ws := Jvm.Cond.code x code maxLocals ret :: tables_1) B.pre
    have hts : ∀ w ∈ lw_tbl, w.before #[Value.ref b] s = true := k2_hts_sels lw_privs (fun w hw => hts0 w (List.mem_cons_of_mem _ hw)) lw_privs_ok
    have hml : c.maxLocals = 7 := B.maxLocals_eq (hts0 _ List.mem_cons_self)
    have X₀ : Stand p l e room_1 s m #[Value.ref b] below meth c s₁ [] 0 0 := Stand.of_body B
    have hh0 : s₁.heap = s.heap := by rw [B.state]; rfl
    have hsz : scr.slots.size = xs.length := by rw [← Array.length_toList, hlist, List.length_map]
    have hval : ∀ j : Nat, j < xs.length → scr.slots[j]? = some (.int (xs.getD j 0)) := fun j hj => by
      rw [← Array.getElem?_toList, hlist]
      simp [hj]
    have hbl : b < s.heap.size := (Array.getElem?_eq_some_iff.mp hcb).1
    have hX : va_X b xs.length (fun j => xs.getD j 0) s s.heap := ⟨scr, hcb, hof, hkn, hsz, hval⟩
    have K : W p l e room_1 s m #[Value.ref b] below meth c s₁.heap [] 0 0 (lw_Z below #[Value.ref b] s) (entryFrame m ([Value.ref b] : List Value).toArray 7) := by
      rw [hh0]
      exact whole_start l hfl hbd ⟨B.exec, B.bytes, B.returns, hml, hown, hts, hX, hbl, B.notSynchronized, hgv, (name_of_methodNamed B.named B.method).1⟩
    obtain ⟨t, a1, o, b1, b2, b3⟩ := K s₁ rfl X₀
    exact ⟨t, o, a1, b1, b2, b3⟩
theorem lw_pre_spec {args : Array Value} {s : State} (h : (Jvm.Cond.and given_1 narrow_1).before args s = true) (hr : rest_1_c.before args s = true) : ∃ (b : Addr) (xs : List Int32), lw_P b xs args s := by
  have hs := flat_of_before _ h
  have hq := flat_of_before _ hr
  have hc : (Cond.count 1).before args s = true := hs _ (by decide +kernel)
  have harr : (Cond.arrayOf (.arg 0) .int).before args s = true := hs _ (by decide +kernel)
  have hle : (Cond.le (.length (.arg 0)) (.int 2560)).before args s = true := hs _ (by decide +kernel)
  have hlen : (Cond.isInt (.length (.arg 0))).before args s = true := hq _ (by decide +kernel)
  have hall : (Cond.all (.arg 0) (.isInt (.elem (.arg 0) (.index 0)))).before args s = true := hq _ (by decide +kernel)
  obtain ⟨b, xs, hb, hx⟩ := State.ints_of_pre rfl harr hlen hall
  have hsm : xs.length < 2 ^ 31 := hx.choose_spec.2.2.2
  have hev : (Term.length (.arg 0)).eval args s none [] s = some (.int xs.length.toInt32) := hx.length_eval hb
  have hv := Cond.le_ints hev (show (Term.int 2560).eval args s none [] s = some (.int 2560) from rfl)
  have hd : xs.length.toInt32 ≤ 2560 := by
    simpa [Cond.before, Cond.holds, hv] using hle
  have hN : xs.length ≤ 2560 := (Int32.ofNat_le_ofNat hsm (by decide)).mp (show Int32.ofNat xs.length ≤ Int32.ofNat 2560 from hd)
  exact ⟨b, xs, Cond.one_arg hc (show args[0]? = some (.ref b) from hb), hx, hN, h⟩
theorem lw_comes (l : Launch) (hfl : l.flags = flags0) : Comes l x (Jvm.Cond.code x code maxLocals ret :: tables_1) room_1 (fun tb e args s => Calls_1 tb e args s ∧ rest_1 tb e args s ∧ Pre_1 tb e args s)
    (fun _ _ args s o t => lw_Q args s o t) := by
  intro p e ha hc hk s m args below hf hfit hheap happ hpre
  obtain ⟨b, xs, hP⟩ := lw_pre_spec hpre.2.2 hpre.2.1
  obtain ⟨k, o, h1, h2, h3, hQ⟩ := lw_walk l hfl b xs p e ha hc hk s m args below hf ((Spec.applies_iff_loose hf).mp happ).1 hP trivial
  exact ⟨k, o, h1, h2, h3, hQ⟩
theorem lw_frame {s t : State} {o : Outcome} {args : Array Value} (h : Framed s o t [] 601024 7293034) :
    Framed s o t (fieldLocs frame_1_writes args s ++ arrayLocs frame_1_arrays args s ++ staticLocs frame_1_statics s) 601024 7293034 := h
theorem lw_limb (L : Cond) (hL : ∀ (args : Array Value) (s t : State), L.after args s (.returned (some (.int 1))) t = true) :
    ArmFor flags0 classFile x code maxLocals ret World_1 tables_1 room_1 Calls_1 rest_1 Pre_1
      (fun tb e a s o t => postC L tb e a s o t ∧ Framed s o t (fieldLocs frame_1_writes a s ++ arrayLocs frame_1_arrays a s ++ staticLocs frame_1_statics s) 601024 7293034) := by
  intro l hfl _ _ p e ha hc hk s m args below hf hfit hheap happ hpre
  obtain ⟨k, o, h1, h2, h3, rfl, hF⟩ := lw_comes l hfl p e ha hc hk s m args below hf hfit hheap happ hpre
  exact ⟨k, _, h1, h2, h3, hL args s _, lw_frame hF⟩
theorem i_vc : Claimed_1_1 ∧ Claimed_1_2 := ⟨lw_limb limb_1_1 (fun args s t => by simp [limb_1_1, Cond.after, Cond.holds, Cond.value]), lw_limb limb_1_2 (fun args s t => Cond.after_iff.mpr (by
  first | (rw [show limb_1_2 = Cond.eq .result (.int 1) from rfl, Cond.eq_ints (x := 1) (y := 1) rfl rfl]; simp; done) | (simp [limb_1_2, Cond.value, Term.eval]; done)))⟩
