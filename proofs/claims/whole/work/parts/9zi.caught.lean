-- a call of a helper's that throws, caught there
section CT
variable {p : Program} {l : Launch} {e : Env} {R : Room} {s : State} {m : MethodId} {args : Array Value} {below : List Frame} {meth : Method} {c : Code} {Q : State → Prop}
set_option maxHeartbeats 4000000 in
set_option maxRecDepth 100000 in
theorem xcatch_sound {D : va_G} {K : xTy} {b scr : Nat} {sc : xSc} {C0 S0 mi d pc ev : Nat} {r : xRow} {ls : xL} {st : List Value} {h h1 : xH} {q : List Value × List Value} {t : Nat × Nat} {H : Heap} {locs : List Loc} {cells slots : Nat} {la : Array Slot}
    (cx : xcx D K b scr sc mi p s m args meth c) (hmi1 : 214 ≤ mi) (hmi2 : mi < 220) (htab : c.exceptionTable.toList = tableOf (xhl mi)) (hrow : xrow mi pc = some r) (hok : xok mi pc r = true) (hkd : xkd r = 2) (hq : xcall r st h.1 = some q) (hl : lv_has la (xme mi).2.2.1 (ls.map (xtv b scr))) (hw : xwd D K b scr s C0 S0 h.1 h.2 H locs cells slots)
    (hmono : xcn h ≤ xcn h1 ∧ xsn h ≤ xsn h1) (hc : xcn h1 ≤ C0 + R.cells) (hsl : xsn h1 ≤ S0 + R.slots) (hd : d + 1 ≤ R.frames) (hlo : 64 * (d + 1) ≤ R.locals)
    (G : xGoE l sc d r.2.2.1 0 (lv_args 0 q.1) [] h ev h1) (ht : xhnd mi pc ev = some t)
    (k : ∀ (la' : Array Slot) (H' : Heap) (locs' : List Loc) (cells' slots' : Nat), lv_has la' (xme mi).2.2.1 ((ls.filter fun z => !(z.1 == t.2) && !(z.1 + 1 == t.2 && z.2.category == 2)).map (xtv b scr)) → xwd D K b scr s C0 S0 h1.1 h1.2 H' locs' cells' slots' → W p l e R s m args below meth c H' locs' cells' slots' Q (F0 m t.1 la' [])) :
    W p l e R s m args below meth c H locs cells slots Q (F0 m pc la (st.map (xv b scr))) := by
  obtain ⟨hx, hb, hml, hown, hts, hK, hX, hsb, hbs, hnm, hrt, hlk, hex⟩ := id cx
  obtain ⟨w1, w2, w3, w4, w5, hP, hS⟩ := id hw
  have hcls : (xme mi).1.cls = "TermReaderLaw" := by
    have h9 : ∀ i, i < 6 → (xme (214 + i)).1.cls = "TermReaderLaw" := by decide +kernel
    have h8 := h9 (mi - 214) (by omega)
    rwa [show 214 + (mi - 214) = mi by omega] at h8
  have hck := hCk_of hmi1 hmi2 hrow
  unfold hCk at hck
  rw [if_pos hkd] at hck
  split at hck
  rotate_left
  · cases hck
  rename_i ix hri
  simp only [Bool.and_eq_true, decide_eq_true_eq] at hck
  obtain ⟨hce, hrk0⟩ := hck
  obtain ⟨f1, f2, f3, f4, f5⟩ := xmi_facts (mi := r.2.2.1) (by omega)
  have w3' : slots + S0 = xsn h := w3
  have w2' : cells + C0 = xcn h := w2
  obtain ⟨m1, m2⟩ := hmono
  have hne : ∀ {a : Nat} {e0 : xC}, h.1[a]? = some e0 → ¬ a = xscr := fun {a} {e0} ha h9 => by
    have := (List.getElem?_eq_some_iff.mp ha).1
    rw [h9] at this
    simp only [xscr] at this
    omega
  have hsl0 := xcall_sl hq
  unfold xcall at hq
  split at hq
  rotate_left
  · cases hq
  rename_i hlen
  split at hq
  rotate_left
  · cases hq
  rename_i hcat
  split at hq
  rotate_left
  · cases hq
  rename_i hrecv
  split at hq
  rotate_left
  · cases hq
  rename_i hslo
  cases hq
  have hAl : (st.take r.2.2.2.1).reverse.length = r.2.2.2.1 := by simp [List.length_take]; omega
  dsimp only at G hsl0
  generalize hAe : (st.take r.2.2.2.1).reverse = Args at hrecv hslo G hAl hsl0
  have hst : st.map (xv b scr) = (Args.map (xv b scr)).reverse ++ (st.drop r.2.2.2.1).map (xv b scr) := by
    rw [← hAe, List.map_reverse, List.reverse_reverse, ← List.map_append, List.take_append_drop]
  have hcat2 : (((st.drop r.2.2.2.1).map (xv b scr)).map fun v => v.category).sum ≤ 8 := by
    rw [List.map_map]
    simpa [Function.comp_def, xv_cat] using hcat
  generalize hRe : st.drop r.2.2.2.1 = rest at hst hcat2
  obtain ⟨i, len, r1, r2, r3, rv, rk, sw⟩ := r
  dsimp only at hri hce hrk0 f1 f2 f3 f4 f5 G hAl hsl0 hrecv hslo
  subst hri hrk0
  simp only [xok, Bool.and_eq_true, decide_eq_true_eq] at hok
  obtain ⟨hdec, hlen2, hok⟩ := hok
  simp only [xlen, Bool.or_eq_true, beq_iff_eq] at hlen2
  obtain rfl : len = 3 := by omega
  simp only [xokI, if_pos (show r1 < 1000 by omega), Bool.and_eq_true, decide_eq_true_eq] at hok
  obtain ⟨o1, o2, o3, o4, o5, hni⟩ := hok
  obtain ⟨g1, g2, g3, g4⟩ := xmi_inst (mi := r1) (by omega) o5
  unfold xrecv at hrecv
  rw [if_neg o5] at hrecv
  split at hrecv
  rotate_left
  · cases hrecv
  rename_i a As
  split at hrecv
  rotate_left
  · cases hrecv
  rename_i cj fs hA
  have hcj : cj = (xme r1).2.2.2.2.1 := of_decide_eq_true hrecv
  subst hcj
  have hfa : xv b scr (.ref a) = .ref (b + a) := by show Value.ref (if a = xscr then scr else b + a) = _; rw [if_neg (hne hA)]
  have hst2 : st.map (xv b scr) = (As.map (xv b scr)).reverse ++ Value.ref (b + a) :: rest.map (xv b scr) := by
    rw [hst, List.map_cons, hfa, List.reverse_cons, List.append_assoc]
    rfl
  have hrv := va_recv hK hP (xcl_get g3) (xw_at (K := K) (b := b) (scr := scr) hA)
  rw [← g2] at hrv
  obtain ⟨cellB, hcB, hoB, hclB⟩ := hrv
  have hlink : (Cond.methodLink (xme mi).1.cls ix (xme r1).1).before args s = true := by
    unfold xlink at o2
    rw [if_pos rfl] at o2
    exact hts _ (xhas_in o2)
  obtain ⟨mk, methM, hnamed, hmethM, hstM, habM⟩ := Cond.instanceMethod_spec (hts _ g1)
  obtain ⟨methM', cM, hmethM', hcM, hbM, hlM, hrM, hlkM, -, hsigM⟩ := Cond.code_spec hnamed (hts _ (xws_good hce _ List.mem_cons_self).1)
  cases hmethM.symm.trans hmethM'
  obtain ⟨c2, rr2, mm2, q1, q2, q3, q4, kP, hkP, hkPi⟩ := Cond.selects_spec (hts _ (g4 hni))
  cases hclB.symm.trans q1
  cases (State.methodFound?_of_named hnamed ⟨f2, f3⟩).symm.trans q2
  cases hnamed.symm.trans q3
  have hpar : (As.map (xv b scr)).length = methM.sig.parameters.length := by
    simp only [xpar, decide_eq_true_eq, hsigM, Option.map_some, Option.some.injEq] at o4
    simp only [List.length_cons] at hAl
    simp only [List.length_map]
    omega
  obtain ⟨z0, hz0, hzq⟩ := xhnd_of ht
  obtain ⟨z, hz, rfl⟩ := e5_all z0 hz0
  obtain ⟨y1, y2, y3, y4, y5⟩ := hzq
  obtain ⟨t1, t2, t3, t4, t5⟩ := e5_t z hz
  intro T hT X
  have hselP : selectMethod e.platform s.vm cellB.cls mk = .method mk := by rw [Launch.admits_selectMethod X.admits]; exact q4
  obtain ⟨vm₁, X₁, hstep₁⟩ := X.invokevirtual hx hown hlink hnamed hmethM hstM hkP hkPi ⟨f2, f3⟩ (a := b + a) (cell := cellB) (by rw [hT]; exact hcB)
    (fun zz h => by rw [h] at hoB; cases hoB) hselP hmethM habM hkP hkPi (g := F0 m pc la (st.map (xv b scr))) rfl (argsL := As.map (xv b scr)) (rest := rest.map (xv b scr)) hpar hst2 (by rw [hb]; exact hdec)
  obtain ⟨Y, hY, hYh, hdo, cxk, hnk, hwk⟩ := x_into (ci := r1) (d := d) (mc := xcn h1 - xcn h) (ms := xsn h1 - xsn h) (Value.ref (b + a) :: As.map (xv b scr)).toArray X₁ hT cx hw (g := F0 m pc la (rest.map (xv b scr))) rfl (hl.1.trans hml.symm) (by rw [hb]; exact hdec) hnamed hmethM hcM hbM hlM hrM hlkM (by omega) (lv_room hcat2) hd hlo (by omega) (by omega)
  have hal : (Value.ref (b + a) :: As.map (xv b scr)) = (Value.ref a :: As).map (xv b scr) := by rw [List.map_cons, hfa]
  have hle := lv_entry ((Value.ref a :: As).map (xv b scr)) (n := (xme r1).2.2.1) (by rw [xsl_map]; exact hsl0)
  rw [xargs_map] at hle
  have GW := G p e (xRm d (xcn h1 - xcn h) (xsn h1 - xsn h)) _ mk _ (.java (F0 m pc la (rest.map (xv b scr))) :: below) methM cM D K b scr (xcn h) (xsn h) H [] 0 0 _ cxk hnk hle hwk (by show xcn h1 ≤ xcn h + (xcn h1 - xcn h); omega) (by show xsn h1 ≤ xsn h + (xsn h1 - xsn h); omega) (Nat.le_refl d) (Nat.le_refl (64 * d))
  obtain ⟨tt, st1, x, v1, v2, ⟨z1, z2, z3, z4, ce, z5, z6, z7⟩, L, v3, v4, v5⟩ := GW Y hYh hY
  obtain ⟨T', X2, u1, u2, u3⟩ := X₁.outOfThrown (g := F0 m pc la (rest.map (xv b scr))) rfl v2 v3 v4
  have hth : T'.heap = tt.heap := by rw [u3]; exact (Stand.throwing_heap ..).symm
  have hvm : T'.vm = tt.vm := by rw [u3]; exact (Stand.throwing_vm ..).symm
  rw [hcls] at hown
  obtain ⟨vm', n1, n2⟩ := x_find (z := z) (g := F0 m pc la (rest.map (xv b scr))) (x := x) (ce := ce) X2 hown hts hex rfl (by rw [y1]; exact htab) hz y2 y3 (by rw [hth]; exact z5) z6 (by rw [hvm, y4]; exact z7)
  have X3 := X2.noted n1
  have hw' : xwd D K b scr s C0 S0 h1.1 h1.2 T'.heap (locs ++ L) (cells + (xcn h1 - xcn h)) (slots + (xsn h1 - xsn h)) := by
    rw [hth]
    exact xwd_back hw m1 m2 z1 z2 z3 (fun zz hzz => by rw [z4 zz hzz]; show T.heap[zz]? = H[zz]?; rw [hT]) v5
  have hsub : ∀ y ∈ (ls.filter fun z => !(z.1 == t.2) && !(z.1 + 1 == t.2 && z.2.category == 2)).map (xtv b scr), y ∈ (t.2, Value.ref x) :: (ls.map (xtv b scr)).filter (fun q => !(q.1 == t.2) && !(q.1 + 1 == t.2 && q.2.category == 2)) := by
    intro y hy
    obtain ⟨zz, hzz, rfl⟩ := List.mem_map.mp hy
    obtain ⟨hz1, hz2⟩ := List.mem_filter.mp hzz
    exact List.mem_cons_of_mem _ (List.mem_filter.mpr ⟨List.mem_map.mpr ⟨zz, hz1, rfl⟩, by simpa [xtv, xv_cat] using hz2⟩)
  have y6 : z.1.2.2.2.2.1 = t.1 := congrArg Prod.fst y5
  have y7 : z.1.2.2.2.2.2 = t.2 := congrArg Prod.snd y5
  rw [y1, y7] at t5
  have Wk : W p l e R s m args below meth c T'.heap (locs ++ L) (cells + (xcn h1 - xcn h)) (slots + (xsn h1 - xsn h)) Q (F0 m z.2.2.2 la [.ref x]) := by
    rcases e5_d z hz with ⟨dd, dt⟩ | ⟨hlt, dd, dt⟩
    · rw [y1, y7] at dd
      refine lv_astore hx hb dd hl t5 rfl (fun la2 hl2 => ?_)
      rw [← dt, y6]
      exact k la2 _ _ _ _ (lv_has_mono hl2 hsub) hw'
    · rw [y1] at dd
      refine lv_astore_n (i := t.2) hx hb dd y7 hl t5 rfl (fun la2 hl2 => ?_)
      rw [← dt, y6]
      exact k la2 _ _ _ _ (lv_has_mono hl2 hsub) hw'
  obtain ⟨u, s1, s2⟩ := Wk (T'.setVm vm') rfl X3
  refine ⟨u, hstep₁ _ (fun acts => ?_), s2⟩
  have hrun : Steps p.tables e below ((T'.setTop (F0 m pc la (rest.map (xv b scr)))).pushFrame (.throwing x)) u := xcaught (vm' := vm') X2.here n2 s1
  have hin : Steps p.tables e below (Y.setTop (entryFrame mk (Value.ref (b + a) :: As.map (xv b scr)).toArray (xme r1).2.2.1)) tt := by
    refine Steps.weaken (mid := [.java (F0 m pc la (rest.map (xv b scr)))]) ?_
    rw [lg_entry_eq, hal]
    exact st1
  have hdo' := hdo acts
  rw [u3] at hin
  rw [hdo']
  exact hin.trans hrun
end CT
