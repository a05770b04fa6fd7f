-- the law's helpers, and calls of them
section HL
variable {l : Launch}
def xGoH (l : Launch) (sc : xSc) (d mi pc : Nat) (ls : xL) (st : List Value) (h : xH) (v : Option Value) (h' : xH) : Prop :=
  ∀ (p : Program) (e : Env) (R : Room) (s : State) (m : MethodId) (args : Array Value) (below : List Frame) (meth : Method) (c : Code) (D : va_G) (K : xTy) (b scr C0 S0 : Nat) (H : Heap) (locs : List Loc) (cells slots : Nat) (la : Array Slot),
    xcx D K b scr sc mi p s m args meth c → c.exceptionTable.toList = tableOf (xhl mi) → lv_has la (xme mi).2.2.1 (ls.map (xtv b scr)) → xwd D K b scr s C0 S0 h.1 h.2 H locs cells slots → xcn h' ≤ C0 + R.cells → xsn h' ≤ S0 + R.slots → d ≤ R.frames → 64 * d ≤ R.locals →
    W p l e R s m args below meth c H locs cells slots (MQ below (xQc D K b scr v h') args s R.cells R.slots (fun q => b ≤ q)) (F0 m pc la (st.map (xv b scr)))
set_option maxHeartbeats 4000000 in
/-- SOUND, for the helpers -/
theorem xr_soundH (hf : l.flags = flags0) (sc : xSc) : ∀ (n d mi pc : Nat) (ls : xL) (st : List Value) (h : xH) (v : Option Value) (h' : xH), 214 ≤ mi → mi < 220 → xr sc n d mi pc ls st h = some (.inl v, h') → xGoH l sc d mi pc ls st h v h'
  | 0, _, _, _, _, _, _, _, _, _, _, hr => by cases hr
  | n + 1, d, mi, pc, ls, st, h, v, h', hmi, hmi2, hr => by
    intro p e R s m args below meth c D K b scr C0 S0 H locs cells slots la cx htab hl hw hc hsl hd hlo
    unfold xr at hr
    split at hr
    · cases hr
    · rename_i r hrow
      have hok : xok mi pc r = true := xall_row (xall_of (by omega)) hrow
      have hck := hCk_of hmi hmi2 hrow
      unfold hCk at hck
      split at hr
      · rename_i hk
        split at hr
        · cases hr
        · rename_i q hq
          have hm := xr_mono sc n _ _ _ _ _ _ _ _ hr
          refine xs_sound cx hok hq hl hw ⟨Nat.le_trans hm.1 hc, Nat.le_trans hm.2 hsl⟩ ⟨hd, hlo⟩ (fun la' H' locs' cells' slots' hl' hw' => ?_)
          exact xr_soundH hf sc n d mi _ _ _ _ _ _ hmi hmi2 hr p e R s m args below meth c D K b scr C0 S0 H' locs' cells' slots' la' cx htab hl' hw' hc hsl hd hlo
      · split at hr
        · cases hr
        · rename_i v1 hv
          cases hr
          exact xret_sound cx hok hv hw hc hsl
      · rename_i hk
        rw [if_pos hk] at hck
        have hce : r.2.2.1 < 214 := by
          split at hck
          · simp only [Bool.and_eq_true, decide_eq_true_eq] at hck
            exact hck.1
          · cases hck
        split at hr
        · cases hr
        · rename_i d'
          split at hr
          · cases hr
          · rename_i q hq
            split at hr
            · cases hr
            · rename_i v1 h1 hcal
              have a1 := xr_mono sc n _ _ _ _ _ _ _ _ hcal
              have a2 := xr_mono sc n _ _ _ _ _ _ _ _ hr
              have G := xr_sound (xOf_holds l) sc n d' _ _ _ _ _ _ _ hce hcal
              refine xcall_sound cx hok hk hce hq hw hl.1 a1 (Nat.le_trans a2.1 hc) (Nat.le_trans a2.2 hsl) hd hlo (xmet_of hce (xcall_sl hq) a1 G D K b scr) (fun H' locs' cells' slots' hw' => ?_)
              exact xr_soundH hf sc n (d' + 1) mi _ _ _ _ _ _ hmi hmi2 hr p e R s m args below meth c D K b scr C0 S0 H' locs' cells' slots' la cx htab hl hw' hc hsl hd hlo
            · rename_i ev h1 hcal
              split at hr
              · cases hr
              · rename_i t ht
                have a1 := xr_mono sc n _ _ _ _ _ _ _ _ hcal
                have a2 := xr_mono sc n _ _ _ _ _ _ _ _ hr
                have G := xr_soundE hf sc n d' _ _ _ _ _ _ _ hce hcal
                refine xcatch_sound cx hmi hmi2 htab hrow hok hk hq hl hw a1 (Nat.le_trans a2.1 hc) (Nat.le_trans a2.2 hsl) hd hlo G ht (fun la' H' locs' cells' slots' hl' hw' => ?_)
                exact xr_soundH hf sc n (d' + 1) mi _ _ _ _ _ _ hmi hmi2 hr p e R s m args below meth c D K b scr C0 S0 H' locs' cells' slots' la' cx htab hl' hw' hc hsl hd hlo
      · rename_i hk
        rw [if_neg (by rw [hk]; decide), hk] at hck
        cases hck
      · split at hr
        · split at hr
          · cases hr
          · cases hr
        · cases hr
end HL
set_option maxRecDepth 100000 in
theorem h_w : ∀ i, i < 6 → Cond.codeWith (xme (214 + i)).1 (xby (214 + i)) (xme (214 + i)).2.2.1 (xme (214 + i)).2.2.2.1 (xhl (214 + i)) ∈ xTb := by decide +kernel
theorem h_w' {ci : Nat} (h1 : 214 ≤ ci) (h2 : ci < 220) : Cond.codeWith (xme ci).1 (xby ci) (xme ci).2.2.1 (xme ci).2.2.2.1 (xhl ci) ∈ xTb := by
  have h9 := h_w (ci - 214) (by omega)
  rwa [show 214 + (ci - 214) = ci by omega] at h9
section HC
variable {p : Program} {l : Launch} {e : Env} {R : Room} {s : State} {m : MethodId} {args : Array Value} {below : List Frame} {meth : Method} {c : Code} {Q : State → Prop}
set_option maxHeartbeats 4000000 in
set_option maxRecDepth 100000 in
/-- the law calls a helper -/
theorem xhelp_sound {D : va_G} {K : xTy} {b scr : Nat} {sc : xSc} {C0 S0 d pc : Nat} {r : xRow} {st : List Value} {h h1 : xH} {q : List Value × List Value} {v : Option Value} {H : Heap} {locs : List Loc} {cells slots : Nat} {la : Array Slot}
    (cx : xcx D K b scr sc 220 p s m args meth c) (hrow : xrow 220 pc = some r) (hok : xok 220 pc r = true) (hkd : xkd r = 2) (hce1 : 214 ≤ r.2.2.1) (hce2 : r.2.2.1 < 220) (hq : xcall r st h.1 = some q) (hw : xwd D K b scr s C0 S0 h.1 h.2 H locs cells slots) (hsz : la.size = (xme 220).2.2.1)
    (hmono : xcn h ≤ xcn h1 ∧ xsn h ≤ xsn h1) (hc : xcn h1 ≤ C0 + R.cells) (hsl : xsn h1 ≤ S0 + R.slots) (hd : d + 1 ≤ R.frames) (hlo : 64 * (d + 1) ≤ R.locals)
    (G : xGoH l sc d r.2.2.1 0 (lv_args 0 q.1) [] h v h1)
    (k : ∀ (H' : Heap) (locs' : List Loc) (cells' slots' : Nat), xwd D K b scr s C0 S0 h1.1 h1.2 H' locs' cells' slots' → W p l e R s m args below meth c H' locs' cells' slots' Q (F0 m (pc + 3) la ((v.toList ++ q.2).map (xv b scr)))) :
    W p l e R s m args below meth c H locs cells slots Q (F0 m pc la (st.map (xv b scr))) := by
  obtain ⟨hx, hb, hml, hown, hts, hK, hX, hsb, hbs, hnm, hrt, hlk, hex⟩ := id cx
  obtain ⟨w1, w2, w3, w4, w5, hP, hS⟩ := id hw
  obtain ⟨f1, f2, f3, f4, f5⟩ := xmi_facts (mi := r.2.2.1) (by omega)
  have w3' : slots + S0 = xsn h := w3
  have w2' : cells + C0 = xcn h := w2
  obtain ⟨m1, m2⟩ := hmono
  have hck := lCk_of hrow
  unfold lCk at hck
  rw [if_pos hkd, if_neg (show ¬ r.2.2.1 < 214 by omega)] at hck
  split at hck
  rotate_left
  · cases hck
  rename_i ix hri
  have hsl0 := xcall_sl hq
  unfold xcall at hq
  split at hq
  rotate_left
  · cases hq
  rename_i hlen
  split at hq
  rotate_left
  · cases hq
  rename_i hcat
  split at hq
  rotate_left
  · cases hq
  rename_i hrecv
  split at hq
  rotate_left
  · cases hq
  rename_i hslo
  cases hq
  have hAl : (st.take r.2.2.2.1).reverse.length = r.2.2.2.1 := by simp [List.length_take]; omega
  dsimp only at G hsl0 k
  generalize hAe : (st.take r.2.2.2.1).reverse = Args at hslo G hAl hsl0
  have hst : st.map (xv b scr) = (Args.map (xv b scr)).reverse ++ (st.drop r.2.2.2.1).map (xv b scr) := by
    rw [← hAe, List.map_reverse, List.reverse_reverse, ← List.map_append, List.take_append_drop]
  have hcat2 : (((st.drop r.2.2.2.1).map (xv b scr)).map fun v => v.category).sum ≤ 8 := by
    rw [List.map_map]
    simpa [Function.comp_def, xv_cat] using hcat
  generalize hRe : st.drop r.2.2.2.1 = rest at hst hcat2 k
  obtain ⟨i, len, r1, r2, r3, rv, rk, sw⟩ := r
  dsimp only at hri hce1 hce2 f1 f2 f3 f4 f5 G hAl hsl0 hslo
  subst hri
  simp only [xok, Bool.and_eq_true, decide_eq_true_eq] at hok
  obtain ⟨hdec, hlen2, hok⟩ := hok
  simp only [xlen, Bool.or_eq_true, beq_iff_eq] at hlen2
  obtain rfl : len = 3 := by omega
  simp only [xokI, if_pos (show r1 < 1000 by omega), Bool.and_eq_true, decide_eq_true_eq] at hok
  obtain ⟨o1, o2, o4, o5⟩ := hok
  obtain ⟨mk, methM, cM, hnamed, hmethM, hcM, hbM, hlM, htM, hrM, hlkM, hsigM⟩ := Cond.codeWith_spec (hts _ (h_w' hce1 hce2))
  have hstatic : methM.isStatic = true := Cond.static_spec hnamed hmethM (hts _ (xmi_static (mi := r1) hce2 o5))
  obtain ⟨kP, hkP, -⟩ := className_of_methodNamed hnamed
  have hinitP : kP.init = .initialized := Cond.initialized_spec (findClass_of_methodNamed hnamed) hkP (hts _ f1)
  have hpar : (Args.map (xv b scr)).length = methM.sig.parameters.length := by
    simp only [xpar, decide_eq_true_eq, hsigM, Option.map_some, Option.some.injEq] at o4
    simp only [List.length_map]
    omega
  intro T hT X
  obtain ⟨vm₁, X₁, hstep₁⟩ := X.invokestatic hx hown (hts _ (xhas_in o2)) hnamed hmethM hstatic hkP hinitP ⟨f2, f3⟩ (g := F0 m pc la (st.map (xv b scr))) rfl (argsL := Args.map (xv b scr)) (rest := rest.map (xv b scr)) hpar hst (by rw [hb]; exact hdec)
  obtain ⟨Y, hY, hYh, hdo, cxk, hnk, hwk⟩ := x_into (ci := r1) (d := d) (mc := xcn h1 - xcn h) (ms := xsn h1 - xsn h) (Args.map (xv b scr)).toArray X₁ hT cx hw (g := F0 m pc la (rest.map (xv b scr))) rfl (hsz.trans hml.symm) (by rw [hb]; exact hdec) hnamed hmethM hcM hbM hlM hrM hlkM (by omega) (lv_room hcat2) hd hlo (by omega) (by omega)
  have hle := lv_entry (Args.map (xv b scr)) (n := (xme r1).2.2.1) (by rw [xsl_map]; exact hsl0)
  rw [xargs_map] at hle
  have GW := G p e (xRm d (xcn h1 - xcn h) (xsn h1 - xsn h)) _ mk _ (.java (F0 m pc la (rest.map (xv b scr))) :: below) methM cM D K b scr (xcn h) (xsn h) H [] 0 0 _ cxk (by rw [← htM, table_eq]) hle hwk (by show xcn h1 ≤ xcn h + (xcn h1 - xcn h); omega) (by show xsn h1 ≤ xsn h + (xsn h1 - xsn h); omega) (Nat.le_refl d) (Nat.le_refl (64 * d))
  obtain ⟨tt, st1, oc, v1, v2, ⟨z0, z1, z2, z3, z4⟩, L, ⟨-, v3, v4⟩, v5⟩ := GW Y hYh hY
  subst z0
  obtain ⟨T', X2, u1, u2, u3⟩ := X₁.outOf (g := F0 m pc la (rest.map (xv b scr))) rfl (by rw [hb]; exact hdec) v2 v3 v4
  have hth : T'.heap = tt.heap := by rw [u3]; rfl
  have hw' : xwd D K b scr s C0 S0 h1.1 h1.2 T'.heap (locs ++ L) (cells + (xcn h1 - xcn h)) (slots + (xsn h1 - xsn h)) := by
    rw [hth]
    exact xwd_back hw m1 m2 z1 z2 z3 (fun zz hzz => by rw [z4 zz hzz]; show T.heap[zz]? = H[zz]?; rw [hT]) v5
  have kk := k T'.heap (locs ++ L) _ _ hw'
  have hl2 : (v.toList ++ rest).map (xv b scr) = (v.map (xv b scr)).toList ++ rest.map (xv b scr) := by cases v <;> simp
  rw [hl2] at kk
  obtain ⟨u, s1, s2⟩ := kk T' rfl X2
  refine ⟨u, hstep₁ _ (fun acts => ?_), s2⟩
  have hin : Steps p.tables e below (Y.setTop (entryFrame mk (Args.map (xv b scr)).toArray (xme r1).2.2.1)) tt := by
    refine Steps.weaken (mid := [.java (F0 m pc la (rest.map (xv b scr)))]) ?_
    rw [lg_entry_eq]
    exact st1
  have hdo' := hdo acts
  rw [u3] at hin
  rw [hdo']
  exact hin.trans s1
end HC
