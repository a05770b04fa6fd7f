section XM2
variable {p : Program} {l : Launch} {e : Env} {R : Room} {s : State} {m : MethodId} {args : Array Value} {below : List Frame} {meth : Method} {c : Code} {Q : State → Prop}
set_option maxHeartbeats 4000000 in
set_option maxRecDepth 100000 in
/-- a call of a method that returns -/
theorem xcall_sound {D : va_G} {K : xTy} {b scr : Nat} {sc : xSc} {C0 S0 mi d pc : Nat} {r : xRow} {st : List Value} {h h1 : xH} {q : List Value × List Value} {v : Option Value} {H : Heap} {locs : List Loc} {cells slots : Nat} {la : Array Slot}
    (cx : xcx D K b scr sc mi p s m args meth c) (hok : xok mi pc r = true) (hkd : xkd r = 2) (hce : r.2.2.1 < 214) (hq : xcall r st h.1 = some q) (hw : xwd D K b scr s C0 S0 h.1 h.2 H locs cells slots) (hsz : la.size = (xme mi).2.2.1)
    (hmono : xcn h ≤ xcn h1 ∧ xsn h ≤ xsn h1) (hc : xcn h1 ≤ C0 + R.cells) (hsl : xsn h1 ≤ S0 + R.slots) (hd : d + 1 ≤ R.frames) (hlo : 64 * (d + 1) ≤ R.locals)
    (hM : Met l (xme r.2.2.1).1 (xws r.2.2.1) (xRm d (xcn h1 - xcn h) (xsn h1 - xsn h)) (xPc D K b scr sc h q.1) (xQc D K b scr v h1) (xcn h1 - xcn h) (xsn h1 - xsn h) (fun q => b ≤ q))
    (k : ∀ (H' : Heap) (locs' : List Loc) (cells' slots' : Nat), xwd D K b scr s C0 S0 h1.1 h1.2 H' locs' cells' slots' → W p l e R s m args below meth c H' locs' cells' slots' Q (F0 m (pc + 3) la ((v.toList ++ q.2).map (xv b scr)))) :
    W p l e R s m args below meth c H locs cells slots Q (F0 m pc la (st.map (xv b scr))) := by
  obtain ⟨hx, hb, hml, hown, hts, hK, hX, hsb, hbs, hnm, hrt, hlk, hex⟩ := id cx
  obtain ⟨w1, w2, w3, w4, w5, hP, hS⟩ := id hw
  obtain ⟨f1, f2, f3, f4, f5⟩ := xmi_facts (mi := r.2.2.1) (by omega)
  have w3' : slots + S0 = xsn h := w3
  have w2' : cells + C0 = xcn h := w2
  obtain ⟨m1, m2⟩ := hmono
  have hne : ∀ {a : Nat} {e0 : xC}, h.1[a]? = some e0 → ¬ a = xscr := fun {a} {e0} ha h9 => by
    have := (List.getElem?_eq_some_iff.mp ha).1
    rw [h9] at this
    simp only [xscr] at this
    omega
  unfold xcall at hq
  split at hq
  rotate_left
  · cases hq
  rename_i hlen
  split at hq
  rotate_left
  · cases hq
  rename_i hcat
  split at hq
  rotate_left
  · cases hq
  rename_i hrecv
  split at hq
  rotate_left
  · cases hq
  rename_i hslo
  cases hq
  have hAl : (st.take r.2.2.2.1).reverse.length = r.2.2.2.1 := by simp [List.length_take]; omega
  generalize hAe : (st.take r.2.2.2.1).reverse = Args at hrecv hslo hM hAl
  have hst : st.map (xv b scr) = (Args.map (xv b scr)).reverse ++ (st.drop r.2.2.2.1).map (xv b scr) := by
    rw [← hAe, List.map_reverse, List.reverse_reverse, ← List.map_append, List.take_append_drop]
  have hcat2 : (((st.drop r.2.2.2.1).map (xv b scr)).map fun v => v.category).sum ≤ 8 := by
    rw [List.map_map]
    simpa [Function.comp_def, xv_cat] using hcat
  generalize hRe : st.drop r.2.2.2.1 = rest at hst hcat2 k
  have hPU : ∀ U : State, U.heap = H → s.WarmedH U.vm → xPc D K b scr sc h Args (Args.map (xv b scr)).toArray U := fun U hU hW => by
    have hsc : H[scr]? = s.heap[scr]? := hS.2.1 scr (by omega) (by show ¬ b ≤ scr; omega)
    exact ⟨rfl, by rw [hU]; exact w4, w5, by rw [hU]; exact hP, va_K.moved hW.alike hK, by rw [hU]; exact (hX.kept hsc).moved hW.alike, hsb, xex_move hex hU (fun q hq => hS.2.1 q (by omega) (by show ¬ b ≤ q; omega)) hW⟩
  have hf : cells + (xcn h1 - xcn h) ≤ R.cells ∧ slots + (xsn h1 - xsn h) ≤ R.slots := by omega
  have hroom : (xRm d (xcn h1 - xcn h) (xsn h1 - xsn h)).frames + 1 ≤ R.frames ∧ 8 + ((xme r.2.2.1).2.2.1 + 11) + (xRm d (xcn h1 - xcn h) (xsn h1 - xsn h)).locals ≤ R.locals := by
    refine ⟨hd, ?_⟩
    show 8 + ((xme r.2.2.1).2.2.1 + 11) + 64 * d ≤ R.locals
    omega
  have fin : ∀ a : Array Value, va_Run p l e R s m args below meth c H locs cells slots (xcn h1 - xcn h) (xsn h1 - xsn h) (F0 m pc la (st.map (xv b scr))) (rest.map (xv b scr)) (xQc D K b scr v h1 a) (fun q => b ≤ q) → W p l e R s m args below meth c H locs cells slots Q (F0 m pc la (st.map (xv b scr))) := by
    intro a hr
    refine x_call hr (fun v' st₀ t L hst0 hL hQ => ?_)
    obtain ⟨q1, q2, q3, q4, q5⟩ := hQ
    have hv : v' = v.map (xv b scr) := Outcome.returned.inj q1
    subst hv
    have kk := k t.heap (locs ++ L) (cells + (xcn h1 - xcn h)) (slots + (xsn h1 - xsn h)) ⟨w1, by show _ = xcn h1; omega, by show _ = xsn h1; omega, q2, q3, q4, by rw [w1, q2]; omega, fun z hz hn => by
      have hz2 : z < b := by
        have : ¬ b ≤ z := hn
        omega
      rw [q5 z hz2, hst0]
      exact hS.2.1 z hz hn, fun z hz => by
      rcases List.mem_append.mp hz with hz | hz
      · exact hS.2.2 z hz
      · exact hL z hz⟩
    have hl2 : (v.toList ++ rest).map (xv b scr) = (v.map (xv b scr)).toList ++ rest.map (xv b scr) := by cases v <;> simp
    rw [hl2] at kk
    exact kk
  have hfix : CallFix p m c (xby mi) (xme mi).2.2.1 s args xTb (xme mi).1.cls := ⟨hx, hb, hml, hown, hts⟩
  obtain ⟨i, len, r1, r2, r3, rv, rk, sw⟩ := r
  simp only [xok, Bool.and_eq_true, decide_eq_true_eq] at hok
  obtain ⟨hdec, hlen2, hok⟩ := hok
  dsimp only at hce hAl hM fin hf hroom f1 f2 f3 f4 f5 hrecv hslo hPU hdec
  have cb : ∀ (ix n : Nat), xhas r3 (.methodLink (xme mi).1.cls ix (xme r1).1) = true → xpar (xme r1).1 n = true → CallB R s args (xme mi).1.cls ix (xme r1).1 (xme r1).2.1 (xme r1).2.2.1 (xme r1).2.2.2.1 (xws r1) (xRm d (xcn h1 - xcn h) (xsn h1 - xsn h)) (xcn h1 - xcn h) (xsn h1 - xsn h) n := fun ix n hlk2 hpar => by
    simp only [xpar, decide_eq_true_eq] at hpar
    exact callB_of (ws' := xTb) n hts (xws_good hce) rfl rfl rfl (hts _ f1) (hts _ (xhas_in hlk2)) ⟨f2, f3, hpar⟩ hroom
  cases i with
  | invokevirtual ix =>
    simp only [xlen, Bool.or_eq_true, beq_iff_eq] at hlen2
    obtain rfl : len = 3 := by omega
    simp only [xokI, if_pos (show r1 < 1000 by omega), Bool.and_eq_true, decide_eq_true_eq] at hok
    obtain ⟨o1, o2, o3, o4, o5, hni⟩ := hok
    obtain ⟨g1, g2, g3, g4⟩ := xmi_inst (mi := r1) (by omega) o5
    unfold xrecv at hrecv
    rw [if_neg o5] at hrecv
    split at hrecv
    · rename_i a As
      split at hrecv
      · rename_i cj fs hA
        have hcj : cj = (xme r1).2.2.2.2.1 := of_decide_eq_true hrecv
        subst hcj
        have hfa : xv b scr (.ref a) = .ref (b + a) := by show Value.ref (if a = xscr then scr else b + a) = _; rw [if_neg (hne hA)]
        have hst2 : st.map (xv b scr) = (As.map (xv b scr)).reverse ++ Value.ref (b + a) :: rest.map (xv b scr) := by
          rw [hst, List.map_cons, hfa, List.reverse_cons, List.append_assoc]
          rfl
        have hrv := va_recv hK hP (xcl_get g3) (xw_at (K := K) (b := b) (scr := scr) hA)
        rw [← g2] at hrv
        have hPV : PreV s H (xme r1).1.cls (b + a) (xPc D K b scr sc h (.ref a :: As)) (As.map (xv b scr)) := ⟨xPc_blind, hrv, fun U hU hW => by
          have := hPU U hU hW
          rw [List.map_cons, hfa] at this
          exact this⟩
        have hn : (As.map (xv b scr)).length = r2 - 1 := by
          simp only [List.length_cons] at hAl
          simp only [List.length_map]
          omega
        unfold xlink at o2
        split at o2
        · exact fin _ (va_runV hfix hM ⟨cb ix (r2 - 1) o2 o4, hts _ g1, hts _ (g4 hni)⟩ hPV rfl hn (by rw [hsz]) hst2 (lv_room hcat2) hdec hf)
        · simp only [xpar, decide_eq_true_eq] at o4
          have hnl : va_Nw (.methodLinkNest (xme mi).1.cls ix (xme r1).1 "TermReader") s := by
            obtain ⟨s0, a0, e1, e2, e3, e4, e5⟩ := hex
            exact va_Nw.warmM e3 (va_Nw.of rfl (e4 _ (List.mem_of_getElem? (of_decide_eq_true o2))))
          exact fin _ (va_runVN hfix hM ⟨va_cnB (ws' := xTb) (r2 - 1) hts (xws_good hce) rfl rfl rfl hnl (hts _ f1) ⟨f2, f3, o4⟩ hroom, hts _ g1, hts _ (g4 hni)⟩ hPV rfl hn (by rw [hsz]) hst2 (lv_room hcat2) hdec hf)
      · cases hrecv
    · cases hrecv
  | invokespecial ix =>
    simp only [xlen, Bool.or_eq_true, beq_iff_eq] at hlen2
    obtain rfl : len = 3 := by omega
    simp only [xokI, if_pos (show r1 < 1000 by omega), Bool.and_eq_true, decide_eq_true_eq] at hok
    obtain ⟨o1, o2, o3, o4, o5, o6, o7⟩ := hok
    obtain ⟨g1, g2, g3, g4⟩ := xmi_inst (mi := r1) (by omega) o7
    unfold xrecv at hrecv
    rw [if_neg o7] at hrecv
    split at hrecv
    · rename_i a As
      split at hrecv
      · rename_i cj fs hA
        have hfa : xv b scr (.ref a) = .ref (b + a) := by show Value.ref (if a = xscr then scr else b + a) = _; rw [if_neg (hne hA)]
        have hst2 : st.map (xv b scr) = (As.map (xv b scr)).reverse ++ Value.ref (b + a) :: rest.map (xv b scr) := by
          rw [hst, List.map_cons, hfa, List.reverse_cons, List.append_assoc]
          rfl
        have hPS : PreS s H (xPc D K b scr sc h (.ref a :: As)) (.ref (b + a) :: As.map (xv b scr)) := ⟨xPc_blind, fun U hU hW => by
          have := hPU U hU hW
          rw [List.map_cons, hfa] at this
          exact this⟩
        have hn : (As.map (xv b scr)).length = r2 - 1 := by
          simp only [List.length_cons] at hAl
          simp only [List.length_map]
          omega
        have cb1 := cb ix (r2 - 1) o2 o4
        rw [o6] at cb1
        exact fin _ (va_runI hfix hM ⟨cb1, o5, hts _ g1⟩ hPS rfl hn (by rw [hsz]) hst2 (lv_room hcat2) hdec hf)
      · cases hrecv
    · cases hrecv
  | invokestatic ix =>
    simp only [xlen, Bool.or_eq_true, beq_iff_eq] at hlen2
    obtain rfl : len = 3 := by omega
    simp only [xokI, if_pos (show r1 < 1000 by omega), Bool.and_eq_true, decide_eq_true_eq] at hok
    obtain ⟨o1, o2, o4, o5⟩ := hok
    exact fin _ (va_runS hfix hM ⟨cb ix r2 o2 o4, hts _ (xmi_static (mi := r1) (by omega) o5)⟩ ⟨xPc_blind, hPU⟩ rfl (by simp only [List.length_map]; exact hAl) (by rw [hsz]) hst (lv_room hcat2) hdec hf)
  | _ => first
    | (simp [xkd] at hkd; done)
    | (simp only [xkd] at hkd; split at hkd <;> cases hkd)
end XM2
