-- Parser: lists, from their start
section PV
variable {sc : xSc} {d g : Nat} {t nm : List Nat} {sl : List xSl} {u p v : Nat} {G : xG} {P : xO → xH → Prop}
set_option maxHeartbeats 4000000 in
set_option maxRecDepth 100000 in
theorem p_listLoop {e lv n : Nat} {A0 : List xC} {F0 : xF} (he : e ≤ 11) (hd : 4 * e ≤ d) (IH : ∀ dd, 4 * e + 10 ≤ dd → xTmC sc dd g t nm sl u p v G e (lv + 1)) (h0 : nm0 nm) (hsl : ∀ e ∈ sl, ¬ e.1 = 0 ∧ 1 ≤ e.2.1 ∧ e.2.1 ≤ 1200) (hch : ∀ c ∈ t, 32 ≤ c ∧ c ≤ 126) :
    ∀ (k i : Nat) (A : List xC) (F : xF) (a m c pr : Nat) (x : Int32) (es : List (List xIt × Nat)) (st : xSt), i + k = 120 → xWd A t nm sl u p v G c F a pr → xBk F nm n es x c → es.length = i → xTA t nm G u m a st.1 st.2 → sfx t st.1 → c + i + 2 * st.1.length + 2 ≤ 840 → i + st.1.length ≤ 119 → xA0 F0 F n → xSame A0 A pL →
    (∀ A', (lst (tmF sl e) k st = none ∨ ∃ r, lst (tmF sl e) k st = some r ∧ 14 < wrD es r.2.1) → xBd A0 A' t nm sl u p v G n F0 (e + 1) → P (.inl (some (.int (-1)))) (A', g)) →
    (∀ A' F' a' m' pr' r, lst (tmF sl e) k st = some r → wrD es r.2.1 ≤ 14 → xWd A' t nm sl u p v G (n + (wrL es r.1).length) F' a' pr' → xTA t nm G u m' a' r.2.2.1 r.2.2.2 → xTr F' nm (wrD es r.2.1) n (n + (wrL es r.1).length) (wrL es r.1) → F'.2.2.2.2.2 (n + (wrL es r.1).length - 1) = nI (wrD es r.2.1) → F'.2.2.2.2.1 (n + (wrL es r.1).length - 1) = -1 → xA0 F0 F' n → xSame A0 A' pL → P (.inl (some (.int (nI (n + (wrL es r.1).length - 1))))) (A', g)) →
    xP sc (d + 11) 54 4 [(0, .ref 25), (1, .int (nI lv)), (2, .int x), (3, .int (nI i))] [] (A, g) P
  | 0, i, A, F, a, m, c, pr, x, es, st, hi, hw, hbk, hes, hta, hsx, hbud, hcc, hag, hsm, kb, ko => by omega
  | k + 1, i, A, F, a, m, c, pr, x, es, st, hi, hw, hbk, hes, hta, hsx, hbud, hcc, hag, hsm, kb, ko => by
    have h120 : (120 : Int32).toInt = 120 := rfl
    have hI : (nI i).toInt = (i : Int) := nI_toInt (by omega)
    have h25 := hw.2.2.2.2.2.1
    unfold xPa at h25
    have hu := hw.2.2.2.1.1
    have hnc := hbk.le
    have eq0 : lst (tmF sl e) (k + 1) st = (match tmF sl e 999 st with
      | none => none
      | some (E, DE, st', _) => if isMk st'.1 44 = true then (match lst (tmF sl e) k ((nx st'.1).2.2.2, st'.2) with
          | none => none
          | some (M, DM, st2) => some (dotP :: (E ++ M), max DE DM + 1, st2))
        else if isMk st'.1 124 = true then (match tmF sl e 999 ((nx st'.1).2.2.2, st'.2) with
          | none => none
          | some (M, DM, st2, _) => if isMk st2.1 93 = true then some (dotP :: (E ++ M), max DE DM + 1, ((nx st2.1).2.2.2, st2.2)) else none)
        else if isMk st'.1 93 = true then some (dotP :: (E ++ [nilP]), max DE 1 + 1, ((nx st'.1).2.2.2, st'.2)) else none) := by
      conv => lhs; unfold lst
      rfl
    refine xP_s rfl rfl rfl ?_
    refine xP_s rfl rfl rfl ?_
    refine xP_s rfl rfl rfl ?_
    refine xP_if (fun hc => ?_) (fun hc => ?_)
    · have := xc_t hc
      dsimp only at this
      omega
    · refine xP_s rfl rfl rfl ?_
      refine xP_s rfl rfl rfl ?_
      refine xP_s rfl rfl rfl ?_
      refine xP_s rfl rfl rfl ?_
      refine xP_s rfl rfl rfl ?_
      rw [nI_1]
      refine xP_cv rfl rfl rfl rfl rfl h25 (IH (d + 10) (by omega) A c F a pr m st.1 st.2 999 999 _ rfl (by omega) (by omega) hw hta hsx (by omega) (fun A2 z1 z2 => ?_) (fun A2 F2 a2 m2 r z1 z2 z3 => ?_))
      · obtain ⟨n', F', a', pr', y1, y2, y3, y4, y5⟩ := z2
        repeat' first
          | refine xP_s rfl rfl rfl ?_
          | refine xP_ret rfl rfl rfl ?_
        refine kb A2 ?_ ⟨n', F', a', pr', y1, by omega, hag.trans y3 hnc, by omega, (hsm.trans y5).wide (by decide)⟩
        rw [eq0]
        rcases z1 with z1 | ⟨⟨E, DE, st', pr1⟩, z1, z3⟩
        · rw [show tmF sl e 999 st = none from z1]
          exact Or.inl rfl
        · rw [show tmF sl e 999 st = some (E, DE, st', pr1) from z1]
          dsimp only at z3 ⊢
          split
          · cases hx : lst (tmF sl e) k ((nx st'.1).2.2.2, st'.2) with
            | none => exact Or.inl rfl
            | some r =>
              obtain ⟨M, DM, st2⟩ := r
              exact Or.inr ⟨_, rfl, by dsimp only; have := wrD_ge es (max DE DM + 1); omega⟩
          · split
            · cases hx : tmF sl e 999 ((nx st'.1).2.2.2, st'.2) with
              | none => exact Or.inl rfl
              | some r =>
                obtain ⟨M, DM, st2, pr2⟩ := r
                dsimp only
                split
                · exact Or.inr ⟨_, rfl, by dsimp only; have := wrD_ge es (max DE DM + 1); omega⟩
                · exact Or.inl rfl
            · split
              · exact Or.inr ⟨_, rfl, by dsimp only; have := wrD_ge es (max DE 1 + 1); omega⟩
              · exact Or.inl rfl
      · obtain ⟨E, DE, st', pr1⟩ := r
        obtain ⟨y1, y2, y3, y4, y5, y6, y7⟩ := z3
        dsimp only at z2 y1 y2 y3 y4 y5
        rw [show tmF sl e 999 st = some (E, DE, st', pr1) from z1] at eq0
        dsimp only at eq0
        have rI := tmF_I (fun e he => ⟨(hsl e he).1, (hsl e he).2.2⟩) e _ _ _ z1
        obtain ⟨i1, i2, i3, i4⟩ := rI
        dsimp only at i1 i2 i3 i4
        have i1l := i1.len
        have i1c : st'.1.length + 1 ≤ st.1.length := by
          obtain ⟨ww, we, wl⟩ := i1
          have := congrArg List.length we
          rw [List.length_append] at this
          omega
        obtain ⟨ys, yn, yo, yt, yp, y25, ypr⟩ := id y1
        unfold xPa at y25
        have hpn := yp.1
        have hsx2 : sfx t st'.1 := hsx.trans i1.sfx
        have hss2 : ∀ c ∈ st'.1, 32 ≤ c ∧ c ≤ 126 := fun c hc => hch c (hsx2.mem c hc)
        have cont : ∀ A3, xPt A3 (c + E.length) (F2.1, F2.2.1, F2.2.2.1, F2.2.2.2.1, upd F2.2.2.2.2.1 (c + E.length - 1) x, F2.2.2.2.2.2) → xSame A2 A3 [16] → xP sc (d + 11) 54 40 [(0, .ref 25), (1, .int (nI lv)), (2, .int x), (3, .int (nI i)), (4, .int (nI (c + E.length - 1)))] [] (A3, g) P := by
          intro A3 x1 x2
          have hw3 := y1.setP x1 (x2.wide (by decide))
          generalize hF3 : (F2.1, F2.2.1, F2.2.2.1, F2.2.2.2.1, upd F2.2.2.2.2.1 (c + E.length - 1) x, F2.2.2.2.2.2) = F3 at x1 hw3
          have a0 : xA0 F2 F3 (c + E.length - 1) := by
            rw [← hF3]
            exact fun j hj => ⟨rfl, rfl, rfl, rfl, pk_un (by omega), rfl⟩
          have ag : xAg F2 F3 c (c + E.length) := by
            rw [← hF3]
            exact fun j g1 g2 => ⟨rfl, rfl, rfl, rfl, fun g3 => pk_un (by omega)⟩
          have f3x : F3.2.2.2.2.1 (c + E.length - 1) = x := by
            rw [← hF3]
            exact pk_us
          have f3d : F3.2.2.2.2.2 (c + E.length - 1) = nI DE := by
            rw [← hF3]
            exact y4
          have bk3 : xBk F3 nm n ((E, DE) :: es) (nI (c + E.length - 1)) (c + E.length) := ⟨c, rfl, hnc, by omega, rfl, y3.frame0 ag, f3d, i3, z2, by rw [f3x]; exact (hbk.same y6).same (fun j hj => a0 j (by omega))⟩
          have hag3 : xA0 F0 F3 n := (hag.trans y6 hnc).trans a0 (by omega)
          have hsm3 : xSame A0 A3 pL := ((hsm.trans y7).trans x2).wide (by decide)
          obtain ⟨ws, wn, wo, wt, wp, w25, wpr⟩ := id hw3
          unfold xPa at w25
          -- with the tail M read
          have done : ∀ (A4 : List xC) (F4 : xF) (a4 m4 pr4 : Nat) (M : List xIt) (DM : Nat) (st4 : xSt), xWd A4 t nm sl u p v G (c + E.length + M.length) F4 a4 pr4 → xTA t nm G u m4 a4 st4.1 st4.2 → sfx t st4.1 → xTr F4 nm DM (c + E.length) (c + E.length + M.length) M → F4.2.2.2.2.2 (c + E.length + M.length - 1) = nI DM → F4.2.2.2.2.1 (c + E.length + M.length - 1) = -1 → 1 ≤ DM → DM ≤ 14 → xA0 F3 F4 (c + E.length) → xSame A3 A4 pL → c + E.length + M.length + i + 1 ≤ 840 → lst (tmF sl e) (k + 1) st = (if isMk st4.1 93 = true then some (dotP :: (E ++ M), max DE DM + 1, ((nx st4.1).2.2.2, st4.2)) else none) → xP sc (d + 11) 54 92 [(0, .ref 25), (1, .int (nI lv)), (2, .int (nI (c + E.length - 1))), (3, .int (nI i)), (4, .int (nI (c + E.length - 1)))] [.int (nI (c + E.length + M.length - 1))] (A4, g) P := by
            intro A4 F4 a4 m4 pr4 M DM st4 hw4 hta4 hsx4 htr4 hdp4 hnx4 hD1 hD14 ha4 hs4 hbud4 heq
            obtain ⟨vs', vn, vo, vt, vp, v25, vpr⟩ := id hw4
            unfold xPa at v25
            have hua4 := (TA_E hta4).1
            refine xP_s rfl rfl rfl ?_
            refine xP_s rfl rfl rfl ?_
            refine xP_s rfl rfl rfl ?_
            refine xP_cv rfl rfl rfl rfl rfl v25 (p_take (c := 93) hw4 hta4 (fun c hc => hch c (hsx4.mem c hc)) (by omega) (fun c1 => ?_) (fun c1 A5 m5 w1 w2 w3 => ?_))
            · rw [if_neg (by rw [c1]; decide)] at heq
              repeat' first
                | refine xP_s rfl rfl rfl ?_
                | refine xP_ret rfl rfl rfl ?_
              exact kb A4 (Or.inl heq) ⟨_, F4, a4, pr4, hw4, by omega, hag3.trans ha4 (by omega), by omega, (hsm3.trans hs4).wide (by decide)⟩
            · rw [if_pos c1] at heq
              have w25 := w1.2.2.2.2.2.1
              unfold xPa at w25
              have loop := p_listedLoop (sc := sc) (d := d) (g := g) (A0 := A0) (F0 := F0) (n := n) (y1 := nI (c + E.length - 1)) (y2 := nI (c + E.length + M.length - 1)) (P := fun o h1 => match o with
                | .inl v => xP sc (d + 11) 54 108 [(0, .ref 25), (1, .int (nI lv)), (2, .int (nI (c + E.length - 1))), (3, .int (nI (c + E.length + M.length - 1))), (4, .int (nI (c + E.length - 1)))] (v.toList ++ []) h1 P
                | .inr ev => ∃ tt, xhnd 54 105 ev = some tt ∧ xP sc (d + 11) 54 tt.1 (([(0, .ref 25), (1, .int (nI lv)), (2, .int (nI (c + E.length - 1))), (3, .int (nI (c + E.length + M.length - 1))), (4, .int (nI (c + E.length - 1)))] : xL).filter fun z => !(z.1 == tt.2) && !(z.1 + 1 == tt.2 && z.2.category == 2)) [] h1 P) h0 ((E, DE) :: es) 0 (c + E.length) (c + E.length + M.length) DM _ A5 F4 M (by rw [List.length_cons]; omega) w1 (bk3.same ha4) rfl htr4 hdp4 hD1 hD14 hnx4 (by rw [List.length_cons]; omega) (hag3.trans ha4 (by omega)) ((hsm3.trans (hs4.trans w3)).wide (by decide)) (fun hz A6 F6 c6 r1 r2 r3 r4 => by
                  repeat' first
                    | refine xP_s rfl rfl rfl ?_
                    | refine xP_ret rfl rfl rfl ?_
                  exact kb A6 (Or.inr ⟨_, heq, hz⟩) ⟨c6, F6, a4 + 1, pr4, r1, r2, r3, by omega, r4⟩) (fun hz A6 F6 r1 r2 r3 r4 r5 r6 => by
                  repeat' first
                    | refine xP_s rfl rfl rfl ?_
                    | refine xP_ret rfl rfl rfl ?_
                  exact ko A6 F6 (a4 + 1) m5 pr4 _ heq hz r1 w2 r2 r3 r4 r5 r6)
              refine xP_s rfl rfl rfl ?_
              refine xP_s rfl rfl rfl ?_
              refine xP_s rfl rfl rfl ?_
              refine xP_s rfl rfl rfl ?_
              refine xP_cv rfl rfl rfl rfl rfl w25 ?_
              unfold xM1
              repeat' first
                | exact loop
                | refine xP_s rfl rfl rfl ?_
          refine xP_s rfl rfl rfl ?_
          refine xP_s rfl rfl rfl ?_
          refine xP_s rfl rfl rfl ?_
          refine xP_s rfl rfl rfl ?_
          refine xP_cv rfl rfl rfl rfl rfl w25 (p_take (c := 44) hw3 y2 hss2 (by omega) (fun c1 => ?_) (fun c1 A4 m4 w1 w2 w3 => ?_))
          · rw [if_neg (by rw [c1]; decide)] at eq0
            refine xP_s rfl rfl rfl ?_
            refine xP_s rfl rfl rfl ?_
            refine xP_s rfl rfl rfl ?_
            refine xP_s rfl rfl rfl ?_
            refine xP_cv rfl rfl rfl rfl rfl w25 (p_take (c := 124) hw3 y2 hss2 (by omega) (fun c2 => ?_) (fun c2 A4 m4 w1 w2 w3 => ?_))
            · rw [if_neg (by rw [c2]; decide)] at eq0
              refine xP_s rfl rfl rfl ?_
              refine xP_s rfl rfl rfl ?_
              refine xP_get rfl w25 rfl ?_
              refine xP_s rfl rfl rfl ?_
              refine xP_s rfl rfl rfl ?_
              refine xP_cv rfl rfl rfl rfl rfl wp.2.1 (p_addAtom wp (fun hz => ?_) (fun hz A4 v1 v2 => ?_))
              · omega
              · have hw4 := hw3.setP v1 v2
                have tl : xTr (xAdd F3 (c + E.length) 2 1 2 (-1) 1) nm 1 (c + E.length) (c + E.length + 1) [nilP] := tr_leaf rfl (by decide) ⟨fun _ => rfl, fun h => by simp [nilP] at h, fun h => by simp [nilP] at h, fun _ => rfl⟩ (fun h => by simp [nilP] at h) (fun _ => ⟨1, rfl, rfl, h0.2.1⟩)
                have dn := done A4 _ a2 m2 pr1 [nilP] 1 st' hw4 y2 hsx2 tl pk_us pk_us (by omega) (by omega) (xA0_add _ _ _ _ _ _ _ (Nat.le_refl _)) (v2.wide (by decide)) (by simp; omega) eq0
                exact dn
            · rw [if_pos c2] at eq0
              have q5 := (isMk_k c2).1
              have tk := nx_tk2 (s := st'.1) (by omega)
              have tkl := tk.len
              have hsx4 : sfx t (nx st'.1).2.2.2 := hsx2.trans (nx_sfx' (by omega))
              have v25 := w1.2.2.2.2.2.1
              unfold xPa at v25
              refine xP_s rfl rfl rfl ?_
              refine xP_s rfl rfl rfl ?_
              refine xP_s rfl rfl rfl ?_
              refine xP_s rfl rfl rfl ?_
              refine xP_s rfl rfl rfl ?_
              refine xP_s rfl rfl rfl ?_
              rw [nI_1]
              refine xP_cv rfl rfl rfl rfl rfl v25 (IH (d + 10) (by omega) A4 (c + E.length) F3 (a2 + 1) pr1 m4 (nx st'.1).2.2.2 st'.2 999 999 _ rfl (by omega) (by omega) w1 w2 hsx4 (by omega) (fun A5 r1 r2 => ?_) (fun A5 F5 a5 m5 r r1 r2 r3 => ?_))
              · obtain ⟨n5, F5, a5, pr5, s1, s2, s3, s4, s5⟩ := r2
                have hno : lst (tmF sl e) (k + 1) st = none ∨ ∃ r, lst (tmF sl e) (k + 1) st = some r ∧ 14 < wrD es r.2.1 := by
                  rw [eq0]
                  rcases r1 with r1 | ⟨⟨M, DM, st2, pr2⟩, r1, r2⟩
                  · rw [r1]
                    exact Or.inl rfl
                  · rw [r1]
                    dsimp only at r2 ⊢
                    split
                    · exact Or.inr ⟨_, rfl, by dsimp only; have := wrD_ge es (max DE DM + 1); omega⟩
                    · exact Or.inl rfl
                have s25 := s1.2.2.2.2.2.1
                unfold xPa at s25
                have hag5 : xA0 F0 F5 n := hag3.trans s3 (by omega)
                have hsm5 : xSame A0 A5 pL := ((hsm3.trans w3).trans s5).wide (by decide)
                refine xP_s rfl rfl rfl ?_
                refine xP_s rfl rfl rfl ?_
                refine xP_s rfl rfl rfl ?_
                refine xP_s rfl rfl rfl ?_
                refine xP_cv rfl rfl rfl rfl rfl s25 (p_takeG s1 (by omega) (fun A6 a6 bb u1 u2 u3 => ?_))
                have hsm6 : xSame A0 A6 pL := (hsm5.trans u3).wide (by decide)
                have kf := kb A6 hno ⟨n5, F5, a6, pr5, u1, by omega, hag5, by omega, hsm6⟩
                cases bb
                · repeat' first
                    | refine xP_s rfl rfl rfl ?_
                    | refine xP_ret rfl rfl rfl ?_
                  exact kf
                · have u25 := u1.2.2.2.2.2.1
                  unfold xPa at u25
                  have fl := p_listedFail (sc := sc) (d := d) (g := g) (n := n) (y1 := nI (c + E.length - 1)) (y2 := -1) (P := fun o h1 => match o with
                    | .inl v => xP sc (d + 11) 54 108 [(0, .ref 25), (1, .int (nI lv)), (2, .int (nI (c + E.length - 1))), (3, .int (-1)), (4, .int (nI (c + E.length - 1)))] (v.toList ++ []) h1 P
                    | .inr ev => ∃ tt, xhnd 54 105 ev = some tt ∧ xP sc (d + 11) 54 tt.1 (([(0, .ref 25), (1, .int (nI lv)), (2, .int (nI (c + E.length - 1))), (3, .int (-1)), (4, .int (nI (c + E.length - 1)))] : xL).filter fun z => !(z.1 == tt.2) && !(z.1 + 1 == tt.2 && z.2.category == 2)) [] h1 P) u1 (by
                      repeat' first
                        | refine xP_s rfl rfl rfl ?_
                        | refine xP_ret rfl rfl rfl ?_
                      exact kf) ((E, DE) :: es) 0 (c + E.length) _ (by rw [List.length_cons]; omega) (bk3.same s3) s2
                  refine xP_s rfl rfl rfl ?_
                  refine xP_s rfl rfl rfl ?_
                  refine xP_s rfl rfl rfl ?_
                  refine xP_s rfl rfl rfl ?_
                  refine xP_cv rfl rfl rfl rfl rfl u25 ?_
                  unfold xM1
                  repeat' first
                    | exact fl
                    | refine xP_s rfl rfl rfl ?_
              · obtain ⟨M, DM, st2, pr2⟩ := r
                obtain ⟨s1, s2, s3, s4, s5, s6, s7⟩ := r3
                dsimp only at r2 s1 s2 s3 s4 s5
                rw [r1] at eq0
                dsimp only at eq0
                have rI2 := tmF_I (fun e he => ⟨(hsl e he).1, (hsl e he).2.2⟩) e _ _ _ r1
                obtain ⟨j1, j2, j3, j4⟩ := rI2
                dsimp only at j1 j2 j3 j4
                have j1l := j1.len
                have dn := done A5 F5 a5 m5 pr2 M DM st2 s1 s2 (hsx4.trans j1.sfx) s3 s4 s5 j3 r2 s6 ((w3.trans s7).wide (by decide)) (by omega) eq0
                repeat' first
                  | exact dn
                  | refine xP_s rfl rfl rfl ?_
          · rw [if_pos c1] at eq0
            have q5 := (isMk_k c1).1
            have tk := nx_tk2 (s := st'.1) (by omega)
            have tkl := tk.len
            have go := p_listLoop he hd IH h0 hsl hch k (i + 1) A4 F3 (a2 + 1) m4 (c + E.length) pr1 _ ((E, DE) :: es) ((nx st'.1).2.2.2, st'.2) (by omega) w1 bk3 (by rw [List.length_cons, hes]) w2 (hsx2.trans (nx_sfx' (by omega))) (by dsimp only; omega) (by dsimp only; omega) hag3 ((hsm3.trans w3).wide (by decide)) (fun A' r1 r2 => kb A' (by
              rw [eq0]
              rcases r1 with r1 | ⟨⟨M, DM, st2⟩, r1, r3⟩
              · rw [r1]
                exact Or.inl rfl
              · rw [r1]
                exact Or.inr ⟨_, rfl, r3⟩) r2) (fun A' F' a' m' pr' r r1 r2 r3 r4 r5 r6 r7 r8 r9 => by
              obtain ⟨M, DM, st2⟩ := r
              rw [r1] at eq0
              exact ko A' F' a' m' pr' _ eq0 r2 r3 r4 r5 r6 r7 r8 r9)
            rw [← nI_1 i] at go
            have go1 := xP_more [(4, .int (nI (c + E.length - 1)))] rfl go
            repeat' first
              | exact go1
              | refine xP_s rfl rfl rfl ?_
        refine xP_s rfl rfl rfl ?_
        refine xP_s rfl rfl rfl ?_
        refine xP_s rfl rfl rfl ?_
        refine xP_s rfl rfl rfl ?_
        refine xP_if (fun hc => ?_) (fun hc => ?_)
        · refine xP_s rfl rfl rfl ?_
          refine xP_get rfl y25 rfl ?_
          refine xP_s rfl rfl rfl ?_
          refine xP_s rfl rfl rfl ?_
          refine xP_cv rfl rfl rfl rfl rfl yp.2.1 (p_link (o := some (c + E.length - 1)) yp (fun i h => by have := Option.some.inj h; omega) (fun A3 x1 x2 => ?_))
          exact cont A3 x1 x2
        · exact absurd (xc_f hc) (nI_neg1 (show c + E.length - 1 < 2 ^ 31 by omega))
set_option maxRecDepth 100000 in
theorem p_list {e lv n m a pr : Nat} {A : List xC} {F : xF} {st : xSt} (he : e ≤ 11) (hd : 4 * e ≤ d) (IH : ∀ dd, 4 * e + 10 ≤ dd → xTmC sc dd g t nm sl u p v G e (lv + 1)) (h0 : nm0 nm) (hsl : ∀ e ∈ sl, ¬ e.1 = 0 ∧ 1 ≤ e.2.1 ∧ e.2.1 ≤ 1200) (hch : ∀ c ∈ t, 32 ≤ c ∧ c ≤ 126) (hw : xWd A t nm sl u p v G n F a pr) (hta : xTA t nm G u m a st.1 st.2) (hsx : sfx t st.1) (hbud : n + 2 * st.1.length + 2 ≤ 840) (hcc : st.1.length ≤ 119)
    (kb : ∀ A', (lst (tmF sl e) 120 st = none ∨ ∃ r, lst (tmF sl e) 120 st = some r ∧ 14 < r.2.1) → xBd A A' t nm sl u p v G n F (e + 1) → P (.inl (some (.int (-1)))) (A', g))
    (ko : ∀ A' F' a' m' pr' r, lst (tmF sl e) 120 st = some r → r.2.1 ≤ 14 → xWd A' t nm sl u p v G (n + r.1.length) F' a' pr' → xTA t nm G u m' a' r.2.2.1 r.2.2.2 → xTr F' nm r.2.1 n (n + r.1.length) r.1 → F'.2.2.2.2.2 (n + r.1.length - 1) = nI r.2.1 → F'.2.2.2.2.1 (n + r.1.length - 1) = -1 → xA0 F F' n → xSame A A' pL → P (.inl (some (.int (nI (n + r.1.length - 1))))) (A', g)) : xM1 sc (d + 11) 54 [.ref 25, .int (nI lv)] (A, g) P := by
  have go := p_listLoop (P := P) he hd IH h0 hsl hch 120 0 A F a m n pr (-1) [] st rfl hw ⟨rfl, rfl⟩ rfl hta hsx (by omega) (by omega) (xA0.refl _ _) (xSame.refl A pL) (fun A' z1 z2 => kb A' z1 z2) (fun A' F' a' m' pr' r z1 z2 z3 z4 z5 z6 z7 z8 z9 => ko A' F' a' m' pr' r z1 z2 z3 z4 z5 z6 z7 z8 z9)
  unfold xM1
  repeat' first
    | exact go
    | refine xP_s rfl rfl rfl ?_
end PV
