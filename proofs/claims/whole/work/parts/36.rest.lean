-- Parser: on behind a term
theorem rst_dp {sl : List xSl} {T : Int → xSt → Option xRs} : ∀ (k : Nat) (most : Int) (y r : xRs), rst sl T k most y = some r → y.2.1 ≤ r.2.1
  | 0, most, y, r, h => by cases h
  | k + 1, most, (L, D, st, pr), r, h => by
    unfold rst at h
    split at h
    · cases h
    · cases ho : opB sl (tK (nx st.1)) with
      | none =>
        rw [ho] at h
        cases h
        exact Nat.le_refl _
      | some e =>
        rw [ho] at h
        dsimp only at h
        split at h
        · split at h
          · split at h
            · cases hr : T (oRight (some e)) ((nx st.1).2.2.2, st.2) with
              | none =>
                rw [hr] at h
                cases h
              | some z =>
                obtain ⟨R, DR, st', pr'⟩ := z
                rw [hr] at h
                have := rst_dp k most _ r h
                dsimp only at this ⊢
                omega
            · cases h
              exact Nat.le_refl _
          · have := rst_dp k most _ r h
            dsimp only at this ⊢
            omega
        · cases h
          exact Nat.le_refl _
theorem noR_deep {sl : List xSl} {T : Int → xSt → Option xRs} {k : Nat} {most : Int} {y : xRs} (h : 14 < y.2.1) : noR (rst sl T k most y) := by
  cases hr : rst sl T k most y with
  | none => exact Or.inl rfl
  | some r =>
    have := rst_dp k most y r hr
    exact Or.inr ⟨r, rfl, by omega⟩
section PR
variable {sc : xSc} {d g : Nat} {t nm : List Nat} {sl : List xSl} {u p v : Nat} {G : xG} {P : xO → xH → Prop}
set_option maxHeartbeats 4000000 in
set_option maxRecDepth 100000 in
theorem p_restLoop {e lv n : Nat} {x y : Int32} {most : Int} {A0 : List xC} {F0 : xF} {s0 : List Nat} (hd : 4 * e ≤ d) (IH : ∀ dd, 4 * e + 10 ≤ dd → xTmC sc dd g t nm sl u p v G e (lv + 1)) (h0 : nm0 nm) (hsl : ∀ e ∈ sl, ¬ e.1 = 0 ∧ 1 ≤ e.2.1 ∧ e.2.1 ≤ 1200) (h44 : ∀ e ∈ sl, e.1 = 44 → e.2.2 = 1) (hch : ∀ c ∈ t, 32 ≤ c ∧ c ≤ 126) (hx : x.toInt = most) (hbud : n + 2 * s0.length ≤ 840) (hs0 : s0.length ≤ 120) (hsx0 : sfx t s0) :
    ∀ (k i : Nat) (A : List xC) (F : xF) (a m : Nat) (L : List xIt) (D : Nat) (st : xSt) (pr : Nat), i + k = 120 → xGd A0 A t nm sl u p v G n F0 F a m (L, D, st, pr) → D ≤ 14 → rsI s0 (L, D, st, pr) → st.1.length + i + 1 ≤ s0.length →
    (∀ A', noR (rst sl (tmF sl e) k most (L, D, st, pr)) → xBd A0 A' t nm sl u p v G n F0 (e + 1) → P (.inl (some (.int (-1)))) (A', g)) →
    (∀ A' F' a' m' r, rst sl (tmF sl e) k most (L, D, st, pr) = some r → r.2.1 ≤ 14 → xGd A0 A' t nm sl u p v G n F0 F' a' m' r → P (.inl (some (.int (nI (n + r.1.length - 1))))) (A', g)) →
    xP sc (d + 13) 44 6 [(0, .ref 25), (1, .int y), (2, .int x), (3, .int (nI lv)), (4, .int (nI (n + L.length - 1))), (5, .int (nI i))] [] (A, g) P
  | 0, i, A, F, a, m, L, D, st, pr, hi, hg, hD, hI, hc, kb, ko => by omega
  | k + 1, i, A, F, a, m, L, D, st, pr, hi, hg, hD, hI, hc, kb, ko => by
    obtain ⟨hw, hta, htr, hdp, hnx, hag, hsm⟩ := id hg
    dsimp only at hw hta htr hdp hnx
    obtain ⟨hs, hn, ho, ht, hp, h25, hpr⟩ := id hw
    unfold xPa at h25
    obtain ⟨q1, q2, _⟩ := TA_E hta
    obtain ⟨i1, i2, i3, i4⟩ := id hI
    dsimp only at i1 i2 i3 i4
    have i1l := i1.len
    have hu := ht.1
    have hroot := htr.root
    have hsx : sfx t st.1 := hsx0.trans i1.sfx
    have hss : ∀ c ∈ st.1, 32 ≤ c ∧ c ≤ 126 := fun c hc => hch c (hsx.mem c hc)
    have h120 : (120 : Int32).toInt = 120 := rfl
    have hm1 : (-1 : Int32).toInt = -1 := rfl
    have hII : (nI i).toInt = (i : Int) := nI_toInt (by omega)
    have hpn := hp.1
    have hF := sI_none _ (fun j h => (fnd_lt ho (pre := false) (key := tK (nx st.1)) h).2)
    have hv := fun j h => (fnd_lt ho (pre := false) (key := tK (nx st.1)) (i := j) h).1
    have tk := nx_tk2 q2
    have tkl := tk.len
    obtain ⟨w1, ew1, hw1⟩ := nx_sfx q2
    have hrl : (nx st.1).2.2.2.length + 1 ≤ st.1.length := by
      have := congrArg List.length ew1
      rw [List.length_append] at this
      omega
    have eq0 : rst sl (tmF sl e) (k + 1) most (L, D, st, pr) = (match opB sl (tK (nx st.1)) with
      | none => some (L, D, st, pr)
      | some e1 => if (e1.2.1 : Int) ≤ most ∧ (pr : Int) ≤ oLeft (some e1) then
          (if oInf (some e1) = true then (if bgn (nx (nx st.1).2.2.2) = true then (match tmF sl e (oRight (some e1)) ((nx st.1).2.2.2, st.2) with
              | none => none
              | some (R, DR, st', _) => rst sl (tmF sl e) k most ((3, 0, nmOf (nx st.1), 2) :: (L ++ R), max D DR + 1, st', e1.2.1)) else some (L, D, st, pr))
          else rst sl (tmF sl e) k most ((3, 0, (nx st.1).2.2.1, 1) :: L, D + 1, ((nx st.1).2.2.2, st.2), e1.2.1))
        else some (L, D, st, pr)) := by
      conv => lhs; unfold rst
      rw [if_neg (by omega)]
      rfl
    have stay : rst sl (tmF sl e) (k + 1) most (L, D, st, pr) = some (L, D, st, pr) → ∀ x6 x7, xP sc (d + 13) 44 114 [(0, .ref 25), (1, .int y), (2, .int x), (3, .int (nI lv)), (4, .int (nI (n + L.length - 1))), (5, .int (nI i)), (6, .int x6), (7, .int x7)] [] (A, g) P := by
      intro hst x6 x7
      repeat' first
        | refine xP_s rfl rfl rfl ?_
        | refine xP_ret rfl rfl rfl ?_
      exact ko A F a m _ hst hD hg
    have nofit : rst sl (tmF sl e) (k + 1) most (L, D, st, pr) = some (L, D, st, pr) → ∀ x6, xP sc (d + 13) 44 78 [(0, .ref 25), (1, .int y), (2, .int x), (3, .int (nI lv)), (4, .int (nI (n + L.length - 1))), (5, .int (nI i)), (6, .int x6)] [] (A, g) P := by
      intro hst x6
      have go := stay hst x6 0
      repeat' first
        | exact go
        | refine xP_s rfl rfl rfl ?_
    refine xP_s rfl rfl rfl ?_
    refine xP_s rfl rfl rfl ?_
    refine xP_s rfl rfl rfl ?_
    refine xP_if (fun hc => ?_) (fun hc => ?_)
    · have := xc_t hc
      dsimp only at this
      omega
    · refine xP_s rfl rfl rfl ?_
      refine xP_s rfl rfl rfl ?_
      refine xP_s rfl rfl rfl ?_
      refine xP_if (fun hc => ?_) (fun hc => ?_)
      · exact absurd (xc_t hc) (nI_neg1 (by omega))
      · refine xP_s rfl rfl rfl ?_
        refine xP_get rfl h25 rfl ?_
        refine xP_s rfl rfl rfl ?_
        refine xP_get rfl h25 rfl ?_
        refine xP_s rfl rfl rfl ?_
        refine xP_get rfl h25 rfl ?_
        refine xP_cv rfl rfl rfl rfl rfl ht.2.1 (p_tkey ht (by omega) ?_)
        rw [if_pos q1, TA_key hta]
        refine xP_cv rfl rfl rfl rfl rfl ho.obj (p_behind ho ?_)
        refine xP_s rfl rfl rfl ?_
        refine xP_s rfl rfl rfl ?_
        refine xP_s rfl rfl rfl ?_
        refine xP_s rfl rfl rfl ?_
        unfold opB at eq0
        refine xP_if (fun hc => ?_) (fun hc => ?_)
        · have z := xc_t hc
          dsimp only at z
          rw [hm1, hF] at z
          rw [z] at eq0 ⊢
          exact nofit eq0 _
        · have z := xc_f hc
          dsimp only at z
          rw [hm1, hF] at z
          cases hf : fnd false (tK (nx st.1)) sl 0 with
          | none => exact absurd hf z
          | some j =>
            have hj := hv j hf
            obtain ⟨en, hen⟩ : ∃ en, sl[j]? = some en := ⟨sl[j]'hj, List.getElem?_eq_getElem hj⟩
            have hsE : slE sl (some j) = some en := hen
            have hent := hsl en (List.mem_of_getElem? hen)
            have hEn : (nI en.2.1).toInt = (en.2.1 : Int) := nI_toInt (by omega)
            have hPr : (nI pr).toInt = (pr : Int) := nI_toInt (by omega)
            have hvj : ∀ i, some j = some i → i < sl.length := fun i h => Option.some.inj h ▸ hj
            have hkk : (nx st.1).1 = 1 ∨ (nx st.1).1 = 5 := by
              obtain ⟨_, e', g1, g2, _⟩ := fnd_some hf
              have hne := (hsl e' (List.mem_of_getElem? g1)).1
              rw [g2] at hne
              unfold tK at hne
              rcases Nat.eq_or_lt_of_le (Nat.zero_le (nx st.1).1) with g | g
              · rw [if_neg (by omega), if_neg (by omega)] at hne
                exact absurd rfl hne
              · by_cases c1 : (nx st.1).1 = 1
                · exact Or.inl c1
                · by_cases c5 : (nx st.1).1 = 5
                  · exact Or.inr c5
                  · rw [if_neg c1, if_neg (by omega)] at hne
                    exact absurd rfl hne
            rw [hf, hsE] at eq0
            dsimp only at eq0
            refine xP_s rfl rfl rfl ?_
            refine xP_get rfl h25 rfl ?_
            refine xP_s rfl rfl rfl ?_
            refine xP_cv rfl rfl rfl rfl rfl ho.obj (p_priority (o := some j) ho hvj ?_)
            rw [hsE]
            refine xP_s rfl rfl rfl ?_
            refine xP_s rfl rfl rfl ?_
            refine xP_if (fun hc => ?_) (fun hc => ?_)
            · have z2 := xc_t hc
              dsimp only [slP] at z2
              rw [if_neg (fun q => by omega)] at eq0
              exact nofit eq0 _
            · have z2 := xc_f hc
              dsimp only [slP] at z2
              refine xP_s rfl rfl rfl ?_
              refine xP_get rfl h25 rfl ?_
              refine xP_s rfl rfl rfl ?_
              refine xP_get rfl h25 rfl ?_
              refine xP_s rfl rfl rfl ?_
              refine xP_cv rfl rfl rfl rfl rfl ho.obj (p_leftMost (o := some j) ho hvj (fun xl hxl => ?_))
              rw [hsE] at hxl
              refine xP_s rfl rfl rfl ?_
              refine xP_if (fun hc => ?_) (fun hc => ?_)
              · have z3 := xc_t hc
                dsimp only at z3
                rw [if_neg (fun q => by omega)] at eq0
                exact nofit eq0 _
              · have z3 := xc_f hc
                dsimp only at z3
                rw [if_pos ⟨by omega, by omega⟩] at eq0
                -- behind a step: the priority, and around
                have fail : ∀ (A2 : List xC) (n2 : Nat) (F2 : xF) (a2 pr2 : Nat), xWd A2 t nm sl u p v G n2 F2 a2 pr2 → P (.inl (some (.int (-1)))) (A2.set 25 (.inr (3, [.ref 18, .ref 7, .ref 11, .int (nI a2), .int (nI en.2.1)])), g) → xP sc (d + 13) 44 147 [(0, .ref 25), (1, .int y), (2, .int x), (3, .int (nI lv)), (4, .int (nI (n + L.length - 1))), (5, .int (nI i)), (6, .int (sI (some j))), (7, .int 1)] [.int (-1)] (A2, g) P := by
                  intro A2 n2 F2 a2 pr2 hw2 hP
                  obtain ⟨ys, yn, yo, yt, yp, y25, ypr⟩ := id hw2
                  unfold xPa at y25
                  have hI1 : (nI (i + 1)).toInt = ((i + 1 : Nat) : Int) := nI_toInt (by omega)
                  refine xP_s rfl rfl rfl ?_
                  refine xP_s rfl rfl rfl ?_
                  refine xP_s rfl rfl rfl ?_
                  refine xP_get rfl y25 rfl ?_
                  refine xP_s rfl rfl rfl ?_
                  refine xP_cv rfl rfl rfl rfl rfl yo.obj (p_priority (o := some j) yo hvj ?_)
                  rw [hsE]
                  refine xP_put rfl y25 (Nat.le_of_ble_eq_true rfl) rfl ?_
                  refine xP_s rfl rfl rfl ?_
                  refine xP_s rfl rfl rfl ?_
                  refine xP_s rfl rfl rfl ?_
                  refine xP_s rfl rfl rfl ?_
                  refine xP_s rfl rfl rfl ?_
                  refine xP_if (fun hc => ?_) (fun hc => ?_)
                  · repeat' first
                      | refine xP_s rfl rfl rfl ?_
                      | refine xP_ret rfl rfl rfl ?_
                    exact hP
                  · repeat' first
                      | refine xP_s rfl rfl rfl ?_
                      | refine xP_ret rfl rfl rfl ?_
                    exact hP
                have good : ∀ (A2 : List xC) (F2 : xF) (a2 m2 : Nat) (L2 : List xIt) (D2 : Nat) (st2 : xSt) (pr2 : Nat), D2 ≤ 14 → xWd A2 t nm sl u p v G (n + L2.length) F2 a2 pr2 → xTA t nm G u m2 a2 st2.1 st2.2 → xTr F2 nm D2 n (n + L2.length) L2 → F2.2.2.2.2.2 (n + L2.length - 1) = nI D2 → F2.2.2.2.2.1 (n + L2.length - 1) = -1 → xA0 F F2 n → xSame A A2 pL → rsI s0 (L2, D2, st2, en.2.1) → st2.1.length + (i + 1) + 1 ≤ s0.length → rst sl (tmF sl e) (k + 1) most (L, D, st, pr) = rst sl (tmF sl e) k most (L2, D2, st2, en.2.1) → xP sc (d + 13) 44 147 [(0, .ref 25), (1, .int y), (2, .int x), (3, .int (nI lv)), (4, .int (nI (n + L.length - 1))), (5, .int (nI i)), (6, .int (sI (some j))), (7, .int 1)] [.int (nI (n + L2.length - 1))] (A2, g) P := by
                  intro A2 F2 a2 m2 L2 D2 st2 pr2 hD2 hw2 hta2 htr2 hdp2 hnx2 hag2 hsm2 hI2 hl2 hreq
                  obtain ⟨ys, yn, yo, yt, yp, y25, ypr⟩ := id hw2
                  unfold xPa at y25
                  have hw3 := hw2.setA a2 en.2.1 hent.2.2
                  have s3 := xSame.set (A := A2) 25 (.inr (3, [.ref 18, .ref 7, .ref 11, .int (nI a2), .int (nI en.2.1)]))
                  rw [hreq] at kb ko
                  have go := p_restLoop (y := y) hd IH h0 hsl h44 hch hx hbud hs0 hsx0 k (i + 1) _ F2 a2 m2 L2 D2 st2 en.2.1 (by omega) ⟨hw3, hta2, htr2, hdp2, hnx2, hag.trans hag2 (Nat.le_refl _), ((hsm.trans hsm2).trans s3).wide (by decide)⟩ hD2 hI2 hl2 kb ko
                  rw [← nI_1 i] at go
                  have go1 := xP_more [(6, .int (sI (some j))), (7, .int 1)] rfl go
                  refine xP_s rfl rfl rfl ?_
                  refine xP_s rfl rfl rfl ?_
                  refine xP_s rfl rfl rfl ?_
                  refine xP_get rfl y25 rfl ?_
                  refine xP_s rfl rfl rfl ?_
                  refine xP_cv rfl rfl rfl rfl rfl yo.obj (p_priority (o := some j) yo hvj ?_)
                  rw [hsE]
                  refine xP_put rfl y25 (Nat.le_of_ble_eq_true rfl) rfl ?_
                  repeat' first
                    | exact go1
                    | refine xP_s rfl rfl rfl ?_
                refine xP_s rfl rfl rfl ?_
                refine xP_s rfl rfl rfl ?_
                refine xP_s rfl rfl rfl ?_
                refine xP_s rfl rfl rfl ?_
                refine xP_s rfl rfl rfl ?_
                refine xP_s rfl rfl rfl ?_
                refine xP_get rfl h25 rfl ?_
                refine xP_s rfl rfl rfl ?_
                refine xP_cv rfl rfl rfl rfl rfl ho.obj (p_isInfix (o := some j) ho hvj ?_)
                rw [hsE]
                cases hinf : oInf (some en)
                · -- behind its argument
                  rw [if_neg (by rw [hinf]; decide)] at eq0
                  have hk1 : (nx st.1).1 = 1 := by
                    rcases hkk with g | g
                    · exact g
                    · exfalso
                      obtain ⟨_, e', g1, g2, _⟩ := fnd_some hf
                      have ee : e' = en := by
                        rw [Nat.sub_zero, hen] at g1
                        exact (Option.some.inj g1).symm
                      subst ee
                      have hne := hent.1
                      rw [g2] at hne
                      have ht44 : tK (nx st.1) = 44 := by
                        unfold tK at hne ⊢
                        rw [if_neg (by omega)] at hne ⊢
                        split
                        · rfl
                        next c5 =>
                          rw [if_neg c5] at hne
                          exact absurd rfl hne
                      have h1 := h44 e' (List.mem_of_getElem? hen) (by rw [g2, ht44])
                      have : oInf (some e') = true := by
                        simp [oInf, slT, h1]
                      rw [this] at hinf
                      cases hinf
                  obtain ⟨m1, h1⟩ := TA_next hta (by omega)
                  have hvs : vsx st.2 (nx st.1) = st.2 := by unfold vsx; rw [if_neg (by omega)]
                  rw [hvs] at h1
                  refine xP_s rfl rfl rfl ?_
                  refine xP_s rfl rfl rfl ?_
                  refine xP_get rfl h25 rfl ?_
                  refine xP_s rfl rfl rfl ?_
                  refine xP_cv rfl rfl rfl rfl rfl ho.obj (p_isInfix (o := some j) ho hvj ?_)
                  rw [hsE, hinf]
                  refine xP_s rfl rfl rfl ?_
                  refine xP_s rfl rfl rfl ?_
                  refine xP_s rfl rfl rfl ?_
                  refine xP_cv rfl rfl rfl rfl rfl h25 (p_postfixed hw hta hk1 htr hdp ⟨i3, hD⟩ hnx (by omega) (fun c1 A2 x1 x2 => ?_) (fun c1 A2 F2 x1 x2 x3 x4 x5 x6 => ?_))
                  · refine fail A2 _ F _ _ x1 ?_
                    have hw3 := x1.setA (a + 1) en.2.1 hent.2.2
                    refine kb _ ?_ ⟨_, F, _, _, hw3, by omega, hag, by omega, ((hsm.trans x2).trans (xSame.set _ _)).wide (by decide)⟩
                    rw [eq0]
                    exact noR_deep (by dsimp only; omega)
                  · have go := good A2 F2 (a + 1) m1 ((3, 0, (nx st.1).2.2.1, 1) :: L) (D + 1) ((nx st.1).2.2.2, st.2) pr c1 x1 h1 x2 x3 x4 x5 x6 ⟨((i1.trans tk).le (by simp <;> omega)), by simp, by dsimp only; omega, hent.2.2⟩ (by dsimp only; omega) eq0
                    exact go
                · rw [if_pos hinf] at eq0
                  obtain ⟨m1, h1⟩ := TA_next hta (by omega)
                  have hvs : vsx st.2 (nx st.1) = st.2 := by unfold vsx; rw [if_neg (by omega)]
                  rw [hvs] at h1
                  have hsx1 : sfx t (nx st.1).2.2.2 := hsx.trans (nx_sfx' q2)
                  refine xP_s rfl rfl rfl ?_
                  refine xP_s rfl rfl rfl ?_
                  refine xP_get rfl h25 rfl ?_
                  refine xP_s rfl rfl rfl ?_
                  refine xP_get rfl h25 rfl ?_
                  refine xP_s rfl rfl rfl ?_
                  refine xP_s rfl rfl rfl ?_
                  rw [nI_1]
                  refine xP_cv rfl rfl rfl rfl rfl ht.2.1 (p_beginsTerm ht (by omega) ?_)
                  rw [TA_bgn h1 (fun c hc => hch c (hsx1.mem c hc))]
                  cases hbg : bgn (nx (nx st.1).2.2.2)
                  · rw [if_neg (by rw [hbg]; decide)] at eq0
                    have go := stay eq0 (sI (some j)) 1
                    repeat' first
                      | exact go
                      | refine xP_s rfl rfl rfl ?_
                  · rw [if_pos hbg] at eq0
                    refine xP_s rfl rfl rfl ?_
                    refine xP_s rfl rfl rfl ?_
                    refine xP_get rfl h25 rfl ?_
                    refine xP_s rfl rfl rfl ?_
                    refine xP_cv rfl rfl rfl rfl rfl ho.obj (p_isInfix (o := some j) ho hvj ?_)
                    rw [hsE, hinf]
                    refine xP_s rfl rfl rfl ?_
                    refine xP_s rfl rfl rfl ?_
                    refine xP_s rfl rfl rfl ?_
                    refine xP_s rfl rfl rfl ?_
                    refine xP_s rfl rfl rfl ?_
                    refine xP_cv rfl rfl rfl rfl rfl h25 (p_infixed (l1 := n) (D := D) (L := L) hd IH hw h0 hsl hta hsx hkk hen htr hdp ⟨i3, hD⟩ (by omega) (fun A2 z1 z2 => ?_) (fun A2 F2 a2 m2 r z1 z2 z3 z4 z5 z6 z7 z8 z9 => ?_))
                    · obtain ⟨n', F', a', pr', y1, y2, y3, y4, y5⟩ := z2
                      have hw3 := y1.setA a' en.2.1 hent.2.2
                      have fl := fail A2 n' F' a' pr' y1 (kb _ (by
                        rw [eq0]
                        rcases z1 with (z1 | ⟨⟨R, DR, st', pr'⟩, z1, z2⟩) | ⟨⟨R, DR, st', pr'⟩, z1, z2, z3⟩
                        · rw [z1]
                          exact Or.inl rfl
                        · rw [z1]
                          exact noR_deep (by dsimp only at z2 ⊢; omega)
                        · rw [z1]
                          exact noR_deep (by dsimp only at z3 ⊢; omega)) ⟨n', F', a', _, hw3, by omega, hag.trans y3 (Nat.le_refl _), by omega, ((hsm.trans y5).trans (xSame.set _ _)).wide (by decide)⟩)
                      repeat' first
                        | exact fl
                        | refine xP_s rfl rfl rfl ?_
                    · obtain ⟨R, DR, st', pr'⟩ := r
                      dsimp only at z2 z3 z4 z5 z6 z7
                      rw [z1] at eq0
                      dsimp only at eq0
                      have rI := tmF_I (fun e he => ⟨(hsl e he).1, (hsl e he).2.2⟩) e _ _ _ z1
                      obtain ⟨g1, g2, g3, g4⟩ := rI
                      dsimp only at g1 g2 g3 g4
                      have g1l := g1.len
                      have hl2 : ((3, 0, nmOf (nx st.1), 2) :: (L ++ R) : List xIt).length = L.length + R.length + 1 := by simp
                      have e1 : n + L.length + R.length + 1 = n + ((3, 0, nmOf (nx st.1), 2) :: (L ++ R) : List xIt).length := by rw [hl2]; omega
                      have e2 : n + L.length + R.length = n + ((3, 0, nmOf (nx st.1), 2) :: (L ++ R) : List xIt).length - 1 := by rw [hl2]; omega
                      rw [e1] at z3 z5
                      rw [e2] at z6 z7
                      have go := good A2 F2 a2 m2 _ (max D DR + 1) st' pr' z2 z3 z4 z5 z6 z7 z8 z9 ⟨((i1.trans tk).trans g1).le (by dsimp only; rw [hl2]; omega), by dsimp only; rw [hl2]; omega, by dsimp only; omega, hent.2.2⟩ (by
                        obtain ⟨ww, we, _⟩ := g1
                        have := congrArg List.length we
                        rw [List.length_append] at this
                        omega) eq0
                      rw [← e2] at go
                      dsimp only at go ⊢
                      repeat' first
                        | exact go
                        | refine xP_s rfl rfl rfl ?_
end PR
