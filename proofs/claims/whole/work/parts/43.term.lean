-- Parser: a term, the whole
section PY
variable {sc : xSc} {d g : Nat} {t nm : List Nat} {sl : List xSl} {u p v : Nat} {G : xG} {P : xO → xH → Prop}
set_option maxRecDepth 100000 in
theorem p_restNone {A : List xC} {x y : Int32} (k : P (.inl (some (.int (-1)))) (A, g)) : xM1 sc d 44 [.ref 25, .int (-1), .int x, .int y] (A, g) P := by
  unfold xM1
  repeat' first
    | refine xP_s rfl rfl rfl ?_
    | refine xP_ret rfl rfl rfl ?_
  exact k
set_option maxHeartbeats 4000000 in
set_option maxRecDepth 100000 in
theorem p_term (h0 : nm0 nm) (hsl : ∀ e ∈ sl, ¬ e.1 = 0 ∧ 1 ≤ e.2.1 ∧ e.2.1 ≤ 1200) (h44 : ∀ e ∈ sl, e.1 = 44 → e.2.2 = 1) (hch : ∀ c ∈ t, 32 ≤ c ∧ c ≤ 126) (htl : t.length ≤ 120) : ∀ (e lv : Nat), lv + e = 11 → ∀ dd, 4 * e + 10 ≤ dd → xTmC sc dd g t nm sl u p v G e lv
  | 0, lv, hlv, dd, hdd => by
    intro A n F a pr m s vs x most P hx hm0 hm1 hw hta hsx hbud kb ko
    have h10 : (10 : Int32).toInt = 10 := rfl
    have hLV : (nI lv).toInt = (lv : Int) := nI_toInt (by omega)
    have hu := hw.2.2.2.1.1
    have hua := (TA_E hta).1
    unfold xM1
    refine xP_s rfl rfl rfl ?_
    refine xP_s rfl rfl rfl ?_
    refine xP_s rfl rfl rfl ?_
    refine xP_if (fun hc => ?_) (fun hc => ?_)
    · have := xc_t hc
      dsimp only at this
      omega
    · repeat' first
        | refine xP_s rfl rfl rfl ?_
        | refine xP_ret rfl rfl rfl ?_
      exact kb A (Or.inl rfl) ⟨n, F, a, pr, hw, Nat.le_refl _, xA0.refl _ _, by omega, xSame.refl _ _⟩
  | e + 1, lv, hlv, dd, hdd => by
    intro A n F a pr m s vs x most P hx hm0 hm1 hw hta hsx hbud kb ko
    obtain ⟨d, rfl⟩ : ∃ d, dd = d + 14 := ⟨dd - 14, by omega⟩
    have hd : 4 * e ≤ d := by omega
    have IH : ∀ dd, 4 * e + 10 ≤ dd → xTmC sc dd g t nm sl u p v G e (lv + 1) := fun dd h => p_term h0 hsl h44 hch htl e (lv + 1) (by omega) dd h
    have h10 : (10 : Int32).toInt = 10 := rfl
    have hLV : (nI lv).toInt = (lv : Int) := nI_toInt (by omega)
    have hu := hw.2.2.2.1.1
    have hua := (TA_E hta).1
    have h25 := hw.2.2.2.2.2.1
    unfold xPa at h25
    have hs120 : s.length ≤ 120 := by
      have := hsx.drop.2
      omega
    have eqT : tmF sl (e + 1) most (s, vs) = (fst1 sl (tmF sl e) most (s, vs)).bind (rst sl (tmF sl e) 120 most) := rfl
    have hslI : ∀ e ∈ sl, ¬ e.1 = 0 ∧ e.2.1 ≤ 1200 := fun e he => ⟨(hsl e he).1, (hsl e he).2.2⟩
    -- on behind a first part that stands
    have onw : ∀ A2 F2 a2 m2 y, fst1 sl (tmF sl e) most (s, vs) = some y → y.2.1 ≤ 14 → xGd A A2 t nm sl u p v G n F F2 a2 m2 y → ∀ (P' : xO → xH → Prop), (∀ z A', P (.inl (some (.int z))) (A', g) → P' (.inl (some (.int z))) (A', g)) → xM1 sc (d + 13) 44 [.ref 25, .int (nI (n + y.1.length - 1)), .int x, .int (nI lv)] (A2, g) P' := by
      intro A2 F2 a2 m2 y hy hyD hg P' hP
      obtain ⟨L, D, st, pr1⟩ := y
      have hI := fst1_I hslI (tmF_I hslI e) hy
      have e1 : tmF sl (e + 1) most (s, vs) = rst sl (tmF sl e) 120 most (L, D, st, pr1) := by rw [eqT, hy]; rfl
      have hlen : st.1.length + 0 + 1 ≤ s.length := by
        obtain ⟨⟨w, we, wl⟩, i2, _⟩ := hI
        have := congrArg List.length we
        rw [List.length_append] at this
        dsimp only at wl i2 this
        omega
      have go := p_restLoop (sc := sc) (d := d) (g := g) (P := P') (y := nI (n + L.length - 1)) hd IH h0 hsl h44 hch hx hbud hs120 hsx 120 0 A2 F2 a2 m2 L D st pr1 rfl hg hyD hI hlen (fun A' z1 z2 => hP _ _ (kb A' (by rw [e1]; exact z1) z2)) (fun A' F' a' m' r z1 z2 z3 => hP _ _ (ko A' F' a' m' r (by rw [e1]; exact z1) z2 z3))
      unfold xM1
      repeat' first
        | exact go
        | refine xP_s rfl rfl rfl ?_
    have bad : ∀ A2, noR (fst1 sl (tmF sl e) most (s, vs)) → xBd A A2 t nm sl u p v G n F (e + 1) → P (.inl (some (.int (-1)))) (A2, g) := by
      intro A2 hno hb
      refine kb A2 ?_ hb
      rw [eqT]
      rcases hno with z | ⟨y, z1, z2⟩
      · rw [z]
        exact Or.inl rfl
      · rw [z1]
        exact noR_deep z2
    unfold xM1
    refine xP_s rfl rfl rfl ?_
    refine xP_s rfl rfl rfl ?_
    refine xP_s rfl rfl rfl ?_
    refine xP_if (fun hc => ?_) (fun hc => ?_)
    · refine xP_s rfl rfl rfl ?_
      refine xP_s rfl rfl rfl ?_
      refine xP_cv rfl rfl rfl rfl rfl h25 (p_isPrefixed hw hta hsx hch hx ?_)
      cases hpf : pfx sl most s with
      | none =>
        refine xP_s rfl rfl rfl ?_
        refine xP_s rfl rfl rfl ?_
        refine xP_s rfl rfl rfl ?_
        refine xP_cv rfl rfl rfl rfl rfl h25 (p_unit (most := most) (by omega) hd IH h0 hsl hch (by have := TA_vs hta; omega) hw hta hsx hpf hbud (fun A2 z1 z2 => ?_) (fun A2 F2 a2 m2 pr2 L D st' z1 z2 z3 z4 z5 z6 z7 z8 z9 => ?_))
        · have hP := fun A3 => bad A3 z1
          obtain ⟨n', F', a', pr', y1, y2, y3, y4, y5⟩ := z2
          have y25 := y1.2.2.2.2.2.1
          unfold xPa at y25
          have y1' := y1.setA a' 0 (by omega)
          have y25' := y1'.2.2.2.2.2.1
          unfold xPa at y25'
          refine xP_s rfl rfl rfl ?_
          refine xP_s rfl rfl rfl ?_
          refine xP_s rfl rfl rfl ?_
          refine xP_put rfl y25 (Nat.le_of_ble_eq_true rfl) rfl ?_
          refine xP_s rfl rfl rfl ?_
          refine xP_s rfl rfl rfl ?_
          refine xP_s rfl rfl rfl ?_
          refine xP_s rfl rfl rfl ?_
          refine xP_cv rfl rfl rfl rfl rfl y25' (p_restNone ?_)
          repeat' first
            | refine xP_s rfl rfl rfl ?_
            | refine xP_ret rfl rfl rfl ?_
          exact hP _ ⟨n', F', a', 0, y1', y2, y3, y4, (y5.trans (xSame.set _ _)).wide (by decide)⟩
        · have y25 := z3.2.2.2.2.2.1
          unfold xPa at y25
          have y1' := z3.setA a2 0 (by omega)
          have y25' := y1'.2.2.2.2.2.1
          unfold xPa at y25'
          refine xP_s rfl rfl rfl ?_
          refine xP_s rfl rfl rfl ?_
          refine xP_s rfl rfl rfl ?_
          refine xP_put rfl y25 (Nat.le_of_ble_eq_true rfl) rfl ?_
          refine xP_s rfl rfl rfl ?_
          refine xP_s rfl rfl rfl ?_
          refine xP_s rfl rfl rfl ?_
          refine xP_s rfl rfl rfl ?_
          refine xP_cv rfl rfl rfl rfl rfl y25' (onw _ F2 a2 m2 (L, D, st', 0) z1 z2 ⟨y1', z4, z5, z6, z7, z8, (z9.trans (xSame.set _ _)).wide (by decide)⟩ _ (fun z A' hz => ?_))
          repeat' first
            | refine xP_s rfl rfl rfl ?_
            | refine xP_ret rfl rfl rfl ?_
          exact hz
      | some en =>
        have hk1 : (nx s).1 = 1 ∧ isCal (nx s) = false ∧ isMin s (nx s) = false := by
          unfold pfx at hpf
          split at hpf
          next hh => exact hh
          next => cases hpf
        have eqF : fst1 sl (tmF sl e) most (s, vs) = (match tmF sl e (oRight (some en)) ((nx s).2.2.2, vs) with
          | none => none
          | some (R, DR, st', _) => some ((3, 0, (nx s).2.2.1, 1) :: R, DR + 1, st', en.2.1)) := by
          unfold fst1
          rw [if_neg (by dsimp only; omega), if_neg (by dsimp only; omega), if_neg (by dsimp only; omega), if_pos hk1.1, if_neg (by rw [hk1.2.2]; decide), if_neg (by rw [hk1.2.1]; decide), hpf]
          rfl
        refine xP_s rfl rfl rfl ?_
        refine xP_s rfl rfl rfl ?_
        refine xP_s rfl rfl rfl ?_
        refine xP_s rfl rfl rfl ?_
        refine xP_cv rfl rfl rfl rfl rfl h25 (p_prefixed hd IH hw hsl hta hsx hpf hbud (fun A2 z1 z2 => ?_) (fun A2 F2 a2 m2 r z1 z2 z3 z4 z5 z6 z7 z8 z9 => ?_))
        · obtain ⟨n', F', a', pr', y1, y2, y3, y4, y5⟩ := z2
          have y25 := y1.2.2.2.2.2.1
          unfold xPa at y25
          refine xP_s rfl rfl rfl ?_
          refine xP_s rfl rfl rfl ?_
          refine xP_cv rfl rfl rfl rfl rfl y25 (p_restNone ?_)
          repeat' first
            | refine xP_s rfl rfl rfl ?_
            | refine xP_ret rfl rfl rfl ?_
          refine bad A2 ?_ ⟨n', F', a', pr', y1, y2, y3, by omega, y5⟩
          rw [eqF]
          rcases z1 with (z1 | ⟨⟨R, DR, st', pr1⟩, z1, z2⟩) | ⟨⟨R, DR, st', pr1⟩, z1, z2⟩
          · rw [z1]
            exact Or.inl rfl
          · rw [z1]
            exact Or.inr ⟨_, rfl, by dsimp only at z2 ⊢; omega⟩
          · rw [z1]
            exact Or.inr ⟨_, rfl, by dsimp only at z2 ⊢; omega⟩
        · obtain ⟨R, DR, st', pr1⟩ := r
          rw [z1] at eqF
          dsimp only at eqF z2 z3 z4 z5 z6 z7
          have y25 := z3.2.2.2.2.2.1
          unfold xPa at y25
          have hlR : ((3, 0, (nx s).2.2.1, 1) :: R : List xIt).length = R.length + 1 := rfl
          refine xP_s rfl rfl rfl ?_
          refine xP_s rfl rfl rfl ?_
          refine xP_cv rfl rfl rfl rfl rfl y25 (onw A2 F2 a2 m2 _ eqF z2 ⟨z3, z4, z5, z6, z7, z8, z9⟩ _ (fun z A' hz => ?_))
          repeat' first
            | refine xP_s rfl rfl rfl ?_
            | refine xP_ret rfl rfl rfl ?_
          exact hz
    · have := xc_f hc
      dsimp only at this
      omega
/-- what the whole of a text is: a term, an end behind it -/
def wholeF (sl : List xSl) (t : List Nat) : Option (List xIt × Nat × List Nat) := match tmF sl 11 1200 (t, []) with
  | none => none
  | some (L, D, st, _) => if D ≤ 14 ∧ (nx st.1).1 = 0 then some (L, D, (nx st.1).2.2.2) else none
set_option maxRecDepth 100000 in
theorem p_whole {n m a pr : Nat} {A : List xC} {F : xF} (h0 : nm0 nm) (hsl : ∀ e ∈ sl, ¬ e.1 = 0 ∧ 1 ≤ e.2.1 ∧ e.2.1 ≤ 1200) (h44 : ∀ e ∈ sl, e.1 = 44 → e.2.2 = 1) (hch : ∀ c ∈ t, 32 ≤ c ∧ c ≤ 126) (hw : xWd A t nm sl u p v G n F a pr) (hta : xTA t nm G u m 0 t []) (hbud : n + 2 * t.length ≤ 840)
    (kb : wholeF sl t = none → ∀ A' n' F' a' pr', xWd A' t nm sl u p v G n' F' a' pr' → n ≤ n' → xA0 F F' n → xSame A A' pL → P (.inl (some (.int (-1)))) (A', g))
    (ko : ∀ L D s', wholeF sl t = some (L, D, s') → ∀ A' F' a' pr', xWd A' t nm sl u p v G (n + L.length) F' a' pr' → a' < u → G.2.2.1 a' = nI (t.length - s'.length) → sfx t s' → xTr F' nm D n (n + L.length) L → F'.2.2.2.2.2 (n + L.length - 1) = nI D → 1 ≤ D → D ≤ 14 → 1 ≤ L.length → L.length + 2 * s'.length ≤ 2 * t.length → xA0 F F' n → xSame A A' pL → P (.inl (some (.int (nI (n + L.length - 1))))) (A', g)) : xM1 sc (d + 55) 38 [.ref 25] (A, g) P := by
  obtain ⟨hs, hn, ho, ht, hp, h25, hpr⟩ := id hw
  unfold xPa at h25
  have htl := hs.len
  have hu := ht.1
  have h0' : (0 : Int32).toInt = 0 := rfl
  have hw1 := hw.setA 0 pr hpr
  have s1 := xSame.set (A := A) 25 (.inr (3, [.ref 18, .ref 7, .ref 11, .int (nI 0), .int (nI pr)]))
  have h25' := hw1.2.2.2.2.2.1
  unfold xPa at h25'
  unfold xM1
  refine xP_s rfl rfl rfl ?_
  refine xP_s rfl rfl rfl ?_
  refine xP_put rfl h25 (Nat.le_of_ble_eq_true rfl) rfl ?_
  refine xP_s rfl rfl rfl ?_
  refine xP_s rfl rfl rfl ?_
  refine xP_s rfl rfl rfl ?_
  refine xP_cv rfl rfl rfl rfl rfl h25' (p_term h0 hsl h44 hch htl 11 0 rfl (d + 54) (by omega) _ n F 0 pr m t [] 1200 1200 _ rfl (by omega) (by omega) hw1 hta ⟨[], rfl⟩ hbud (fun A2 z1 z2 => ?_) (fun A2 F2 a2 m2 r z1 z2 z3 => ?_))
  · obtain ⟨n', F', a', pr', y1, y2, y3, y4, y5⟩ := z2
    obtain ⟨ys, yn, yo, yt, yp, y25, ypr⟩ := id y1
    unfold xPa at y25
    have hno : wholeF sl t = none := by
      unfold wholeF
      rcases z1 with z1 | ⟨⟨L, D, st, pr1⟩, z1, z2⟩
      · rw [z1]
      · rw [z1]
        dsimp only at z2 ⊢
        rw [if_neg (by omega)]
    have k := kb hno A2 n' F' a' pr' y1 y2 y3 ((s1.trans y5).wide (by decide))
    refine xP_s rfl rfl rfl ?_
    refine xP_s rfl rfl rfl ?_
    refine xP_get rfl y25 rfl ?_
    refine xP_s rfl rfl rfl ?_
    refine xP_get rfl y25 rfl ?_
    refine xP_cv rfl rfl rfl rfl rfl yt.2.1 (p_tkind yt (by omega) ?_)
    refine xP_s rfl rfl rfl ?_
    refine xP_if (fun hc => ?_) (fun hc => ?_)
    · repeat' first
        | refine xP_s rfl rfl rfl ?_
        | refine xP_ret rfl rfl rfl ?_
      exact k
    · repeat' first
        | refine xP_s rfl rfl rfl ?_
        | refine xP_ret rfl rfl rfl ?_
      exact k
  · obtain ⟨L, D, st, pr1⟩ := r
    obtain ⟨y1, y2, y3, y4, y5, y6, y7⟩ := z3
    dsimp only at z2 y1 y2 y3 y4 y5
    obtain ⟨ys, yn, yo, yt, yp, y25, ypr⟩ := id y1
    unfold xPa at y25
    obtain ⟨q1, q2, s', q3, q4, q5⟩ := TA_E y2
    have hkd := TA_kind y2
    have hslI : ∀ e ∈ sl, ¬ e.1 = 0 ∧ e.2.1 ≤ 1200 := fun e he => ⟨(hsl e he).1, (hsl e he).2.2⟩
    obtain ⟨i1, i2, i3, i4⟩ := tmF_I hslI 11 _ _ _ z1
    dsimp only at i1 i2 i3
    have tk := nx_tk2 q2
    have tot := (i1.trans tk).len
    refine xP_s rfl rfl rfl ?_
    refine xP_s rfl rfl rfl ?_
    refine xP_get rfl y25 rfl ?_
    refine xP_s rfl rfl rfl ?_
    refine xP_get rfl y25 rfl ?_
    refine xP_cv rfl rfl rfl rfl rfl yt.2.1 (p_tkind yt (by omega) ?_)
    rw [if_pos q1]
    refine xP_s rfl rfl rfl ?_
    refine xP_if (fun hc => ?_) (fun hc => ?_)
    · have hz := xc_t hc
      dsimp only at hz
      have hno : wholeF sl t = none := by
        unfold wholeF
        rw [z1]
        dsimp only
        rw [if_neg (by omega)]
      repeat' first
        | refine xP_s rfl rfl rfl ?_
        | refine xP_ret rfl rfl rfl ?_
      exact kb hno A2 _ F2 a2 _ y1 (by omega) y6 ((s1.trans y7).wide (by decide))
    · have hz := xc_f hc
      dsimp only at hz
      have hyes : wholeF sl t = some (L, D, (nx st.1).2.2.2) := by
        unfold wholeF
        rw [z1]
        dsimp only
        rw [if_pos ⟨z2, by omega⟩]
      repeat' first
        | refine xP_s rfl rfl rfl ?_
        | refine xP_ret rfl rfl rfl ?_
      exact ko L D _ hyes A2 F2 a2 _ y1 q1 q5.2.2.1 (i1.sfx.elim fun w e => sfx.trans ⟨w, e⟩ (nx_sfx' q2)) y3 y4 i3 z2 i2 (by omega) y6 ((s1.trans y7).wide (by decide))
set_option maxRecDepth 100000 in
theorem p_end {n a pr : Nat} {A : List xC} {F : xF} (hw : xWd A t nm sl u p v G n F a pr) (ha : a < u) (k : P (.inl (some (.int (G.2.2.1 a)))) (A, g)) : xM1 sc (d + 2) 39 [.ref 25] (A, g) P := by
  obtain ⟨hs, hn, ho, ht, hp, h25, hpr⟩ := id hw
  unfold xPa at h25
  unfold xM1
  refine xP_s rfl rfl rfl ?_
  refine xP_get rfl h25 rfl ?_
  refine xP_s rfl rfl rfl ?_
  refine xP_get rfl h25 rfl ?_
  refine xP_cv rfl rfl rfl rfl rfl ht.2.1 (p_tend ht ha ?_)
  repeat' first
    | refine xP_s rfl rfl rfl ?_
    | refine xP_ret rfl rfl rfl ?_
  exact k
end PY
