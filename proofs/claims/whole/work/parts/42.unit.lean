-- Parser: brackets, a first part, a term, the whole
section PX
variable {sc : xSc} {d g : Nat} {t nm : List Nat} {sl : List xSl} {u p v : Nat} {G : xG} {P : xO → xH → Prop}
set_option maxHeartbeats 4000000 in
set_option maxRecDepth 100000 in
theorem p_enclosed {e lv n m a pr : Nat} {A : List xC} {F : xF} {s : List Nat} {vs : List (List Nat)} {most : Int} (he : e ≤ 11) (hd : 4 * e ≤ d) (IH : ∀ dd, 4 * e + 10 ≤ dd → xTmC sc dd g t nm sl u p v G e (lv + 1)) (h0 : nm0 nm) (hsl : ∀ e ∈ sl, ¬ e.1 = 0 ∧ 1 ≤ e.2.1 ∧ e.2.1 ≤ 1200) (hch : ∀ c ∈ t, 32 ≤ c ∧ c ≤ 126) (hw : xWd A t nm sl u p v G n F a pr) (hta : xTA t nm G u m a s vs) (hsx : sfx t s) (hk : (nx s).1 = 5) (hbud : n + 2 * s.length ≤ 840)
    (kb : ∀ A', noR (fst1 sl (tmF sl e) most (s, vs)) → xBd A A' t nm sl u p v G n F (e + 1) → P (.inl (some (.int (-1)))) (A', g))
    (ko : ∀ A' F' a' m' pr' L D st', fst1 sl (tmF sl e) most (s, vs) = some (L, D, st', 0) → D ≤ 14 → xWd A' t nm sl u p v G (n + L.length) F' a' pr' → xTA t nm G u m' a' st'.1 st'.2 → xTr F' nm D n (n + L.length) L → F'.2.2.2.2.2 (n + L.length - 1) = nI D → F'.2.2.2.2.1 (n + L.length - 1) = -1 → xA0 F F' n → xSame A A' pL → P (.inl (some (.int (nI (n + L.length - 1))))) (A', g)) : xM1 sc (d + 12) 53 [.ref 25, .int (nI lv)] (A, g) P := by
  obtain ⟨hs, hn, ho, ht, hp, h25, hpr⟩ := id hw
  unfold xPa at h25
  have hl := hs.len
  have hu := ht.1
  obtain ⟨q1, q2, _⟩ := TA_E hta
  have hss : ∀ c ∈ s, 32 ≤ c ∧ c ≤ 126 := fun c hc => hch c (hsx.mem c hc)
  have tk := nx_tk2 q2
  have tkl := tk.len
  have hsx1 : sfx t (nx s).2.2.2 := hsx.trans (nx_sfx' q2)
  have hs120 : s.length ≤ 120 := by
    have := hsx.drop.2
    omega
  have eq0 : fst1 sl (tmF sl e) most (s, vs) = (if isMk s 40 = true then (match tmF sl e 1200 ((nx s).2.2.2, vs) with
      | none => none
      | some (R, DR, st', _) => if isMk st'.1 41 = true then some (R, DR, ((nx st'.1).2.2.2, st'.2), 0) else none)
    else if isMk s 123 = true then (match tmF sl e 1200 ((nx s).2.2.2, vs) with
      | none => none
      | some (R, DR, st', _) => if isMk st'.1 125 = true then some ((3, 0, [123, 125], 1) :: R, DR + 1, ((nx st'.1).2.2.2, st'.2), 0) else none)
    else if isMk s 91 = true then (match lst (tmF sl e) 120 ((nx s).2.2.2, vs) with
      | none => none
      | some (M, DM, st') => some (M, DM, st', 0))
    else none) := by
    unfold fst1
    rw [if_neg (by dsimp only; omega), if_neg (by dsimp only; omega), if_neg (by dsimp only; omega), if_neg (by dsimp only; omega)]
    rfl
  unfold xM1
  refine xP_s rfl rfl rfl ?_
  refine xP_s rfl rfl rfl ?_
  refine xP_cv rfl rfl rfl rfl rfl h25 (p_take (c := 40) hw hta hss (by omega) (fun c1 => ?_) (fun c1 A1 m1 w1 w2 w3 => ?_))
  · rw [if_neg (by rw [c1]; decide)] at eq0
    refine xP_s rfl rfl rfl ?_
    refine xP_s rfl rfl rfl ?_
    refine xP_s rfl rfl rfl ?_
    refine xP_cv rfl rfl rfl rfl rfl h25 (p_take (c := 123) hw hta hss (by omega) (fun c2 => ?_) (fun c2 A1 m1 w1 w2 w3 => ?_))
    · rw [if_neg (by rw [c2]; decide)] at eq0
      refine xP_s rfl rfl rfl ?_
      refine xP_s rfl rfl rfl ?_
      refine xP_s rfl rfl rfl ?_
      refine xP_cv rfl rfl rfl rfl rfl h25 (p_take (c := 91) hw hta hss (by omega) (fun c3 => ?_) (fun c3 A1 m1 w1 w2 w3 => ?_))
      · rw [if_neg (by rw [c3]; decide)] at eq0
        repeat' first
          | refine xP_s rfl rfl rfl ?_
          | refine xP_ret rfl rfl rfl ?_
        exact kb A (Or.inl eq0) ⟨n, F, a, pr, hw, Nat.le_refl _, xA0.refl _ _, by omega, xSame.refl _ _⟩
      · rw [if_pos c3] at eq0
        have w25 := w1.2.2.2.2.2.1
        unfold xPa at w25
        refine xP_s rfl rfl rfl ?_
        refine xP_s rfl rfl rfl ?_
        refine xP_s rfl rfl rfl ?_
        refine xP_cv rfl rfl rfl rfl rfl w25 (p_list (st := ((nx s).2.2.2, vs)) he hd IH h0 hsl hch w1 w2 hsx1 (by dsimp only; omega) (by dsimp only; omega) (fun A2 z1 z2 => ?_) (fun A2 F2 a2 m2 pr2 r z1 z2 z3 z4 z5 z6 z7 z8 z9 => ?_))
        · obtain ⟨n', F', a', pr', y1, y2, y3, y4, y5⟩ := z2
          repeat' first
            | refine xP_s rfl rfl rfl ?_
            | refine xP_ret rfl rfl rfl ?_
          refine kb A2 ?_ ⟨n', F', a', pr', y1, y2, y3, y4, (w3.trans y5).wide (by decide)⟩
          rw [eq0]
          rcases z1 with z1 | ⟨⟨M, DM, st'⟩, z1, z3⟩
          · rw [z1]
            exact Or.inl rfl
          · rw [z1]
            exact Or.inr ⟨_, rfl, z3⟩
        · obtain ⟨M, DM, st'⟩ := r
          rw [z1] at eq0
          repeat' first
            | refine xP_s rfl rfl rfl ?_
            | refine xP_ret rfl rfl rfl ?_
          exact ko A2 F2 a2 m2 pr2 M DM st' eq0 z2 z3 z4 z5 z6 z7 z8 ((w3.trans z9).wide (by decide))
    · rw [if_pos c2] at eq0
      have w25 := w1.2.2.2.2.2.1
      unfold xPa at w25
      refine xP_s rfl rfl rfl ?_
      refine xP_s rfl rfl rfl ?_
      refine xP_s rfl rfl rfl ?_
      refine xP_s rfl rfl rfl ?_
      refine xP_s rfl rfl rfl ?_
      refine xP_s rfl rfl rfl ?_
      rw [nI_1]
      refine xP_cv rfl rfl rfl rfl rfl w25 (IH (d + 11) (by omega) A1 n F (a + 1) pr m1 (nx s).2.2.2 vs 1200 1200 _ rfl (by omega) (by omega) w1 w2 hsx1 (by omega) (fun A2 z1 z2 => ?_) (fun A2 F2 a2 m2 r z1 z2 z3 => ?_))
      · obtain ⟨n', F', a', pr', y1, y2, y3, y4, y5⟩ := z2
        have y25 := y1.2.2.2.2.2.1
        unfold xPa at y25
        have hno : noR (fst1 sl (tmF sl e) most (s, vs)) := by
          rw [eq0]
          rcases z1 with z1 | ⟨⟨R, DR, st', pr1⟩, z1, z3⟩
          · rw [z1]
            exact Or.inl rfl
          · rw [z1]
            dsimp only at z3 ⊢
            split
            · exact Or.inr ⟨_, rfl, by dsimp only; omega⟩
            · exact Or.inl rfl
        refine xP_s rfl rfl rfl ?_
        refine xP_s rfl rfl rfl ?_
        refine xP_s rfl rfl rfl ?_
        refine xP_cv rfl rfl rfl rfl rfl y25 (p_takeG y1 (by omega) (fun A3 a3 bb u1 u2 u3 => ?_))
        have kf := kb A3 hno ⟨n', F', a3, pr', u1, y2, y3, by omega, ((w3.trans y5).trans u3).wide (by decide)⟩
        cases bb
        · repeat' first
            | refine xP_s rfl rfl rfl ?_
            | refine xP_ret rfl rfl rfl ?_
          exact kf
        · have up := u1.2.2.2.2.1
          have u25 := u1.2.2.2.2.2.1
          unfold xPa at u25
          refine xP_s rfl rfl rfl ?_
          refine xP_s rfl rfl rfl ?_
          refine xP_get rfl u25 rfl ?_
          refine xP_s rfl rfl rfl ?_
          refine xP_s rfl rfl rfl ?_
          refine xP_s rfl rfl rfl ?_
          refine xP_cv rfl rfl rfl rfl rfl up.2.1 (p_addCompound (c := 0) (m := 0) up (by decide) ⟨rfl, rfl⟩ (fun _ => ?_) (fun _ hz => absurd hz (by omega)))
          repeat' first
            | refine xP_s rfl rfl rfl ?_
            | refine xP_ret rfl rfl rfl ?_
          exact kf
      · obtain ⟨R, DR, st', pr1⟩ := r
        obtain ⟨y1, y2, y3, y4, y5, y6, y7⟩ := z3
        dsimp only at z2 y1 y2 y3 y4 y5
        rw [z1] at eq0
        dsimp only at eq0
        have rI := tmF_I (fun e he => ⟨(hsl e he).1, (hsl e he).2.2⟩) e _ _ _ z1
        obtain ⟨i1, i2, i3, i4⟩ := rI
        dsimp only at i1 i2 i3 i4
        have i1l := i1.len
        have hua := (TA_E y2).1
        have y25 := y1.2.2.2.2.2.1
        unfold xPa at y25
        have hsx2 : sfx t st'.1 := hsx1.trans i1.sfx
        refine xP_s rfl rfl rfl ?_
        refine xP_s rfl rfl rfl ?_
        refine xP_s rfl rfl rfl ?_
        refine xP_cv rfl rfl rfl rfl rfl y25 (p_take (c := 125) y1 y2 (fun c hc => hch c (hsx2.mem c hc)) (by omega) (fun c3 => ?_) (fun c3 A3 m3 v1 v2 v3 => ?_))
        · rw [if_neg (by rw [c3]; decide)] at eq0
          repeat' first
            | refine xP_s rfl rfl rfl ?_
            | refine xP_ret rfl rfl rfl ?_
          exact kb A2 (Or.inl eq0) ⟨_, F2, a2, _, y1, by omega, y6, by omega, (w3.trans y7).wide (by decide)⟩
        · rw [if_pos c3] at eq0
          have vp := v1.2.2.2.2.1
          have v25 := v1.2.2.2.2.2.1
          unfold xPa at v25
          refine xP_s rfl rfl rfl ?_
          refine xP_s rfl rfl rfl ?_
          refine xP_get rfl v25 rfl ?_
          refine xP_s rfl rfl rfl ?_
          refine xP_s rfl rfl rfl ?_
          refine xP_s rfl rfl rfl ?_
          refine xP_cv rfl rfl rfl rfl rfl vp.2.1 (p_addCompound (c := 1) (m := DR) vp (by decide) ⟨n + R.length - 1, DR, 0, by omega, rfl, y4, z2, by omega, y5, rfl⟩ (fun hz => ?_) (fun b1 b2 b3 A4 x1 x2 => ?_))
          · repeat' first
              | refine xP_s rfl rfl rfl ?_
              | refine xP_ret rfl rfl rfl ?_
            exact kb A3 (Or.inr ⟨_, eq0, by dsimp only; omega⟩) ⟨_, F2, a2 + 1, _, v1, by omega, y6, by omega, ((w3.trans y7).trans v3).wide (by decide)⟩
          · repeat' first
              | refine xP_s rfl rfl rfl ?_
              | refine xP_ret rfl rfl rfl ?_
            exact ko A4 _ (a2 + 1) m3 _ _ (DR + 1) _ eq0 (by omega) (v1.setP x1 x2) v2 (tr_one y3 y5 h0.2.2.1) pk_us pk_us (y6.trans (xA0_add F2 _ _ _ _ _ _ (Nat.le_refl _)) (by omega)) ((((w3.trans y7).trans v3).trans x2).wide (by decide))
  · rw [if_pos c1] at eq0
    have w25 := w1.2.2.2.2.2.1
    unfold xPa at w25
    refine xP_s rfl rfl rfl ?_
    refine xP_s rfl rfl rfl ?_
    refine xP_s rfl rfl rfl ?_
    refine xP_s rfl rfl rfl ?_
    refine xP_s rfl rfl rfl ?_
    refine xP_s rfl rfl rfl ?_
    rw [nI_1]
    refine xP_cv rfl rfl rfl rfl rfl w25 (IH (d + 11) (by omega) A1 n F (a + 1) pr m1 (nx s).2.2.2 vs 1200 1200 _ rfl (by omega) (by omega) w1 w2 hsx1 (by omega) (fun A2 z1 z2 => ?_) (fun A2 F2 a2 m2 r z1 z2 z3 => ?_))
    · obtain ⟨n', F', a', pr', y1, y2, y3, y4, y5⟩ := z2
      have y25 := y1.2.2.2.2.2.1
      unfold xPa at y25
      have hno : noR (fst1 sl (tmF sl e) most (s, vs)) := by
        rw [eq0]
        rcases z1 with z1 | ⟨⟨R, DR, st', pr1⟩, z1, z3⟩
        · rw [z1]
          exact Or.inl rfl
        · rw [z1]
          dsimp only at z3 ⊢
          split
          · exact Or.inr ⟨_, rfl, by dsimp only; omega⟩
          · exact Or.inl rfl
      refine xP_s rfl rfl rfl ?_
      refine xP_s rfl rfl rfl ?_
      refine xP_s rfl rfl rfl ?_
      refine xP_cv rfl rfl rfl rfl rfl y25 (p_takeG y1 (by omega) (fun A3 a3 bb u1 u2 u3 => ?_))
      have kf := kb A3 hno ⟨n', F', a3, pr', u1, y2, y3, by omega, ((w3.trans y5).trans u3).wide (by decide)⟩
      cases bb
      · repeat' first
          | refine xP_s rfl rfl rfl ?_
          | refine xP_ret rfl rfl rfl ?_
        exact kf
      · repeat' first
          | refine xP_s rfl rfl rfl ?_
          | refine xP_ret rfl rfl rfl ?_
        exact kf
    · obtain ⟨R, DR, st', pr1⟩ := r
      obtain ⟨y1, y2, y3, y4, y5, y6, y7⟩ := z3
      dsimp only at z2 y1 y2 y3 y4 y5
      rw [z1] at eq0
      dsimp only at eq0
      have rI := tmF_I (fun e he => ⟨(hsl e he).1, (hsl e he).2.2⟩) e _ _ _ z1
      obtain ⟨i1, i2, i3, i4⟩ := rI
      dsimp only at i1 i2 i3 i4
      have i1l := i1.len
      have hua := (TA_E y2).1
      have y25 := y1.2.2.2.2.2.1
      unfold xPa at y25
      have hsx2 : sfx t st'.1 := hsx1.trans i1.sfx
      refine xP_s rfl rfl rfl ?_
      refine xP_s rfl rfl rfl ?_
      refine xP_s rfl rfl rfl ?_
      refine xP_cv rfl rfl rfl rfl rfl y25 (p_take (c := 41) y1 y2 (fun c hc => hch c (hsx2.mem c hc)) (by omega) (fun c3 => ?_) (fun c3 A3 m3 v1 v2 v3 => ?_))
      · rw [if_neg (by rw [c3]; decide)] at eq0
        repeat' first
          | refine xP_s rfl rfl rfl ?_
          | refine xP_ret rfl rfl rfl ?_
        exact kb A2 (Or.inl eq0) ⟨_, F2, a2, _, y1, by omega, y6, by omega, (w3.trans y7).wide (by decide)⟩
      · rw [if_pos c3] at eq0
        repeat' first
          | refine xP_s rfl rfl rfl ?_
          | refine xP_ret rfl rfl rfl ?_
        exact ko A3 F2 (a2 + 1) m3 _ R DR _ eq0 z2 v1 v2 y3 y4 y5 y6 (((w3.trans y7).trans v3).wide (by decide))
set_option maxHeartbeats 4000000 in
set_option maxRecDepth 100000 in
theorem p_unit {e lv n m a pr : Nat} {A : List xC} {F : xF} {s : List Nat} {vs : List (List Nat)} {most : Int} (he : e ≤ 11) (hd : 4 * e ≤ d) (IH : ∀ dd, 4 * e + 10 ≤ dd → xTmC sc dd g t nm sl u p v G e (lv + 1)) (h0 : nm0 nm) (hsl : ∀ e ∈ sl, ¬ e.1 = 0 ∧ 1 ≤ e.2.1 ∧ e.2.1 ≤ 1200) (hch : ∀ c ∈ t, 32 ≤ c ∧ c ≤ 126) (hvs9 : vs.length ≤ 120) (hw : xWd A t nm sl u p v G n F a pr) (hta : xTA t nm G u m a s vs) (hsx : sfx t s) (hpf : pfx sl most s = none) (hbud : n + 2 * s.length ≤ 840)
    (kb : ∀ A', noR (fst1 sl (tmF sl e) most (s, vs)) → xBd A A' t nm sl u p v G n F (e + 1) → P (.inl (some (.int (-1)))) (A', g))
    (ko : ∀ A' F' a' m' pr' L D st', fst1 sl (tmF sl e) most (s, vs) = some (L, D, st', 0) → D ≤ 14 → xWd A' t nm sl u p v G (n + L.length) F' a' pr' → xTA t nm G u m' a' st'.1 st'.2 → xTr F' nm D n (n + L.length) L → F'.2.2.2.2.2 (n + L.length - 1) = nI D → F'.2.2.2.2.1 (n + L.length - 1) = -1 → xA0 F F' n → xSame A A' pL → P (.inl (some (.int (nI (n + L.length - 1))))) (A', g)) : xM1 sc (d + 13) 48 [.ref 25, .int (nI lv)] (A, g) P := by
  obtain ⟨hs, hn, ho, ht, hp, h25, hpr⟩ := id hw
  unfold xPa at h25
  have hl := hs.len
  have hu := ht.1
  have hpn := hp.1
  obtain ⟨q1, q2, s', y1, y2, y3⟩ := TA_E hta
  have hss : ∀ c ∈ s, 32 ≤ c ∧ c ≤ 126 := fun c hc => hch c (hsx.mem c hc)
  have tk := nx_tk2 q2
  have tkl := tk.len
  have hkd := TA_kind hta
  have hw1 := hw.setA (a + 1) pr hpr
  have s1 := xSame.set (A := A) 25 (.inr (3, [.ref 18, .ref 7, .ref 11, .int (nI (a + 1)), .int (nI pr)]))
  obtain ⟨hs', hn', ho', ht', hp', h25', _⟩ := id hw1
  unfold xPa at h25'
  unfold xM1
  refine xP_s rfl rfl rfl ?_
  refine xP_get rfl h25 rfl ?_
  refine xP_s rfl rfl rfl ?_
  refine xP_s rfl rfl rfl ?_
  refine xP_get rfl h25 rfl ?_
  refine xP_s rfl rfl rfl ?_
  refine xP_cv rfl rfl rfl rfl rfl ht.2.1 (p_tkind ht (by omega) ?_)
  rw [if_pos q1]
  refine xP_s rfl rfl rfl ?_
  refine xP_sw (fun q hq hx => ?_) (fun hx => ?_)
  · simp only [List.mem_cons, List.not_mem_nil, or_false] at hq
    rcases hq with rfl | rfl | rfl | rfl | rfl
    · have hk : (nx s).1 = 1 := by
        have e1 : (1 : Int32).toInt = ((nx s).1 : Int) := by rw [← hkd, hx]
        have e2 : (1 : Int32).toInt = 1 := rfl
        omega
      refine xP_s rfl rfl rfl ?_
      refine xP_s rfl rfl rfl ?_
      refine xP_cv rfl rfl rfl rfl rfl h25 (p_name hd IH hsl hch hw hta hsx hk hpf hbud (fun A2 z1 z2 => ?_) (fun A2 F2 a2 m2 pr2 L D st' z1 z2 z3 z4 z5 z6 z7 z8 z9 => ?_))
      · repeat' first
          | refine xP_s rfl rfl rfl ?_
          | refine xP_ret rfl rfl rfl ?_
        exact kb A2 z1 z2
      · repeat' first
          | refine xP_s rfl rfl rfl ?_
          | refine xP_ret rfl rfl rfl ?_
        exact ko A2 F2 a2 m2 pr2 L D st' z1 z2 z3 z4 z5 z6 z7 z8 z9
    · have hk : (nx s).1 = 2 := by
        have e1 : (2 : Int32).toInt = ((nx s).1 : Int) := by rw [← hkd, hx]
        have e2 : (2 : Int32).toInt = 2 := rfl
        omega
      have eq0 : fst1 sl (tmF sl e) most (s, vs) = some ([(0, (vno vs (nx s).2.2.1 : Int), [], 0)], 1, ((nx s).2.2.2, vnx vs (nx s).2.2.1), 0) := by
        unfold fst1
        rw [if_neg (by dsimp only; omega), if_pos hk]
      obtain ⟨m1, h1⟩ := TA_next hta (by omega)
      have hvs : vsx vs (nx s) = vnx vs (nx s).2.2.1 := by unfold vsx; rw [if_pos hk]
      rw [hvs] at h1
      obtain ⟨v1, _⟩ := y3.2.2.2.2.1 hk
      have hvn : vno vs (nx s).2.2.1 ≤ 120 := by
        unfold vno
        split
        · exact hvs9
        · cases hx : vix (nx s).2.2.1 vs 0 with
          | none => exact hvs9
          | some i =>
            have := (List.getElem?_eq_some_iff.mp (vix_some hx).2).1
            dsimp only
            omega
      refine xP_s rfl rfl rfl ?_
      refine xP_s rfl rfl rfl ?_
      refine xP_get rfl h25 rfl ?_
      refine xP_s rfl rfl rfl ?_
      refine xP_s rfl rfl rfl ?_
      refine xP_put rfl h25 (Nat.le_of_ble_eq_true rfl) rfl ?_
      rw [show nI a + 1 = nI (a + 1) from nI_1 a]
      refine xP_s rfl rfl rfl ?_
      refine xP_get rfl h25' rfl ?_
      refine xP_s rfl rfl rfl ?_
      refine xP_get rfl h25' rfl ?_
      refine xP_s rfl rfl rfl ?_
      refine xP_cv rfl rfl rfl rfl rfl ht'.2.1 (p_tvalue ht' (by omega) ?_)
      rw [if_pos q1, v1]
      refine xP_cv rfl rfl rfl rfl rfl hp'.2.1 (p_addVariable hp' (fun hz => ?_) (fun hz A2 x1 x2 => ?_))
      · omega
      · repeat' first
          | refine xP_s rfl rfl rfl ?_
          | refine xP_ret rfl rfl rfl ?_
        exact ko A2 _ (a + 1) m1 pr _ 1 _ eq0 (by omega) (hw1.setP x1 x2) h1 (tr_leaf (p := (0, (vno vs (nx s).2.2.1 : Int), [], 0)) (x3 := 0) rfl (by simp) ⟨fun _ => rfl, fun h => by simp at h, fun _ => rfl, fun h => by simp at h⟩ (fun _ => nI_toInt (by omega)) (fun h => by simp at h)) pk_us pk_us (xA0_add F n _ _ _ _ _ (Nat.le_refl _)) ((s1.trans x2).wide (by decide))
    · have hk : (nx s).1 = 3 := by
        have e1 : (3 : Int32).toInt = ((nx s).1 : Int) := by rw [← hkd, hx]
        have e2 : (3 : Int32).toInt = 3 := rfl
        omega
      have eq0 : fst1 sl (tmF sl e) most (s, vs) = some ([(1, ((nx s).2.1 : Int), [], 0)], 1, ((nx s).2.2.2, vs), 0) := by
        unfold fst1
        rw [if_pos hk]
      obtain ⟨m1, h1⟩ := TA_next hta (by omega)
      have hvs : vsx vs (nx s) = vs := by unfold vsx; rw [if_neg (by omega)]
      rw [hvs] at h1
      have v1 := TA_val hta (Or.inr hk)
      have hvl := nx_val hss hk
      refine xP_s rfl rfl rfl ?_
      refine xP_s rfl rfl rfl ?_
      refine xP_get rfl h25 rfl ?_
      refine xP_s rfl rfl rfl ?_
      refine xP_s rfl rfl rfl ?_
      refine xP_put rfl h25 (Nat.le_of_ble_eq_true rfl) rfl ?_
      rw [show nI a + 1 = nI (a + 1) from nI_1 a]
      refine xP_s rfl rfl rfl ?_
      refine xP_get rfl h25' rfl ?_
      refine xP_s rfl rfl rfl ?_
      refine xP_get rfl h25' rfl ?_
      refine xP_s rfl rfl rfl ?_
      refine xP_cv rfl rfl rfl rfl rfl ht'.2.1 (p_tvalue ht' (by omega) ?_)
      rw [if_pos q1, v1]
      refine xP_cv rfl rfl rfl rfl rfl hp'.2.1 (p_addInteger hp' (fun hz => ?_) (fun hz A2 x1 x2 => ?_))
      · omega
      · repeat' first
          | refine xP_s rfl rfl rfl ?_
          | refine xP_ret rfl rfl rfl ?_
        exact ko A2 _ (a + 1) m1 pr _ 1 _ eq0 (by omega) (hw1.setP x1 x2) h1 (tr_leaf (p := (1, ((nx s).2.1 : Int), [], 0)) (x3 := 0) rfl (by simp) ⟨fun _ => rfl, fun h => by simp at h, fun _ => rfl, fun h => by simp at h⟩ (fun _ => nI_toInt hvl) (fun h => by simp at h)) pk_us pk_us (xA0_add F n _ _ _ _ _ (Nat.le_refl _)) ((s1.trans x2).wide (by decide))
    · have hk : (nx s).1 = 4 := by
        have e1 : (4 : Int32).toInt = ((nx s).1 : Int) := by rw [← hkd, hx]
        have e2 : (4 : Int32).toInt = 4 := rfl
        omega
      have eq0 : fst1 sl (tmF sl e) most (s, vs) = some (strL (nx s).2.2.1, (nx s).2.2.1.length + 1, ((nx s).2.2.2, vs), 0) := by
        unfold fst1
        rw [if_neg (by dsimp only; omega), if_neg (by dsimp only; omega), if_pos hk]
      obtain ⟨m1, h1⟩ := TA_next hta (by omega)
      have hvs : vsx vs (nx s) = vs := by unfold vsx; rw [if_neg (by omega)]
      rw [hvs] at h1
      obtain ⟨w0, _, _, hw12⟩ := nx_str hk
      refine xP_s rfl rfl rfl ?_
      refine xP_s rfl rfl rfl ?_
      refine xP_get rfl h25 rfl ?_
      refine xP_s rfl rfl rfl ?_
      refine xP_s rfl rfl rfl ?_
      refine xP_put rfl h25 (Nat.le_of_ble_eq_true rfl) rfl ?_
      rw [show nI a + 1 = nI (a + 1) from nI_1 a]
      refine xP_s rfl rfl rfl ?_
      refine xP_s rfl rfl rfl ?_
      refine xP_cv rfl rfl rfl rfl rfl h25' (p_string h0 hw1 hta hsx hk hbud (fun A2 F2 x1 x2 x3 x4 x5 x6 => ?_))
      repeat' first
        | refine xP_s rfl rfl rfl ?_
        | refine xP_ret rfl rfl rfl ?_
      exact ko A2 F2 (a + 1) m1 pr _ _ _ eq0 (by omega) x1 h1 x2 x3 x4 x5 ((s1.trans x6).wide (by decide))
    · have hk : (nx s).1 = 5 := by
        have e1 : (5 : Int32).toInt = ((nx s).1 : Int) := by rw [← hkd, hx]
        have e2 : (5 : Int32).toInt = 5 := rfl
        omega
      refine xP_s rfl rfl rfl ?_
      refine xP_s rfl rfl rfl ?_
      refine xP_cv rfl rfl rfl rfl rfl h25 (p_enclosed (most := most) he hd IH h0 hsl hch hw hta hsx hk hbud (fun A2 z1 z2 => ?_) (fun A2 F2 a2 m2 pr2 L D st' z1 z2 z3 z4 z5 z6 z7 z8 z9 => ?_))
      · repeat' first
          | refine xP_s rfl rfl rfl ?_
          | refine xP_ret rfl rfl rfl ?_
        exact kb A2 z1 z2
      · repeat' first
          | refine xP_s rfl rfl rfl ?_
          | refine xP_ret rfl rfl rfl ?_
        exact ko A2 F2 a2 m2 pr2 L D st' z1 z2 z3 z4 z5 z6 z7 z8 z9
  · simp only [List.mem_cons, List.not_mem_nil, or_false, forall_eq_or_imp, forall_eq] at hx
    have hk0 : (nx s).1 = 0 := by
      have hne : ∀ k : Nat, k < 2 ^ 31 → ¬ G.1 a = nI k → ¬ (nx s).1 = k := fun k hk hn hh => hn (Int32.toInt_inj.mp (by rw [hkd, nI_toInt hk, hh]))
      have e1 := hne 1 (by omega) hx.1
      have e2 := hne 2 (by omega) hx.2.1
      have e3 := hne 3 (by omega) hx.2.2.1
      have e4 := hne 4 (by omega) hx.2.2.2.1
      have e5 := hne 5 (by omega) hx.2.2.2.2
      omega
    have eq0 : fst1 sl (tmF sl e) most (s, vs) = none := by
      have hm : ∀ c, ¬ isMk s c = true := fun c h => by
        have := (isMk_k h).1
        omega
      unfold fst1
      rw [if_neg (by dsimp only; omega), if_neg (by dsimp only; omega), if_neg (by dsimp only; omega), if_neg (by dsimp only; omega), if_neg (hm 40), if_neg (hm 123), if_neg (hm 91)]
    repeat' first
      | refine xP_s rfl rfl rfl ?_
      | refine xP_ret rfl rfl rfl ?_
    exact kb A (Or.inl eq0) ⟨n, F, a, pr, hw, Nat.le_refl _, xA0.refl _ _, by omega, xSame.refl _ _⟩
end PX
