-- the reference: nameBegins, whole of it
section NH
variable {sc : xSc} {d g : Nat} {A B C : List xC} {o : Nat → Int64} {P : xO → xH → Prop} {N vs N0 : List (List Nat)} {t : List Nat} {Q Q0 : List xIt} {F : List xFr} {f : xFr} {sl : List xSl} {v : Nat → Int32} {a : Nat → Nat → Int32}
/-- a frame is entered: what comes of it -/
theorem q_push {x1 : Int32} {pu ow : Nat} {s : List Nat} {v0 : Nat → Int32} {a0 : Nat → Nat → Int32} (hB : B.length = 28) (hu : zU t sl v a o vs N Q F) (h27 : ∃ p, v 27 = nI p ∧ t.drop p = s ∧ p ≤ t.length) (h28 : v 28 = 0) (hN : ∃ M, N = N0 ++ M) (hQ : ∃ R, Q = Q0 ++ R) (hpu : pu ≤ 7) (how : ow ≤ 2000) (hv0 : vS v0 v vR) (ha0 : aS a0 a aR)
    (k1 : ∀ v' a' s' vs' N' Q' F', psh F s vs N Q x1.toInt pu ow = some (s', vs', N', Q', F') → zS t sl v' a' o s' vs' N' Q' F' → vS v0 v' vR → aS a0 a' aR → P (.inl none) (mH B C v' a' o, g))
    (k0 : psh F s vs N Q x1.toInt pu ow = none → ∀ v' a', zBd t sl v' a' o N0 Q0 → vS v0 v' vR → aS a0 a' aR → P (.inl none) (mH B C v' a' o, g)) : xM1 sc d 169 [.ref 28, .int x1, .int (nI pu), .int (nI ow)] (mH B C v a o, g) P := by
  have hq := hu.2.2.2.2.1
  refine q_enter hB hu.2.2.2.2.2 hq.1 hq.2.1 hpu how (fun hl v' a' y1 y2 y3 => ?_) (fun hl v' y1 y2 => ?_)
  · refine k1 v' a' _ _ _ _ _ (if_pos hl) ⟨hu.fr y2 y3 y1, ?_, ?_⟩ (hv0.trans (y2.wide (by decide))) (ha0.trans (y3.wide (by decide)))
    · rw [y2 27 (by decide)]
      exact h27
    · rw [y2 28 (by decide)]
      exact h28
  · obtain ⟨p, e1, e2, e3⟩ := h27
    have h120 := hu.1.2.1
    refine k0 (if_neg (by omega)) v' a ((hu.sc (y2.wide (by decide)) (aS.refl _ _)).bad y1 ⟨p, ?_, by omega⟩ hN hQ) (hv0.trans (y2.wide (by decide))) ha0
    rw [y2 27 (by decide)]
    exact e1
set_option maxHeartbeats 8000000 in
set_option maxRecDepth 100000 in
theorem q_nameBegins {s : List Nat} {p : Nat} (hB : B.length = 28) (hu : zU t sl v a o vs N Q (F ++ [f])) (hgd : ∀ c ∈ t, 32 ≤ c ∧ c ≤ 126) (hd : t.drop p = s) (hp : p ≤ t.length) (hk : zK t v a (nx s)) (h1 : (nx s).1 = 1) (h24 : v 24 = xb (qd s)) (h27 : v 27 = v 22) (h28 : v 28 = 0)
    (hrm : rmS s vs N Q) (hN : ∃ M, N = N0 ++ M) (hQ : ∃ R, Q = Q0 ++ R)
    (k1 : ∀ v' a' s' vs' N' Q' F', nbF sl s vs N Q F f = some (s', vs', N', Q', F') → zS t sl v' a' o s' vs' N' Q' F' → vS v v' vR → aS a a' aR → P (.inl none) (mH B C v' a' o, g))
    (k0 : nbF sl s vs N Q F f = none → ∀ v' a', zBd t sl v' a' o N0 Q0 → vS v v' vR → aS a a' aR → P (.inl none) (mH B C v' a' o, g)) : xM1 sc (d + 4) 174 [.ref 28, .int (nI F.length)] (mH B C v a o, g) P := by
  obtain ⟨rm1, rm2, rm3, rm4⟩ := hrm
  have ht := hu.1
  have h120 := ht.2.1
  have hfl := hu.2.2.2.2.2.top
  obtain ⟨tw, hts, htw⟩ := nx_sfx (s := s) (by omega)
  obtain ⟨hr, hrl⟩ := drop_sfx hd hp hts
  have hnm := nx_nm (s := s) (Or.inl h1)
  obtain ⟨e, he1, he2, he3⟩ := hk.2.2.1
  have he3 := he3 (by omega)
  have he27 : v 27 = nI e := h27.trans he2
  rw [← he3] at hr
  have hslen : 1 ≤ s.length := by
    rw [hts, List.length_append]
    omega
  unfold xM1
  refine q_min1 hB ht hk h1 h24 (by rw [← he3]; exact hr) ?_
  rw [← isMin_1 h1]
  refine xP_s rfl rfl rfl ?_
  refine xP_s rfl rfl rfl ?_
  cases hmin : isMin s (nx s) with
  | true =>
    -- a minus ahead of a number
    have eF : nbF sl s vs N Q F f = (if (nx (nx s).2.2.2).1 = 3 then some ((nx (nx s).2.2.2).2.2.2, vs, N, Q ++ [(1, -((nx (nx s).2.2.2).2.1 : Int), [], 0)], F ++ [sL f 0]) else none) := by
      unfold nbF
      rw [if_pos hmin]
    rw [eF] at k1 k0
    refine xP_s rfl rfl rfl ?_
    refine xP_s rfl rfl rfl ?_
    refine xP_s rfl rfl rfl ?_
    refine xP_zg rfl hB rfl he27 ?_
    refine xP_cv rfl rfl rfl rfl rfl (mH_28 hB) (q_scan hB ht hr (by omega) (fun v1 a1 y1 y2 y3 y4 => ?_))
    obtain ⟨e', w1, w2, w3⟩ := y1.2.2.1
    obtain ⟨_, t1, t7⟩ := tkN_4 (nx (nx s).2.2.2).1 y1.1
    have hT := toI (tkN (nx (nx s).2.2.2).1) (by omega)
    have hu1 : zU t sl v1 a1 o vs N Q (F ++ [f]) := hu.sc (y3.wide (by decide)) y4
    have g28 : v1 28 = 0 := by rw [y3 28 (by decide)]; exact h28
    have c1 : (1 : Int32).toInt = 1 := rfl
    refine xP_s rfl rfl rfl ?_
    refine xP_s rfl rfl rfl ?_
    refine xP_zg rfl hB rfl w2 ?_
    refine xP_zp rfl hB rfl rfl ?_
    have fv : vS v (upd v1 27 (nI e')) vR := (y3.wide (by decide)).up (by decide)
    have fa : aS a a1 aR := y4.wide (by decide)
    refine xP_s rfl rfl rfl ?_
    refine xP_s rfl rfl rfl ?_
    refine xP_zg rfl hB rfl ((upd_n (by decide)).trans g28) ?_
    refine xP_s rfl rfl rfl ?_
    refine xP_s rfl rfl rfl ?_
    refine xP_zg rfl hB rfl ((upd_n (by decide)).trans y1.2.1) ?_
    refine xP_s rfl rfl rfl ?_
    refine xP_s rfl rfl rfl ?_
    refine xP_if (fun z1 => ?_) (fun z1 => ?_)
    · have q := xc_t z1
      dsimp only at q
      have h3 : (nx (nx s).2.2.2).1 = 3 := t1.mp (by omega)
      rw [if_pos h3] at k1
      have gdr : ∀ c ∈ (nx s).2.2.2, 32 ≤ c ∧ c ≤ 126 := fun c hc => hgd c (List.mem_of_mem_drop (hr ▸ hc))
      have hval := nx_val gdr h3
      have e23 := y1.2.2.2.2 (Or.inl h3)
      obtain ⟨tw2, hts2, _⟩ := nx_sfx (s := (nx s).2.2.2) (by omega)
      obtain ⟨hr2, hrl2⟩ := drop_sfx hr (by omega) hts2
      have w3 := w3 (by omega)
      refine xP_s rfl rfl rfl ?_
      refine xP_zp rfl hB rfl rfl ?_
      refine xP_s rfl rfl rfl ?_
      refine xP_s rfl rfl rfl ?_
      refine xP_s rfl rfl rfl ?_
      refine xP_zg rfl hB rfl ((upd_n (by decide)).trans ((upd_n (by decide)).trans e23)) ?_
      refine xP_s rfl rfl rfl ?_
      refine xP_s rfl rfl rfl ?_
      have hu2 : zU t sl (upd (upd v1 27 (nI e')) 28 0) a1 o vs N Q (F ++ [f]) := hu1.sc (((vS.u v1 27 (nI e')).wide (by decide)).up (by decide)) (aS.refl _ _)
      refine xP_cv rfl rfl rfl rfl rfl (mH_28 hB) (q_add (p := (1, -((nx (nx s).2.2.2).2.1 : Int), [], 0)) hB hu2.2.2.2.2.1 (by omega) ⟨by simp, rfl, fun _ => nI_neg hval, fun h => absurd h (by simp), rfl, by simp⟩ (fun v3 a3 x1 x2 x3 => ?_))
      have hu3 := hu2.ad x2 x3 x1
      refine xP_s rfl rfl rfl ?_
      refine xP_s rfl rfl rfl ?_
      refine xP_get rfl (mH_28 hB) rfl ?_
      refine xP_s rfl rfl rfl ?_
      refine xP_s rfl rfl rfl ?_
      refine xP_zs (n := 32) rfl hB rfl rfl (by omega) ?_
      repeat' first
        | refine xP_s rfl rfl rfl ?_
        | refine xP_ret rfl rfl rfl ?_
      refine k1 v3 _ _ _ _ _ _ rfl ⟨hu3.lf, ⟨e', ?_, by rw [w3]; exact hr2, by omega⟩, ?_⟩ ((fv.up (by decide)).trans (x2.wide (by decide))) ((fa.trans (x3.wide (by decide))).trans ((aS.u _ _ _).wide (by decide)))
      · rw [x2 27 (by decide), upd_n (by decide), upd_s]
      · rw [x2 28 (by decide), upd_s]
    · have q := xc_f z1
      dsimp only at q
      have h3 : ¬ (nx (nx s).2.2.2).1 = 3 := fun h => q (by rw [t1.mpr h]; rfl)
      rw [if_neg h3] at k0
      refine xP_s rfl rfl rfl ?_
      refine xP_s rfl rfl rfl ?_
      refine xP_zp rfl hB rfl rfl ?_
      refine xP_s rfl rfl rfl ?_
      refine xP_s rfl rfl rfl ?_
      refine xP_s rfl rfl rfl ?_
      refine xP_zg rfl hB rfl rfl ?_
      refine xP_s rfl rfl rfl ?_
      refine xP_s rfl rfl rfl ?_
      have hu2 : zU t sl (upd (upd v1 27 (nI e')) 28 1) a1 o vs N Q (F ++ [f]) := hu1.sc (((vS.u v1 27 (nI e')).wide (by decide)).up (by decide)) (aS.refl _ _)
      refine xP_cv rfl rfl rfl rfl rfl (mH_28 hB) (q_add (p := (1, (-(upd (upd v1 27 (nI e')) 28 1 23)).toInt, [], 0)) hB hu2.2.2.2.2.1 (by omega) ⟨by simp, rfl, fun _ => rfl, fun h => absurd h (by simp), rfl, by simp⟩ (fun v3 a3 x1 x2 x3 => ?_))
      have hu3 := hu2.ad x2 x3 x1
      refine xP_s rfl rfl rfl ?_
      refine xP_s rfl rfl rfl ?_
      refine xP_get rfl (mH_28 hB) rfl ?_
      refine xP_s rfl rfl rfl ?_
      refine xP_s rfl rfl rfl ?_
      refine xP_zs (n := 32) rfl hB rfl rfl (by omega) ?_
      repeat' first
        | refine xP_s rfl rfl rfl ?_
        | refine xP_ret rfl rfl rfl ?_
      refine k0 rfl v3 _ ((hu3.lf (x := 0)).bad ?_ ⟨e', ?_, by omega⟩ hN (app_pre hQ)) ((fv.up (by decide)).trans (x2.wide (by decide))) ((fa.trans (x3.wide (by decide))).trans ((aS.u _ _ _).wide (by decide)))
      · rw [x2 28 (by decide), upd_s]
      · rw [x2 27 (by decide), upd_n (by decide), upd_s]
  | false =>
    have hw := hk.2.2.2.1 (Or.inl h1)
    have hwl := hnm.1
    obtain ⟨op1, _⟩ := opk hu.2.1 h1
    refine xP_s rfl rfl rfl ?_
    refine xP_s rfl rfl rfl ?_
    refine xP_cv rfl rfl rfl rfl rfl (mH_28 hB) (q_intern hB hw hu.2.2.1 (fun _ => by omega) (fun v1 a1 j y1 y2 y3 y4 y5 => ?_))
    have hu1 : zU t sl v1 a1 o vs (nmA N (nx s).2.2.1) Q (F ++ [f]) := hu.nm (y4.wide (by decide)) (y5.wide (by decide)) y2
    have fv1 : vS v v1 vR := y4.wide (by decide)
    have fa1 : aS a a1 aR := y5.wide (by decide)
    have g22 : v1 22 = nI e := by rw [y4 22 (by decide)]; exact he2
    have g27 : v1 27 = nI e := by rw [y4 27 (by decide)]; exact he27
    have g28 : v1 28 = 0 := by rw [y4 28 (by decide)]; exact h28
    have ht1 := hu1.1
    have hlt : oz (nx s).2.2.2 0 < 128 := by
      rw [← oz_0 hr]
      exact ht.lt e
    have hC := toI (oz (nx s).2.2.2 0) (by omega)
    have c40 : (40 : Int32).toInt = 40 := rfl
    have c0 : (0 : Int32).toInt = 0 := rfl
    have hN1 := nmA_pre (w := (nx s).2.2.1) hN
    have hj3 : ∀ n, n ≤ 7 → zP (nmA N (nx s).2.2.1) 3 (nI j) (nI n) (3, 0, (nx s).2.2.1, n) := fun n hn => ⟨by simp, rfl, fun h => absurd h (by simp), fun _ => ⟨j, y1, rfl⟩, rfl, hn⟩
    refine xP_s rfl rfl rfl ?_
    refine xP_s rfl rfl rfl ?_
    refine xP_cv rfl rfl rfl rfl rfl (mH_28 hB) (q_key hB y3 ?_)
    refine xP_s rfl rfl rfl ?_
    refine xP_s rfl rfl rfl ?_
    refine xP_s rfl rfl rfl ?_
    refine xP_zg rfl hB rfl g22 ?_
    refine xP_cv rfl rfl rfl rfl rfl (mH_28 hB) (q_charAt hB ht1 (by omega) (oz_0 hr) ?_)
    refine xP_s rfl rfl rfl ?_
    refine xP_s rfl rfl rfl ?_
    refine xP_if (fun z1 => ?_) (fun z1 => ?_)
    · have q := xc_t z1
      dsimp only at q
      have hnc : isCal (nx s) = false := by
        unfold isCal
        have : ¬ (nx s).2.2.2.head? = some 40 := fun h => q (by rw [(hd_oz (by decide)).mp h]; rfl)
        simp [this]
      have eF : nbF sl s vs N Q F f = (match pfx sl f.1 s with
          | some e => psh (F ++ [f]) (nx s).2.2.2 vs (nmA N (nx s).2.2.1) (Q ++ [(3, 0, (nx s).2.2.1, 1)]) (oRight (some e)) 6 e.2.1
          | none => some ((nx s).2.2.2, vs, nmA N (nx s).2.2.1, Q ++ [(2, 0, (nx s).2.2.1, 0)], F ++ [sL f 0])) := by
        unfold nbF
        rw [if_neg (by simp [hmin]), if_neg (by simp [hnc])]
        rfl
      rw [eF] at k1 k0
      -- an atom
      have atom : pfx sl f.1 s = none → ∀ (v2 : Nat → Int32) (a2 : Nat → Nat → Int32) (x6 : Int32), zU t sl v2 a2 o vs (nmA N (nx s).2.2.1) Q (F ++ [f]) → v2 27 = nI e → v2 28 = 0 → vS v v2 vR → aS a a2 aR → xP sc (d + 4) 174 343 [(0, .ref 28), (1, .int (nI F.length)), (2, .int 0), (3, .int (nI j)), (4, .long (keM (nx s).2.2.1)), (6, .int x6)] [] (mH B C v2 a2 o, g) P := by
        intro hpf v2 a2 x6 hu2 g27 g28 fv fa
        rw [hpf] at k1
        refine xP_s rfl rfl rfl ?_
        refine xP_s rfl rfl rfl ?_
        refine xP_s rfl rfl rfl ?_
        refine xP_s rfl rfl rfl ?_
        refine xP_cv rfl rfl rfl rfl rfl (mH_28 hB) (q_add (p := (2, 0, (nx s).2.2.1, 0)) hB hu2.2.2.2.2.1 (by omega) ⟨by simp, rfl, fun h => absurd h (by simp), fun _ => ⟨j, y1, rfl⟩, rfl, by simp⟩ (fun v3 a3 x1 x2 x3 => ?_))
        have hu3 := hu2.ad x2 x3 x1
        refine xP_s rfl rfl rfl ?_
        refine xP_s rfl rfl rfl ?_
        refine xP_get rfl (mH_28 hB) rfl ?_
        refine xP_s rfl rfl rfl ?_
        refine xP_s rfl rfl rfl ?_
        refine xP_zs (n := 32) rfl hB rfl rfl (by omega) ?_
        repeat' first
          | refine xP_s rfl rfl rfl ?_
          | refine xP_ret rfl rfl rfl ?_
        refine k1 v3 _ _ _ _ _ _ rfl ⟨hu3.lf, ⟨e, ?_, hr, by omega⟩, ?_⟩ (fv.trans (x2.wide (by decide))) ((fa.trans (x3.wide (by decide))).trans ((aS.u _ _ _).wide (by decide)))
        · rw [x2 27 (by decide)]
          exact g27
        · rw [x2 28 (by decide)]
          exact g28
      refine xP_s rfl rfl rfl ?_
      refine xP_s rfl rfl rfl ?_
      refine xP_cv rfl rfl rfl rfl rfl (mH_28 hB) (q_prefixOf hB hu1.2.1 ?_)
      rw [op1]
      have hle := (hu1.2.1.le (key := tK (nx s))).1
      have hS := toI (slP (opP sl (tK (nx s)))) (by omega)
      refine xP_s rfl rfl rfl ?_
      refine xP_s rfl rfl rfl ?_
      refine xP_s rfl rfl rfl ?_
      refine xP_if (fun z2 => ?_) (fun z2 => ?_)
      · have q2 := xc_t z2
        dsimp only at q2
        refine atom ?_ v1 a1 _ hu1 g27 g28 fv1 fa1
        cases hx : pfx sl f.1 s with
        | none => rfl
        | some e2 =>
          have := (pfx_e hx).2.2.2.2.1
          have := (slP_pos hu1.2.1).2.mpr (by rw [this]; rfl)
          omega
      · have q2 := xc_f z2
        dsimp only at q2
        obtain ⟨e2, hx2⟩ := Option.isSome_iff_exists.mp ((slP_pos hu1.2.1 (key := tK (nx s))).2.mp (by omega))
        have hfl1 := hu1.2.2.2.2.2.top
        rw [hx2, sl_some] at hS hle
        rw [hx2, sl_some]
        refine xP_s rfl rfl rfl ?_
        refine xP_s rfl rfl rfl ?_
        refine xP_get rfl (mH_28 hB) rfl ?_
        refine xP_s rfl rfl rfl ?_
        refine xP_zl (n := 32) rfl hB rfl rfl (by omega) rfl ?_
        refine xP_s rfl rfl rfl ?_
        refine xP_if (fun z3 => ?_) (fun z3 => ?_)
        · have q3 := xc_t z3
          dsimp only at q3
          refine atom ?_ v1 a1 _ hu1 g27 g28 fv1 fa1
          cases hx : pfx sl f.1 s with
          | none => rfl
          | some e3 =>
            obtain ⟨_, _, _, _, p5, p6, _⟩ := pfx_e hx
            rw [hx2] at p5
            cases p5
            omega
        · have q3 := xc_f z3
          dsimp only at q3
          have hmost : (e2.2.1 : Int) ≤ f.1 := by omega
          refine xP_s rfl rfl rfl ?_
          refine xP_s rfl rfl rfl ?_
          refine xP_zg rfl hB rfl g27 ?_
          refine xP_cv rfl rfl rfl rfl rfl (mH_28 hB) (q_scan hB ht1 hr (by omega) (fun v2 a2 w1 w2 w3 w4 => ?_))
          have hu2 := hu1.sc (w3.wide (by decide)) w4
          have fv2 : vS v v2 vR := fv1.trans (w3.wide (by decide))
          have fa2 : aS a a2 aR := fa1.trans (w4.wide (by decide))
          have g27' : v2 27 = nI e := by rw [w3 27 (by decide)]; exact g27
          have g28' : v2 28 = 0 := by rw [w3 28 (by decide)]; exact g28
          have hr2 : (nx (nx s).2.2.2).1 = 1 → t.drop (t.length - (nx (nx s).2.2.2).2.2.2.length) = (nx (nx s).2.2.2).2.2.2 := fun h => by
            obtain ⟨tw2, hts2, _⟩ := nx_sfx (s := (nx s).2.2.2) (by omega)
            exact (drop_sfx hr (by omega) hts2).1
          refine q_min2 hB hu2.1 w1 w2 hr2 (fun b hb => ?_)
          refine q_bare (r := (nx s).2.2.2) hB hu2.1 hu2.2.1 w1 hr2 (fun h => by rw [isMin_1 h]; exact hb h) ?_
          refine xP_s rfl rfl rfl ?_
          refine xP_cv rfl rfl rfl rfl rfl (mH_28 hB) (q_canBegin hB w1 nx_pn ?_)
          refine xP_s rfl rfl rfl ?_
          rw [xb_eq0]
          have at2 : pfx sl f.1 s = none → xP sc (d + 4) 174 343 [(0, .ref 28), (1, .int (nI F.length)), (2, .int 0), (3, .int (nI j)), (4, .long (keM (nx s).2.2.1)), (6, .int (nI e2.2.1)), (7, .int (xb b)), (8, .int (xb (bare sl (nx s).2.2.2)))] [] (mH B C v2 a2 o, g) P := fun hpf => xP_more [(7, .int (xb b)), (8, .int (xb (bare sl (nx s).2.2.2)))] rfl (atom hpf v2 a2 _ hu2 g27' g28' fv2 fa2)
          refine xP_if (fun z4 => ?_) (fun z4 => ?_)
          · refine at2 ?_
            cases hx : pfx sl f.1 s with
            | none => rfl
            | some e3 =>
              have := (pfx_e hx).2.2.2.2.2.2.1
              rw [this] at z4
              cases z4
          · have hbg : bgn (nx (nx s).2.2.2) = true := by simpa using z4
            refine xP_s rfl rfl rfl ?_
            refine xP_s rfl rfl rfl ?_
            rw [xb_ne0]
            refine xP_if (fun z5 => ?_) (fun z5 => ?_)
            · refine at2 ?_
              cases hx : pfx sl f.1 s with
              | none => rfl
              | some e3 =>
                have := (pfx_e hx).2.2.2.2.2.2.2
                rw [this] at z5
                cases z5
            · have hpf : pfx sl f.1 s = some e2 := by
                unfold pfx
                rw [if_pos ⟨h1, hnc, hmin⟩, hx2]
                dsimp only
                rw [if_pos ⟨hmost, hbg, z5⟩]
              rw [hpf] at k1 k0
              dsimp only at k1 k0
              refine xP_s rfl rfl rfl ?_
              refine xP_s rfl rfl rfl ?_
              refine xP_s rfl rfl rfl ?_
              refine xP_s rfl rfl rfl ?_
              refine xP_cv rfl rfl rfl rfl rfl (mH_28 hB) (q_add (p := (3, 0, (nx s).2.2.1, 1)) hB hu2.2.2.2.2.1 (by omega) (hj3 1 (by decide)) (fun v3 a3 x1 x2 x3 => ?_))
              have hu3 := hu2.ad x2 x3 x1
              refine xP_s rfl rfl rfl ?_
              refine xP_s rfl rfl rfl ?_
              refine xP_s rfl rfl rfl ?_
              refine xP_s rfl rfl rfl ?_
              refine xP_cv rfl rfl rfl rfl rfl (mH_28 hB) (q_operandOf (e := e2) hB hu3.2.1 (by rw [op1]; exact hx2) (fun x hx => ?_))
              refine xP_s rfl rfl rfl ?_
              refine xP_s rfl rfl rfl ?_
              rw [← hx] at k1 k0
              refine xP_cv rfl rfl rfl rfl rfl (mH_28 hB) (q_push (pu := 6) (ow := e2.2.1) (x1 := x) (s := (nx s).2.2.2) (N0 := N0) (Q0 := Q0) (v0 := v) (a0 := a) hB hu3 ⟨e, by rw [x2 27 (by decide)]; exact g27', hr, by omega⟩ (by rw [x2 28 (by decide)]; exact g28') hN1 (app_pre hQ) (by decide) (by omega) (fv2.trans (x2.wide (by decide))) (fa2.trans (x3.wide (by decide))) (fun v' a' s' vs' N' Q' F' q1 q2 q3 q4 => ?_) (fun q1 v' a' q2 q3 q4 => ?_))
              · have kk := k1 v' a' s' vs' N' Q' F' q1 q2 q3 q4
                repeat' first
                  | refine xP_s rfl rfl rfl ?_
                  | refine xP_ret rfl rfl rfl ?_
                exact kk
              · have kk := k0 q1 v' a' q2 q3 q4
                repeat' first
                  | refine xP_s rfl rfl rfl ?_
                  | refine xP_ret rfl rfl rfl ?_
                exact kk
    · have q := xc_f z1
      dsimp only at q
      have hh : (nx s).2.2.2.head? = some 40 := (hd_oz (by decide)).mpr (by omega)
      have hnc : isCal (nx s) = true := by
        unfold isCal
        simp [h1, hh]
      obtain ⟨r2, er⟩ : ∃ r2, (nx s).2.2.2 = 40 :: r2 := by
        cases hx : (nx s).2.2.2 with
        | nil =>
          rw [hx] at hh
          cases hh
        | cons c r2 =>
          rw [hx, List.head?_cons] at hh
          cases hh
          exact ⟨r2, rfl⟩
      have eF : nbF sl s vs N Q F f = psh (F ++ [f]) (nx s).2.2.2.tail vs (nmA N (nx s).2.2.1) (Q ++ [(3, 0, (nx s).2.2.1, 0)]) 999 2 Q.length := by
        unfold nbF
        rw [if_neg (by simp [hmin]), if_pos hnc]
      rw [eF, er, List.tail_cons] at k1 k0
      rw [er] at hr
      obtain ⟨hd2, hp2⟩ := drop_c hr
      refine xP_s rfl rfl rfl ?_
      refine xP_s rfl rfl rfl ?_
      refine xP_zg rfl hB rfl g22 ?_
      refine xP_s rfl rfl rfl ?_
      refine xP_s rfl rfl rfl ?_
      rw [nI_p1]
      refine xP_zp rfl hB rfl rfl ?_
      have hu2 : zU t sl (upd v1 27 (nI (e + 1))) a1 o vs (nmA N (nx s).2.2.1) Q (F ++ [f]) := hu1.sc ((vS.u v1 27 (nI (e + 1))).wide (by decide)) (aS.refl _ _)
      refine xP_s rfl rfl rfl ?_
      refine xP_s rfl rfl rfl ?_
      refine xP_s rfl rfl rfl ?_
      refine xP_s rfl rfl rfl ?_
      refine xP_cv rfl rfl rfl rfl rfl (mH_28 hB) (q_add (p := (3, 0, (nx s).2.2.1, 0)) hB hu2.2.2.2.2.1 (by omega) (hj3 0 (by decide)) (fun v3 a3 x1 x2 x3 => ?_))
      have hu3 := hu2.ad x2 x3 x1
      refine xP_s rfl rfl rfl ?_
      refine xP_s rfl rfl rfl ?_
      refine xP_s rfl rfl rfl ?_
      refine xP_s rfl rfl rfl ?_
      refine xP_s rfl rfl rfl ?_
      refine xP_cv rfl rfl rfl rfl rfl (mH_28 hB) (q_push (pu := 2) (ow := Q.length) (x1 := 999) (s := r2) (N0 := N0) (Q0 := Q0) (v0 := v) (a0 := a) hB hu3 ⟨e + 1, by rw [x2 27 (by decide), upd_s], hd2, by omega⟩ (by rw [x2 28 (by decide), upd_n (by decide)]; exact g28) hN1 (app_pre hQ) (by decide) (by omega) ((fv1.up (by decide)).trans (x2.wide (by decide))) (fa1.trans (x3.wide (by decide))) (fun v' a' s' vs' N' Q' F' q1 q2 q3 q4 => ?_) (fun q1 v' a' q2 q3 q4 => ?_))
      · have kk := k1 v' a' s' vs' N' Q' F' q1 q2 q3 q4
        repeat' first
          | refine xP_s rfl rfl rfl ?_
          | refine xP_ret rfl rfl rfl ?_
        exact kk
      · have kk := k0 q1 v' a' q2 q3 q4
        repeat' first
          | refine xP_s rfl rfl rfl ?_
          | refine xP_ret rfl rfl rfl ?_
        exact kk
end NH
