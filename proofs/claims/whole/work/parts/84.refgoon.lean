-- the reference: goOn, whole of it
section NL
variable {sc : xSc} {d g : Nat} {A B C : List xC} {o : Nat → Int64} {P : xO → xH → Prop} {N vs N0 : List (List Nat)} {t s : List Nat} {Q Q0 : List xIt} {F : List xFr} {f : xFr} {sl : List xSl} {v : Nat → Int32} {a : Nat → Nat → Int32}
theorem inV_n {key : Int64} (h : opB sl key = none) : inV sl key = 0 ∧ poV sl key = 0 := by
  unfold inV poV
  rw [h]
  exact ⟨rfl, rfl⟩
theorem inV_i {key : Int64} {e : xSl} (h : opB sl key = some e) (hi : oInf (some e) = true) : inV sl key = e.2.1 ∧ poV sl key = 0 := by
  unfold inV poV
  rw [h, if_pos hi, if_pos hi]
  exact ⟨rfl, rfl⟩
theorem inV_p {key : Int64} {e : xSl} (h : opB sl key = some e) (hi : ¬ oInf (some e) = true) : inV sl key = 0 ∧ poV sl key = e.2.1 := by
  unfold inV poV
  rw [h, if_neg hi, if_neg hi]
  exact ⟨rfl, rfl⟩
theorem goF_7 (h : (nx s).1 = 7) : goF sl s vs N Q F f = none := by
  unfold goF
  rw [if_pos h]
set_option maxHeartbeats 8000000 in
set_option maxRecDepth 100000 in
theorem q_goOn (hB : B.length = 28) (hS : zS t sl v a o s vs N Q (F ++ [f])) (hgd : ∀ c ∈ t, 32 ≤ c ∧ c ≤ 126)
    (hrow : f.2.1 ≤ Q.length ∧ Q0.length ≤ f.2.1) (hpu : F = [] ∨ 1 ≤ f.2.2.2.1) (hpo : f.2.2.2.1 = 2 → ∃ q, Q[f.2.2.2.2]? = some q ∧ q.2.2.2 ≤ 6 ∧ Q0.length ≤ f.2.2.2.2)
    (hrm : rmS s vs N Q) (hN : ∃ M, N = N0 ++ M) (hQ : ∃ R, Q = Q0 ++ R)
    (k1 : ∀ v' a' s' vs' N' Q' F', goF sl s vs N Q F f = some (s', vs', N', Q', F') → zS t sl v' a' o s' vs' N' Q' F' → vS v v' vR → aS a a' aR → P (.inl none) (mH B C v' a' o, g))
    (k0 : goF sl s vs N Q F f = none → ∀ v' a', zBd t sl v' a' o N0 Q0 → vS v v' vR → aS a a' aR → P (.inl none) (mH B C v' a' o, g)) : xM1 sc (d + 5) 175 [.ref 28] (mH B C v a o, g) P := by
  obtain ⟨rm1, rm2, rm3, rm4⟩ := hrm
  obtain ⟨hu, ⟨p, e27, hd, hp⟩, h28⟩ := hS
  have ht := hu.1
  have h120 := ht.2.1
  have hfl := hu.2.2.2.2.2.top
  have em : nI (F.length + 1) - 1 = nI F.length := nIm1 (n := F.length + 1) (by omega)
  have c0 : (0 : Int32).toInt = 0 := rfl
  have c4 : (4 : Int32).toInt = 4 := rfl
  have c5 : (5 : Int32).toInt = 5 := rfl
  have c44 : (44 : Int32).toInt = 44 := rfl
  unfold xM1
  refine xP_s rfl rfl rfl ?_
  refine xP_zg rfl hB rfl hfl.1 ?_
  refine xP_s rfl rfl rfl ?_
  refine xP_s rfl rfl rfl ?_
  rw [em]
  refine xP_s rfl rfl rfl ?_
  refine xP_s rfl rfl rfl ?_
  refine xP_s rfl rfl rfl ?_
  refine xP_zg rfl hB rfl e27 ?_
  refine xP_cv rfl rfl rfl rfl rfl (mH_28 hB) (q_scan hB ht hd hp (fun v1 a1 y1 y2 y3 y4 => ?_))
  have hk7 := y1.1
  obtain ⟨e, w1, w2, w3⟩ := y1.2.2.1
  have hu1 : zU t sl v1 a1 o vs N Q (F ++ [f]) := hu.sc (y3.wide (by decide)) y4
  have fv1 : vS v v1 vR := y3.wide (by decide)
  have fa1 : aS a a1 aR := y4.wide (by decide)
  have g27 : v1 27 = nI p := by rw [y3 27 (by decide)]; exact e27
  have g28 : v1 28 = 0 := by rw [y3 28 (by decide)]; exact h28
  have hsf : (nx s).1 < 6 → t.drop e = (nx s).2.2.2 ∧ e ≤ t.length ∧ (nx s).2.2.2.length + 1 ≤ s.length := fun h => by
    obtain ⟨tw, hts, htw⟩ := nx_sfx (s := s) h
    obtain ⟨q1, q2⟩ := drop_sfx hd hp hts
    rw [w3 h]
    refine ⟨q1, by omega, ?_⟩
    have := congrArg List.length hts
    rw [List.length_append] at this
    omega
  have hob := meK_B (s := s) hu1.2.1
  have t45 : ∀ k, k ≤ 7 → (tkN k = 5 ↔ k = 5) ∧ (tkN k = 4 ↔ k = 1) := by decide
  have hT := toI (tkN (nx s).1) (by have := (tkN_4 _ hk7).2.2; omega)
  -- from 66 on
  have at66 : xP sc (d + 5) 175 66 [(0, .ref 28), (1, .int (nI F.length)), (2, .int (xb (isMk s 44)))] [.long (meK s)] (mH B C v1 a1 o, g) P := by
    -- pops
    have pop : ∀ (v2 : Nat → Int32) (a2 : Nat → Nat → Int32) (N' : List (List Nat)) (ex : xL), ndB (([(0, Value.ref 28), (1, .int (nI F.length))] ++ ex).map Prod.fst) = true → zU t sl v2 a2 o vs N' Q (F ++ [f]) → v2 27 = nI p → v2 28 = 0 → v2 20 = nI (tkN (nx s).1) → (¬ (nx s).1 = 7 → goF sl s vs N Q F f = popF s vs N' Q F f) → N'.length ≤ N.length + 1 → ltN N' ≤ ltN N + 24 → (∃ M, N' = N0 ++ M) → vS v v2 vR → aS a a2 aR → xP sc (d + 5) 175 251 ([(0, .ref 28), (1, .int (nI F.length))] ++ ex) [] (mH B C v2 a2 o, g) P := by
      intro v2 a2 N' ex hex hu2 i27 i28 i20 eF l1 l2 hN' fv fa
      refine xP_more ex hex ?_
      refine q_pop (N0 := N0) (Q0 := Q0) (v0 := v) (a0 := a) hB hu2 i27 hd hp i28 i20 hk7 hpu hpo rm1 (by omega) (by omega) hN' hQ fv fa (fun h7 v' a' s' vs' N'' Q' F' q1 q2 q3 q4 => k1 v' a' s' vs' N'' Q' F' ((eF h7).trans q1) q2 q3 q4) (fun h v' a' q2 q3 q4 => k0 ?_ v' a' q2 q3 q4)
      by_cases h7 : (nx s).1 = 7
      · exact goF_7 h7
      · rcases h with y | y
        · exact absurd y h7
        · exact (eF h7).trans y
    have hle := (hu1.2.1.le (key := meK s)).2
    -- from 184 on, no postfix operator being taken
    have at184 : ∀ (v2 : Nat → Int32) (a2 : Nat → Nat → Int32) (N' : List (List Nat)) (x6 : Int32) (ex : xL), (ex = [] ∨ ∃ x, ex = [(7, .int x)]) → (opB sl (tK (nx s)) = none ∨ ∃ e, opB sl (tK (nx s)) = some e ∧ (oInf (some e) = true ∨ ¬ ((e.2.1 : Int) ≤ f.1 ∧ f.2.2.1 ≤ oLeft (some e)))) → zU t sl v2 a2 o vs N' Q (F ++ [f]) → v2 27 = nI p → v2 28 = 0 → v2 20 = nI (tkN (nx s).1) → (¬ (nx s).1 = 7 → goF sl s vs N Q F f = popF s vs N' Q F f) → N'.length ≤ N.length + 1 → ltN N' ≤ ltN N + 24 → (∃ M, N' = N0 ++ M) → vS v v2 vR → aS a a2 aR → xP sc (d + 5) 175 184 ([(0, .ref 28), (1, .int (nI F.length)), (2, .int (xb (isMk s 44))), (3, .long (meK s)), (5, .int (nI e)), (6, .int x6)] ++ ex) [] (mH B C v2 a2 o, g) P := by
      intro v2 a2 N' x6 ex hex hno hu2 i27 i28 i20 eF l1 l2 hN' fv fa
      have base : xP sc (d + 5) 175 184 [(0, .ref 28), (1, .int (nI F.length)), (2, .int (xb (isMk s 44))), (3, .long (meK s)), (5, .int (nI e)), (6, .int x6)] [] (mH B C v2 a2 o, g) P := by
        have pp : ∀ y, xP sc (d + 5) 175 251 [(0, .ref 28), (1, .int (nI F.length)), (2, .int (xb (isMk s 44))), (3, .long (meK s)), (5, .int (nI e)), (6, .int x6), (7, .int y)] [] (mH B C v2 a2 o, g) P := fun y => pop v2 a2 N' [(2, .int (xb (isMk s 44))), (3, .long (meK s)), (5, .int (nI e)), (6, .int x6), (7, .int y)] rfl hu2 i27 i28 i20 eF l1 l2 hN' fv fa
        have hle2 := (hu2.2.1.le (key := meK s)).2
        have hfl2 := hu2.2.2.2.2.2.top
        refine xP_s rfl rfl rfl ?_
        refine xP_s rfl rfl rfl ?_
        refine xP_cv rfl rfl rfl rfl rfl (mH_28 hB) (q_postfixOf hB hu2.2.1 ?_)
        have hpl : poV sl (meK s) ≤ 1200 := by
          have := ip_sum (key := meK s) hu2.2.1
          omega
        have hPo := toI (poV sl (meK s)) (by omega)
        refine xP_s rfl rfl rfl ?_
        refine xP_s rfl rfl rfl ?_
        refine xP_s rfl rfl rfl ?_
        refine xP_if (fun z => ?_) (fun z => ?_)
        · exact pp _
        · have q := xc_f z
          dsimp only at q
          rcases hno with hn | ⟨e2, hn, hn2⟩
          · rw [← hob] at hn
            have := (inV_n hn).2
            omega
          · rw [← hob] at hn
            by_cases hi : oInf (some e2) = true
            · have := (inV_i hn hi).2
              omega
            · have hpo2 := (inV_p hn hi).2
              have hn3 : ¬ ((e2.2.1 : Int) ≤ f.1 ∧ f.2.2.1 ≤ oLeft (some e2)) := by
                rcases hn2 with y | y
                · exact absurd y hi
                · exact y
              rw [hpo2] at hPo q
              rw [hpo2]
              refine xP_s rfl rfl rfl ?_
              refine xP_s rfl rfl rfl ?_
              refine xP_get rfl (mH_28 hB) rfl ?_
              refine xP_s rfl rfl rfl ?_
              refine xP_zl (n := 32) rfl hB rfl rfl (by omega) rfl ?_
              refine xP_s rfl rfl rfl ?_
              refine xP_if (fun z2 => ?_) (fun z2 => ?_)
              · exact pp _
              · have q2 := xc_f z2
                dsimp only at q2
                refine xP_s rfl rfl rfl ?_
                refine xP_get rfl (mH_28 hB) rfl ?_
                refine xP_s rfl rfl rfl ?_
                refine xP_zl (n := 32) rfl hB rfl rfl (by omega) rfl ?_
                refine xP_s rfl rfl rfl ?_
                refine xP_s rfl rfl rfl ?_
                refine xP_cv rfl rfl rfl rfl rfl (mH_28 hB) (q_leftOf hB hu2.2.1 hn (fun x hx => ?_))
                refine xP_s rfl rfl rfl ?_
                refine xP_if (fun z3 => ?_) (fun z3 => ?_)
                · exact pp _
                · have q3 := xc_f z3
                  dsimp only at q3
                  exact absurd ⟨by omega, by omega⟩ hn3
      rcases hex with rfl | ⟨x, rfl⟩
      · exact base
      · exact xP_more [(7, .int x)] rfl base
    have hil : inV sl (meK s) ≤ 1200 := by
      have := ip_sum (key := meK s) hu1.2.1
      omega
    have hIn := toI (inV sl (meK s)) (by omega)
    refine xP_s rfl rfl rfl ?_
    refine xP_s rfl rfl rfl ?_
    refine xP_zg rfl hB rfl w2 ?_
    refine xP_s rfl rfl rfl ?_
    refine xP_s rfl rfl rfl ?_
    refine xP_s rfl rfl rfl ?_
    refine xP_cv rfl rfl rfl rfl rfl (mH_28 hB) (q_infixOf hB hu1.2.1 ?_)
    refine xP_s rfl rfl rfl ?_
    refine xP_s rfl rfl rfl ?_
    refine xP_s rfl rfl rfl ?_
    cases hx : opB sl (tK (nx s)) with
    | none =>
      have hx' := hob.trans hx
      have hgo : ¬ (nx s).1 = 7 → goF sl s vs N Q F f = popF s vs N Q F f := fun h7 => by
        unfold goF
        rw [if_neg h7, hx]
      rw [(inV_n hx').1]
      refine xP_if (fun z => ?_) (fun z => ?_)
      · exact at184 v1 a1 N _ [] (Or.inl rfl) (Or.inl hx) hu1 g27 g28 y1.2.1 hgo (by omega) (by omega) hN fv1 fa1
      · exact absurd z (by decide)
    | some e2 =>
      have hx' := hob.trans hx
      have he2 := hu1.2.1.eB hx'
      by_cases hi : oInf (some e2) = true
      · -- an infix operator
        have hin := (inV_i hx' hi).1
        rw [hin] at hIn
        rw [hin]
        have popN : ¬ ((e2.2.1 : Int) ≤ f.1 ∧ f.2.2.1 ≤ oLeft (some e2)) → xP sc (d + 5) 175 184 [(0, .ref 28), (1, .int (nI F.length)), (2, .int (xb (isMk s 44))), (3, .long (meK s)), (5, .int (nI e)), (6, .int (nI e2.2.1))] [] (mH B C v1 a1 o, g) P := fun hno => by
          refine at184 v1 a1 N _ [] (Or.inl rfl) (Or.inr ⟨e2, hx, Or.inr hno⟩) hu1 g27 g28 y1.2.1 (fun h7 => ?_) (by omega) (by omega) hN fv1 fa1
          unfold goF
          rw [if_neg h7, hx]
          dsimp only
          rw [if_neg hno]
        refine xP_if (fun z => ?_) (fun z => ?_)
        · have q := xc_t z
          dsimp only at q
          omega
        · refine xP_s rfl rfl rfl ?_
          refine xP_s rfl rfl rfl ?_
          refine xP_get rfl (mH_28 hB) rfl ?_
          refine xP_s rfl rfl rfl ?_
          have hfl1 := hu1.2.2.2.2.2.top
          refine xP_zl (n := 32) rfl hB rfl rfl (by omega) rfl ?_
          refine xP_s rfl rfl rfl ?_
          refine xP_if (fun z2 => ?_) (fun z2 => ?_)
          · have q2 := xc_t z2
            dsimp only at q2
            exact popN (fun h => by omega)
          · have q2 := xc_f z2
            dsimp only at q2
            refine xP_s rfl rfl rfl ?_
            refine xP_get rfl (mH_28 hB) rfl ?_
            refine xP_s rfl rfl rfl ?_
            refine xP_zl (n := 32) rfl hB rfl rfl (by omega) rfl ?_
            refine xP_s rfl rfl rfl ?_
            refine xP_s rfl rfl rfl ?_
            refine xP_cv rfl rfl rfl rfl rfl (mH_28 hB) (q_leftOf hB hu1.2.1 hx' (fun x hxl => ?_))
            refine xP_s rfl rfl rfl ?_
            refine xP_if (fun z3 => ?_) (fun z3 => ?_)
            · have q3 := xc_t z3
              dsimp only at q3
              exact popN (fun h => by omega)
            · have q3 := xc_f z3
              dsimp only at q3
              have hyes : (e2.2.1 : Int) ≤ f.1 ∧ f.2.2.1 ≤ oLeft (some e2) := ⟨by omega, by omega⟩
              have hkd : (nx s).1 = 1 ∨ isMk s 44 = true := by
                rcases Nat.lt_or_ge (nx s).1 1 with y | y
                · unfold tK at hx
                  rw [if_neg (by omega), if_neg (by omega), (hu1.2.1.none).2.2.1] at hx
                  cases hx
                · by_cases h1 : (nx s).1 = 1
                  · exact Or.inl h1
                  · by_cases h2 : (nx s).1 = 5 ∧ (nx s).2.1 = 44
                    · exact Or.inr (isMk_5.mpr h2)
                    · unfold tK at hx
                      rw [if_neg h1, if_neg h2, (hu1.2.1.none).2.2.1] at hx
                      cases hx
              have h6 : (nx s).1 < 6 := by
                rcases hkd with y | y
                · omega
                · exact isMk_6 y
              obtain ⟨r1, r2, r3⟩ := hsf h6
              have eG : goF sl s vs N Q F f = (if bgn (nx (nx s).2.2.2) = true then psh (F ++ [f]) (nx s).2.2.2 vs (nmA N (nmOf (nx s))) (ins Q f.2.1 (3, 0, nmOf (nx s), 2)) (oRight (some e2)) 7 e2.2.1 else popF s vs (nmA N (nmOf (nx s))) Q F f) := by
                unfold goF
                rw [if_neg (by omega), hx]
                dsimp only
                rw [if_pos hyes, if_pos hi]
              have hnl : (nmOf (nx s)).length ≤ 24 := by
                unfold nmOf
                split
                next h1 => exact (nx_nm (s := s) (Or.inl h1)).1
                next => decide
              -- the name is there
              have at128 : ∀ (v2 : Nat → Int32) (a2 : Nat → Nat → Int32) (j : Nat), (nmA N (nmOf (nx s)))[j]? = some (nmOf (nx s)) → zU t sl v2 a2 o vs (nmA N (nmOf (nx s))) Q (F ++ [f]) → v2 27 = nI p → v2 28 = 0 → vS v v2 vR → aS a a2 aR → xP sc (d + 5) 175 128 [(0, .ref 28), (1, .int (nI F.length)), (2, .int (xb (isMk s 44))), (3, .long (meK s)), (5, .int (nI e)), (6, .int (nI e2.2.1))] [.int (nI j)] (mH B C v2 a2 o, g) P := by
                intro v2 a2 j hj hu2 i27 i28 fv fa
                refine xP_s rfl rfl rfl ?_
                refine xP_s rfl rfl rfl ?_
                refine xP_s rfl rfl rfl ?_
                refine xP_cv rfl rfl rfl rfl rfl (mH_28 hB) (q_scan hB hu2.1 r1 r2 (fun v3 a3 x1 x2 x3 x4 => ?_))
                have hu3 := hu2.sc (x3.wide (by decide)) x4
                have fv3 : vS v v3 vR := fv.trans (x3.wide (by decide))
                have fa3 : aS a a3 aR := fa.trans (x4.wide (by decide))
                have j27 : v3 27 = nI p := by rw [x3 27 (by decide)]; exact i27
                have j28 : v3 28 = 0 := by rw [x3 28 (by decide)]; exact i28
                have hfl3 := hu3.2.2.2.2.2.top
                refine xP_s rfl rfl rfl ?_
                refine xP_cv rfl rfl rfl rfl rfl (mH_28 hB) (q_canBegin hB x1 nx_pn ?_)
                refine xP_s rfl rfl rfl ?_
                rw [xb_eq0]
                refine xP_if (fun z => ?_) (fun z => ?_)
                · have hb : bgn (nx (nx s).2.2.2) = false := by simpa using z
                  rw [hb] at eG
                  refine xP_s rfl rfl rfl ?_
                  refine xP_s rfl rfl rfl ?_
                  refine xP_zg rfl hB rfl j27 ?_
                  refine xP_cv rfl rfl rfl rfl rfl (mH_28 hB) (q_scan hB hu3.1 hd hp (fun v4 a4 u1 u2 u3 u4 => ?_))
                  have hu4 := hu3.sc (u3.wide (by decide)) u4
                  have hl := nmA_len N (nmOf (nx s))
                  exact at184 v4 a4 (nmA N (nmOf (nx s))) _ [(7, .int (nI j))] (Or.inr ⟨_, rfl⟩) (Or.inr ⟨e2, hx, Or.inl hi⟩) hu4 (by rw [u3 27 (by decide)]; exact j27) (by rw [u3 28 (by decide)]; exact j28) u1.2.1 (fun _ => eG) hl.1 (by omega) (nmA_pre hN) (fv3.trans (u3.wide (by decide))) (fa3.trans (u4.wide (by decide)))
                · have hb : bgn (nx (nx s).2.2.2) = true := by simpa using z
                  rw [if_pos hb] at eG
                  rw [eG] at k1 k0
                  refine xP_s rfl rfl rfl ?_
                  refine xP_s rfl rfl rfl ?_
                  refine xP_get rfl (mH_28 hB) rfl ?_
                  refine xP_s rfl rfl rfl ?_
                  refine xP_zl (n := 32) rfl hB rfl rfl (by omega) hfl3.2.2.2.1 ?_
                  refine xP_s rfl rfl rfl ?_
                  refine xP_s rfl rfl rfl ?_
                  refine xP_cv rfl rfl rfl rfl rfl (mH_28 hB) (q_ahead (p := (3, 0, nmOf (nx s), 2)) hB hu3.2.2.2.2.1 (by omega) hrow.1 ⟨by simp, rfl, fun h => absurd h (by simp), fun _ => ⟨j, hj, rfl⟩, rfl, by simp⟩ (fun v4 a4 u1 u2 u3 => ?_))
                  have hu4 : zU t sl v4 a4 o vs (nmA N (nmOf (nx s))) (ins Q f.2.1 (3, 0, nmOf (nx s), 2)) (F ++ [f]) := hu3.ad u2 u3 u1
                  refine xP_s rfl rfl rfl ?_
                  refine xP_s rfl rfl rfl ?_
                  refine xP_zp rfl hB rfl rfl ?_
                  have hu5 : zU t sl (upd v4 27 (nI e)) a4 o vs (nmA N (nmOf (nx s))) (ins Q f.2.1 (3, 0, nmOf (nx s), 2)) (F ++ [f]) := hu4.sc ((vS.u v4 27 (nI e)).wide (by decide)) (aS.refl _ _)
                  refine xP_s rfl rfl rfl ?_
                  refine xP_s rfl rfl rfl ?_
                  refine xP_s rfl rfl rfl ?_
                  refine xP_cv rfl rfl rfl rfl rfl (mH_28 hB) (q_rightOf (e := e2) hB hu5.2.1 hx' (fun x hx => ?_))
                  refine xP_s rfl rfl rfl ?_
                  refine xP_s rfl rfl rfl ?_
                  rw [← hx] at k1 k0
                  refine xP_cv rfl rfl rfl rfl rfl (mH_28 hB) (q_push (pu := 7) (ow := e2.2.1) (x1 := x) (s := (nx s).2.2.2) (N0 := N0) (Q0 := Q0) (v0 := v) (a0 := a) hB hu5 ⟨e, upd_s, r1, r2⟩ (by rw [upd_n (by decide), u2 28 (by decide)]; exact j28) (nmA_pre hN) (ins_pre hQ hrow.2) (by decide) (by omega) ((fv3.trans (u2.wide (by decide))).up (by decide)) (fa3.trans (u3.wide (by decide))) (fun v' a' s' vs' N' Q' F' q1 q2 q3 q4 => ?_) (fun q1 v' a' q2 q3 q4 => ?_))
                  · have kk := k1 v' a' s' vs' N' Q' F' q1 q2 q3 q4
                    repeat' first
                      | refine xP_s rfl rfl rfl ?_
                      | refine xP_ret rfl rfl rfl ?_
                    exact kk
                  · have kk := k0 q1 v' a' q2 q3 q4
                    repeat' first
                      | refine xP_s rfl rfl rfl ?_
                      | refine xP_ret rfl rfl rfl ?_
                    exact kk
              refine xP_s rfl rfl rfl ?_
              refine xP_s rfl rfl rfl ?_
              rw [xb_eq0]
              refine xP_if (fun z4 => ?_) (fun z4 => ?_)
              · have h1 : (nx s).1 = 1 := by
                  rcases hkd with y | y
                  · exact y
                  · rw [y] at z4
                    cases z4
                have en : nmOf (nx s) = (nx s).2.2.1 := if_pos h1
                have hw := y1.2.2.2.1 (Or.inl h1)
                rw [← en] at hw
                refine xP_s rfl rfl rfl ?_
                refine xP_cv rfl rfl rfl rfl rfl (mH_28 hB) (q_intern hB hw hu1.2.2.1 (fun _ => by omega) (fun v2 a2 j x1 x2 x3 x4 x5 => ?_))
                exact at128 v2 a2 j x1 (hu1.nm (x4.wide (by decide)) (x5.wide (by decide)) x2) (by rw [x4 27 (by decide)]; exact g27) (by rw [x4 28 (by decide)]; exact g28) (fv1.trans (x4.wide (by decide))) (fa1.trans (x5.wide (by decide)))
              · have hc : isMk s 44 = true := by simpa using z4
                have en : nmOf (nx s) = [44] := if_neg (by have := (isMk_5.mp hc).1; omega)
                rw [en] at at128
                refine xP_s rfl rfl rfl ?_
                refine xP_s rfl rfl rfl ?_
                refine xP_s rfl rfl rfl ?_
                refine xP_cv rfl rfl rfl rfl rfl (mH_28 hB) (q_named1 (c := 44) hB hu1.2.2.1 (by decide) (fun _ => by omega) (fun v2 a2 j x1 x2 x3 x4 => ?_))
                refine xP_s rfl rfl rfl ?_
                exact at128 v2 a2 j x1 (hu1.nm x3 x4 x2) (by rw [x3 27 (by decide)]; exact g27) (by rw [x3 28 (by decide)]; exact g28) (fv1.trans (x3.wide (by decide))) (fa1.trans (x4.wide (by decide)))
      · -- a postfix operator
        have hin := inV_p hx' hi
        rw [hin.1]
        refine xP_if (fun z => ?_) (fun z => ?_)
        · by_cases hyes : (e2.2.1 : Int) ≤ f.1 ∧ f.2.2.1 ≤ oLeft (some e2)
          · have h1 : (nx s).1 = 1 := by
              by_cases h1 : (nx s).1 = 1
              · exact h1
              · by_cases h2 : (nx s).1 = 5 ∧ (nx s).2.1 = 44
                · exfalso
                  unfold tK at hx
                  rw [if_neg h1, if_pos h2] at hx
                  obtain ⟨Nn, _, _, _, _, _, h44, _⟩ := hu1.2.1
                  rw [h44] at hx
                  cases hx
                  exact hi rfl
                · unfold tK at hx
                  rw [if_neg h1, if_neg h2, (hu1.2.1.none).2.2.1] at hx
                  cases hx
            obtain ⟨r1, r2, r3⟩ := hsf (by omega)
            have eG : goF sl s vs N Q F f = some ((nx s).2.2.2, vs, nmA N (nx s).2.2.1, ins Q f.2.1 (3, 0, (nx s).2.2.1, 1), F ++ [sL f e2.2.1]) := by
              unfold goF
              rw [if_neg (by omega), hx]
              dsimp only
              rw [if_pos hyes, if_neg hi]
            have hw := y1.2.2.2.1 (Or.inl h1)
            have hwl := (nx_nm (s := s) (Or.inl h1)).1
            have hfl1 := hu1.2.2.2.2.2.top
            have hPo := toI e2.2.1 (by omega)
            refine xP_s rfl rfl rfl ?_
            refine xP_s rfl rfl rfl ?_
            refine xP_cv rfl rfl rfl rfl rfl (mH_28 hB) (q_postfixOf hB hu1.2.1 ?_)
            rw [hin.2]
            refine xP_s rfl rfl rfl ?_
            refine xP_s rfl rfl rfl ?_
            refine xP_s rfl rfl rfl ?_
            refine xP_if (fun z => ?_) (fun z => ?_)
            · have q := xc_t z
              dsimp only at q
              omega
            · refine xP_s rfl rfl rfl ?_
              refine xP_s rfl rfl rfl ?_
              refine xP_get rfl (mH_28 hB) rfl ?_
              refine xP_s rfl rfl rfl ?_
              refine xP_zl (n := 32) rfl hB rfl rfl (by omega) rfl ?_
              refine xP_s rfl rfl rfl ?_
              refine xP_if (fun z2 => ?_) (fun z2 => ?_)
              · have q2 := xc_t z2
                dsimp only at q2
                omega
              · refine xP_s rfl rfl rfl ?_
                refine xP_get rfl (mH_28 hB) rfl ?_
                refine xP_s rfl rfl rfl ?_
                refine xP_zl (n := 32) rfl hB rfl rfl (by omega) rfl ?_
                refine xP_s rfl rfl rfl ?_
                refine xP_s rfl rfl rfl ?_
                refine xP_cv rfl rfl rfl rfl rfl (mH_28 hB) (q_leftOf hB hu1.2.1 hx' (fun x hxl => ?_))
                refine xP_s rfl rfl rfl ?_
                refine xP_if (fun z3 => ?_) (fun z3 => ?_)
                · have q3 := xc_t z3
                  dsimp only at q3
                  omega
                · refine xP_s rfl rfl rfl ?_
                  refine xP_s rfl rfl rfl ?_
                  refine xP_get rfl (mH_28 hB) rfl ?_
                  refine xP_s rfl rfl rfl ?_
                  refine xP_zl (n := 32) rfl hB rfl rfl (by omega) hfl1.2.2.2.1 ?_
                  refine xP_s rfl rfl rfl ?_
                  refine xP_cv rfl rfl rfl rfl rfl (mH_28 hB) (q_intern hB hw hu1.2.2.1 (fun _ => by omega) (fun v2 a2 j x1 x2 x3 x4 x5 => ?_))
                  have hu2 := hu1.nm (x4.wide (by decide)) (x5.wide (by decide)) x2
                  refine xP_s rfl rfl rfl ?_
                  refine xP_cv rfl rfl rfl rfl rfl (mH_28 hB) (q_ahead (p := (3, 0, (nx s).2.2.1, 1)) hB hu2.2.2.2.2.1 (by omega) hrow.1 ⟨by simp, rfl, fun h => absurd h (by simp), fun _ => ⟨j, x1, rfl⟩, rfl, by simp⟩ (fun v4 a4 u1 u2 u3 => ?_))
                  have hu4 : zU t sl v4 a4 o vs (nmA N (nx s).2.2.1) (ins Q f.2.1 (3, 0, (nx s).2.2.1, 1)) (F ++ [f]) := hu2.ad u2 u3 u1
                  refine xP_s rfl rfl rfl ?_
                  refine xP_s rfl rfl rfl ?_
                  refine xP_zp rfl hB rfl rfl ?_
                  have hu5 : zU t sl (upd v4 27 (nI e)) a4 o vs (nmA N (nx s).2.2.1) (ins Q f.2.1 (3, 0, (nx s).2.2.1, 1)) (F ++ [f]) := hu4.sc ((vS.u v4 27 (nI e)).wide (by decide)) (aS.refl _ _)
                  have hl := hu5.lf (x := nI e2.2.1)
                  rw [hPo] at hl
                  have kk := k1 (upd v4 27 (nI e)) _ _ _ _ _ _ eG ⟨hl, ⟨e, upd_s, r1, r2⟩, by rw [upd_n (by decide), u2 28 (by decide), x4 28 (by decide)]; exact g28⟩ (((fv1.trans (x4.wide (by decide))).trans (u2.wide (by decide))).up (by decide)) (((fa1.trans (x5.wide (by decide))).trans (u3.wide (by decide))).trans ((aS.u _ _ _).wide (by decide)))
                  refine xP_s rfl rfl rfl ?_
                  refine xP_get rfl (mH_28 hB) rfl ?_
                  refine xP_s rfl rfl rfl ?_
                  refine xP_s rfl rfl rfl ?_
                  refine xP_zs (n := 32) rfl hB rfl rfl (by omega) ?_
                  repeat' first
                    | refine xP_s rfl rfl rfl ?_
                    | refine xP_ret rfl rfl rfl ?_
                  exact kk
          · refine at184 v1 a1 N _ [] (Or.inl rfl) (Or.inr ⟨e2, hx, Or.inr hyes⟩) hu1 g27 g28 y1.2.1 (fun h7 => ?_) (by omega) (by omega) hN fv1 fa1
            unfold goF
            rw [if_neg h7, hx]
            dsimp only
            rw [if_neg hyes]
        · exact absurd z (by decide)
  -- the mark and the key
  have no : isMk s 44 = false → xP sc (d + 5) 175 36 [(0, .ref 28), (1, .int (nI F.length))] [] (mH B C v1 a1 o, g) P := by
    intro hc
    rw [hc] at at66
    have em : meK s = (if (nx s).1 = 1 then keM (nx s).2.2.1 else -1) := by
      unfold meK
      rw [if_neg (by simp [hc])]
    rw [em] at at66
    refine xP_s rfl rfl rfl ?_
    refine xP_s rfl rfl rfl ?_
    refine xP_s rfl rfl rfl ?_
    refine xP_s rfl rfl rfl ?_
    refine xP_s rfl rfl rfl ?_
    refine xP_zg rfl hB rfl y1.2.1 ?_
    refine xP_s rfl rfl rfl ?_
    refine xP_s rfl rfl rfl ?_
    refine xP_if (fun z => ?_) (fun z => ?_)
    · have q := xc_t z
      dsimp only at q
      have h1 : ¬ (nx s).1 = 1 := fun h => q (by rw [(t45 _ hk7).2.mpr h]; rfl)
      rw [if_neg h1] at at66
      refine xP_s rfl rfl rfl ?_
      exact at66
    · have q := xc_f z
      dsimp only at q
      have h1 : (nx s).1 = 1 := (t45 _ hk7).2.mp (by omega)
      rw [if_pos h1] at at66
      refine xP_s rfl rfl rfl ?_
      refine xP_cv rfl rfl rfl rfl rfl (mH_28 hB) (q_key hB (y1.2.2.2.1 (Or.inl h1)) ?_)
      refine xP_s rfl rfl rfl ?_
      exact at66
  refine xP_s rfl rfl rfl ?_
  refine xP_zg rfl hB rfl y1.2.1 ?_
  refine xP_s rfl rfl rfl ?_
  refine xP_s rfl rfl rfl ?_
  refine xP_if (fun z => ?_) (fun z => ?_)
  · have q := xc_t z
    dsimp only at q
    refine no ?_
    have h5 : ¬ (nx s).1 = 5 := fun h => q (by rw [(t45 _ hk7).1.mpr h]; rfl)
    unfold isMk
    simp [h5]
  · have q := xc_f z
    dsimp only at q
    have h5 : (nx s).1 = 5 := (t45 _ hk7).1.mp (by omega)
    have hv := nx_pv h5
    have hV := toI (nx s).2.1 (by omega)
    clear hv
    refine xP_s rfl rfl rfl ?_
    refine xP_zg rfl hB rfl (y1.2.2.2.2 (Or.inr h5)) ?_
    refine xP_s rfl rfl rfl ?_
    refine xP_s rfl rfl rfl ?_
    refine xP_if (fun z2 => ?_) (fun z2 => ?_)
    · have q2 := xc_t z2
      dsimp only at q2
      refine no ?_
      have : ¬ (nx s).2.1 = 44 := fun h => q2 (by rw [h]; rfl)
      unfold isMk
      simp [this]
    · have q2 := xc_f z2
      dsimp only at q2
      have hc : isMk s 44 = true := isMk_5.mpr ⟨h5, by omega⟩
      have em : meK s = 44 := if_pos hc
      rw [hc, em] at at66
      refine xP_s rfl rfl rfl ?_
      refine xP_s rfl rfl rfl ?_
      refine xP_s rfl rfl rfl ?_
      refine xP_s rfl rfl rfl ?_
      refine xP_s rfl rfl rfl ?_
      refine xP_s rfl rfl rfl ?_
      refine xP_s rfl rfl rfl ?_
      exact at66
end NL
