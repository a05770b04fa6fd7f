-- the reference: read
theorem dTr_len : ∀ (e : Nat) {D : Nat} {L : List xIt}, dTr e D L → D ≤ L.length
  | 0, D, L, h => by cases h
  | e + 1, D, L, h => by
    obtain ⟨p, L1, m, h1, h2, h3⟩ := h
    have ch : ∀ (k : Nat) (L1 : List xIt) (m : Nat), chD (dTr e) k L1 m → m ≤ L1.length := by
      intro k
      induction k with
      | zero =>
        intro L1 m q
        rw [q.2]
        exact Nat.zero_le _
      | succ k ih =>
        intro L1 m q
        obtain ⟨M1, M2, D1, m2, q1, q2, q3, q4⟩ := q
        have a1 := dTr_len e q1
        have a2 := ih M2 m2 q4
        rw [q2, List.length_append]
        omega
    have := ch p.2.2.2 L1 m h3
    rw [h1, List.length_cons]
    omega
theorem dT_len {D : Nat} {L : List xIt} (h : dT D L) : D ≤ L.length := by
  obtain ⟨e, h⟩ := h
  exact dTr_len e h
section NR
variable {sc : xSc} {d g : Nat} {B C : List xC} {o : Nat → Int64} {P : xO → xH → Prop} {v : Nat → Int32} {a : Nat → Nat → Int32} {N0 : List (List Nat)} {Ts : List (List xIt)} {t : List Nat} {sl : List xSl} {al : List Nat → Prop} {K c : Nat}
theorem gFr_1 {Q0 : List xIt} {m : Int} : gFr Q0 Q0 [(m, Q0.length, -1, 0, 0)] := gFr.push (Q0 := Q0) (Q := Q0) (F := []) (m := m) (pu := 0) (ow := 0) ⟨fun i f h => (by cases h), fun i j f g' _ h _ => (by cases h)⟩ (Nat.le_refl _) (Or.inl rfl) (fun q => by cases q)
set_option maxHeartbeats 8000000 in
set_option maxRecDepth 100000 in
theorem q_read (hB : B.length = 28) (hW : zW t sl v a o N0 Ts) (hgd : ∀ c ∈ t, 32 ≤ c ∧ c ≤ 126) (hfx : ∀ u ∈ fixL, al u) (hsl : ∀ e ∈ sl, ¬ e.1 = 0 ∧ e.2.1 ≤ 1200) (h44 : ∀ e ∈ sl, e.1 = 44 → e.2.2 = 1) (hroom : ∀ N : List (List Nat), N.Nodup → (∀ u ∈ N, al u) → ∀ Q s, cnN N s ≤ Q + c → Q ≤ K → N.length + 4 ≤ 1500 ∧ ltN N + 60 ≤ 4600) (hK : K ≤ 890) (hbud : Ts.flatten.length + 2 * t.length ≤ K) (hal : ∀ u ∈ N0, al u) (hat : aS2 al t) (hcn : flN N0 ≤ Ts.flatten.length + c)
    (kb : wholeF sl t = none → ∀ v' a', zW [] sl v' a' o N0 Ts → v' 0 = 1 → vS v v' vRR → aS a a' aRR → P (.inl (some (.int 0))) (mH B C v' a' o, g))
    (kc : ∀ L D s', wholeF sl t = some (L, D, s') → (40 ≤ Ts.length ∨ 600 < Ts.flatten.length + L.length) → ∀ v' a', zW t sl v' a' o N0 Ts → v' 0 = 2 → vS v v' vRR → aS a a' aRR → P (.inl (some (.int 0))) (mH B C v' a' o, g))
    (ko : ∀ L D s', wholeF sl t = some (L, D, s') → Ts.length < 40 → Ts.flatten.length + L.length ≤ 600 → ∀ v' a' N', zW s' sl v' a' o N' (Ts ++ [L]) → v' 0 = 0 → (∃ M, N' = N0 ++ M) → (∀ u ∈ N', al u) → flN N' ≤ Ts.flatten.length + L.length + c → vS v v' vRR → aS a a' aRR → P (.inl (some (.int (nI Ts.length)))) (mH B C v' a' o, g)) : xM1 sc (d + 6) 177 [.ref 28] (mH B C v a o, g) P := by
  have hW' := hW
  obtain ⟨ht, ho, hn, hq, hm⟩ := hW
  have h120 := ht.2.1
  have hnd := nd_of hn.2.2.2.2.1
  have c14 : (14 : Int32).toInt = 14 := rfl
  have c0 : (0 : Int32).toInt = 0 := rfl
  -- behind the loop, failed
  have endB : wholeF sl t = none → ∀ (v1 : Nat → Int32) (a1 : Nat → Nat → Int32), zBd t sl v1 a1 o N0 Ts.flatten → zM v1 a1 Ts → vS v v1 vRR → aS a a1 aRR → xP sc (d + 6) 177 91 [(0, .ref 28), (1, .int (nI Ts.flatten.length)), (2, .int (nI N0.length)), (3, .int (nI (ltN N0)))] [] (mH B C v1 a1 o, g) P := by
    intro hno v1 a1 hb hm1 fv fa
    obtain ⟨b1, b2, b3, ⟨e, b4, b5⟩, N, Q, b6, b7, b8, b9⟩ := hb
    have go : ∀ (v2 : Nat → Int32) (a2 : Nat → Nat → Int32), vS v1 v2 [20, 21, 22, 23, 24, 25] → aS a1 a2 [42] → xP sc (d + 6) 177 99 [(0, .ref 28), (1, .int (nI Ts.flatten.length)), (2, .int (nI N0.length)), (3, .int (nI (ltN N0)))] [] (mH B C v2 a2 o, g) P := by
      intro v2 a2 y1 y2
      refine xP_s rfl rfl rfl ?_
      refine xP_s rfl rfl rfl ?_
      refine xP_zg rfl hB rfl (show v2 28 = 1 by rw [y1 28 (by decide)]; exact b3) ?_
      refine xP_s rfl rfl rfl ?_
      refine xP_s rfl rfl rfl ?_
      refine xP_s rfl rfl rfl ?_
      refine xP_zp rfl hB rfl rfl ?_
      have y3 : vS v1 (upd v2 28 1) [20, 21, 22, 23, 24, 25, 28] := (y1.wide (by decide)).up (by decide)
      exact q_rBad2 (d := d + 5) hB hW' (b2.same y3 y2 (by decide) (by decide) (by decide) (by decide) (by decide)) (b6.same y3 y2 (by decide) (by decide) (by decide) (by decide) (by decide)) (b7.same y3 y2 (by decide) (by decide) (by decide) (by decide)) (hm1.same y3 y2 (by decide) (by decide)) b8 b9 upd_s (fv.trans (y3.wide (by decide))) (fa.trans (y2.wide (by decide))) (kb hno)
    refine xP_s rfl rfl rfl ?_
    refine xP_s rfl rfl rfl ?_
    refine xP_zg rfl hB rfl b4 ?_
    rcases Nat.lt_or_ge t.length e with z | z
    · exact xP_cv rfl rfl rfl rfl rfl (mH_28 hB) (q_scanF hB b1 z b5 (fun v2 y1 y2 => go v2 a1 y2 (aS.refl _ _)))
    · exact xP_cv rfl rfl rfl rfl rfl (mH_28 hB) (q_scan hB b1 rfl z (fun v2 a2 y1 y2 y3 y4 => go v2 a2 y3 y4))
  -- behind the loop, a term read
  have endG : ∀ L D s1 vs1 pr, tmF sl 11 1200 (t, []) = some (L, D, (s1, vs1), pr) → ∀ (v1 : Nat → Int32) (a1 : Nat → Nat → Int32) (N : List (List Nat)), zS t sl v1 a1 o s1 vs1 N (Ts.flatten ++ L) [] → zI al N0 Ts.flatten K c s1 vs1 N (Ts.flatten ++ L) [] → zM v1 a1 Ts → v1 0 = 0 → vS v v1 vRR → aS a a1 aRR → xP sc (d + 6) 177 91 [(0, .ref 28), (1, .int (nI Ts.flatten.length)), (2, .int (nI N0.length)), (3, .int (nI (ltN N0)))] [] (mH B C v1 a1 o, g) P := by
    intro L D s1 vs1 pr hT v1 a1 N hS hI hm1 h0 fv fa
    obtain ⟨hu, ⟨p, e27, hd, hp⟩, h28⟩ := hS
    obtain ⟨i1, i2, i3, i4, i5, i6, i7, i8, i9⟩ := hI
    have hDT : dT D L := tmF_D 11 1200 (t, []) _ hT
    refine xP_s rfl rfl rfl ?_
    refine xP_s rfl rfl rfl ?_
    refine xP_zg rfl hB rfl e27 ?_
    refine xP_cv rfl rfl rfl rfl rfl (mH_28 hB) (q_scan hB hu.1 hd hp (fun v2 a2 y1 y2 y3 y4 => ?_))
    have hk7 := y1.1
    have t0 : ∀ k, k ≤ 7 → (tkN k = 0 ↔ k = 0) := by decide
    have hTk := toI (tkN (nx s1).1) (by have := (tkN_4 _ hk7).2.2; omega)
    have y3' : vS v1 v2 [20, 21, 22, 23, 24, 25, 27, 28] := y3.wide (by decide)
    have hu2 := hu.sc y3' y4
    have hm2 := hm1.same y3 y4 (by decide) (by decide)
    have fv2 : vS v v2 vRR := fv.trans (y3.wide (by decide))
    have fa2 : aS a a2 aRR := fa.trans (y4.wide (by decide))
    refine xP_s rfl rfl rfl ?_
    refine xP_s rfl rfl rfl ?_
    refine xP_zg rfl hB rfl (show v2 28 = 0 by rw [y3 28 (by decide)]; exact h28) ?_
    refine xP_s rfl rfl rfl ?_
    refine xP_s rfl rfl rfl ?_
    refine xP_zg rfl hB rfl y1.2.1 ?_
    refine xP_s rfl rfl rfl ?_
    refine xP_if (fun z => ?_) (fun z => ?_)
    · have q := xc_t z
      dsimp only at q
      have k0 : (nx s1).1 = 0 := (t0 _ hk7).mp (by omega)
      refine xP_s rfl rfl rfl ?_
      refine xP_zp rfl hB rfl rfl ?_
      refine xP_s rfl rfl rfl ?_
      refine xP_s rfl rfl rfl ?_
      refine xP_zg rfl hB rfl upd_s ?_
      have v3f : vS v2 (upd v2 28 0) [20, 21, 22, 23, 24, 25, 27, 28] := (vS.u v2 28 0).wide (by decide)
      have hu3 := hu2.sc v3f (aS.refl a2 _)
      have hq3 := hu3.2.2.2.2.1
      have hlq : (Ts.flatten ++ L).length = Ts.flatten.length + L.length := List.length_append
      refine xP_s rfl rfl rfl ?_
      refine xP_s rfl rfl rfl ?_
      refine xP_s rfl rfl rfl ?_
      refine xP_s rfl rfl rfl ?_
      refine xP_zg rfl hB rfl hq3.1 ?_
      refine xP_cv rfl rfl rfl rfl rfl (mH_28 hB) (q_depthIn (D := D) hB hq3 (by omega) (Nat.le_refl _) (by omega) (by rw [List.take_length, List.drop_left]; exact hDT) (fun v4 a4 u1 u2 => ?_))
      have hDl : D ≤ 100000 := by
        have := dT_len hDT
        have := hq3.2.1
        omega
      have hDi := toI D (by omega)
      have fv4 : vS v v4 vRR := (fv2.up (by decide)).trans (u1.wide (by decide))
      have fa4 : aS a a4 aRR := fa2.trans (u2.wide (by decide))
      refine xP_s rfl rfl rfl ?_
      refine xP_s rfl rfl rfl ?_
      refine xP_if (fun z2 => ?_) (fun z2 => ?_)
      · have q2 := xc_t z2
        dsimp only at q2
        have hwf : wholeF sl t = some (L, D, (nx s1).2.2.2) := by
          unfold wholeF
          rw [hT]
          dsimp only
          rw [if_pos ⟨by omega, k0⟩]
        refine xP_s rfl rfl rfl ?_
        refine xP_zp rfl hB rfl rfl ?_
        have w5 : vS v2 (upd v4 28 0) [28, 37] := by
          intro k hk
          have k1 : ¬ k = 28 := fun h => hk (by rw [h]; decide)
          have k2 : k ∉ [37] := fun h => hk (by
            rw [List.mem_singleton] at h
            rw [h]
            decide)
          rw [upd_n k1, u1 k k2, upd_n k1]
        obtain ⟨e, e1, e2, e3⟩ := y1.2.2.1
        have e3 := e3 (by omega)
        obtain ⟨tw, hts, htw⟩ := nx_sfx (s := s1) (by omega)
        obtain ⟨dq1, dq2⟩ := drop_sfx hd hp hts
        have hl1 := drop_l2 hd hp
        have hl2 := congrArg List.length hts
        rw [List.length_append] at hl2
        refine q_rGood (d := d + 5) (e := e) hB hW' (hu2.1.same w5 u2 (by decide) (by decide)) (hu2.2.1.same w5 u2 (by decide) (by decide) (by decide) (by decide) (by decide)) (hu2.2.2.1.same w5 u2 (by decide) (by decide) (by decide) (by decide) (by decide)) (hu2.2.2.2.2.1.same w5 u2 (by decide) (by decide) (by decide) (by decide)) (hm2.same w5 u2 (by decide) (by decide)) i1 upd_s (by rw [w5 0 (by decide), y3 0 (by decide)]; exact h0) (by rw [w5 22 (by decide)]; exact e2) (by rw [e3]; exact dq1) (by omega) (by omega) (fv4.up (by decide)) fa4 (fun hx v' a' q1 q2 q3 q4 => kc L D _ hwf hx v' a' q1 q2 q3 q4) (fun x1 x2 v' a' q1 q2 q3 q4 => ko L D _ hwf x1 x2 v' a' N q1 q2 i1 i7 ?_ q3 q4)
        have := fl_cn (N := N) (s := s1) (by omega)
        omega
      · have q2 := xc_f z2
        dsimp only at q2
        have hno : wholeF sl t = none := by
          unfold wholeF
          rw [hT]
          dsimp only
          rw [if_neg (by omega)]
        refine xP_s rfl rfl rfl ?_
        refine xP_s rfl rfl rfl ?_
        refine xP_zp rfl hB rfl rfl ?_
        have w5 : vS v2 (upd v4 28 1) [28, 37] := by
          intro k hk
          have k1 : ¬ k = 28 := fun h => hk (by rw [h]; decide)
          have k2 : k ∉ [37] := fun h => hk (by
            rw [List.mem_singleton] at h
            rw [h]
            decide)
          rw [upd_n k1, u1 k k2, upd_n k1]
        exact q_rBad (d := d + 5) hB hW' (hu2.2.1.same w5 u2 (by decide) (by decide) (by decide) (by decide) (by decide)) (hu2.2.2.1.same w5 u2 (by decide) (by decide) (by decide) (by decide) (by decide)) (hu2.2.2.2.2.1.same w5 u2 (by decide) (by decide) (by decide) (by decide)) (hm2.same w5 u2 (by decide) (by decide)) i1 i2 upd_s (fv4.up (by decide)) fa4 (kb hno)
    · have q := xc_f z
      dsimp only at q
      have k0 : ¬ (nx s1).1 = 0 := fun h => q (by rw [(t0 _ hk7).mpr h]; rfl)
      have hno : wholeF sl t = none := by
        unfold wholeF
        rw [hT]
        dsimp only
        rw [if_neg (fun h => k0 h.2)]
      refine xP_s rfl rfl rfl ?_
      refine xP_s rfl rfl rfl ?_
      refine xP_zp rfl hB rfl rfl ?_
      have v3f : vS v2 (upd v2 28 1) [28] := vS.u v2 28 1
      exact q_rBad2 (d := d + 5) hB hW' (hu2.2.1.same v3f (aS.refl a2 []) (by decide) (by decide) (by decide) (by decide) (by decide)) (hu2.2.2.1.same v3f (aS.refl a2 []) (by decide) (by decide) (by decide) (by decide) (by decide)) (hu2.2.2.2.2.1.same v3f (aS.refl a2 []) (by decide) (by decide) (by decide) (by decide)) (hm2.same v3f (aS.refl a2 []) (by decide) (by decide)) i1 i2 upd_s (fv2.up (by decide)) fa2 (kb hno)
  -- the start
  unfold xM1
  refine xP_s rfl rfl rfl ?_
  refine xP_s rfl rfl rfl ?_
  refine xP_zp rfl hB rfl rfl ?_
  refine xP_s rfl rfl rfl ?_
  refine xP_zg rfl hB rfl ((upd_n (by decide)).trans hq.1) ?_
  refine xP_s rfl rfl rfl ?_
  refine xP_s rfl rfl rfl ?_
  refine xP_zg rfl hB rfl ((upd_n (by decide)).trans hn.1) ?_
  refine xP_s rfl rfl rfl ?_
  refine xP_s rfl rfl rfl ?_
  refine xP_zg rfl hB rfl ((upd_n (by decide)).trans hn.2.1) ?_
  refine xP_s rfl rfl rfl ?_
  refine xP_s rfl rfl rfl ?_
  refine xP_s rfl rfl rfl ?_
  refine xP_zp rfl hB rfl rfl ?_
  refine xP_s rfl rfl rfl ?_
  refine xP_s rfl rfl rfl ?_
  refine xP_zp rfl hB rfl rfl ?_
  refine xP_s rfl rfl rfl ?_
  refine xP_s rfl rfl rfl ?_
  refine xP_zp rfl hB rfl rfl ?_
  refine xP_s rfl rfl rfl ?_
  refine xP_s rfl rfl rfl ?_
  refine xP_zp rfl hB rfl rfl ?_
  have f5 : vS v (upd (upd (upd (upd (upd v 0 0) 27 0) 28 0) 29 0) 35 0) [0, 27, 28, 29, 35] := (((((vS.u v 0 0).wide (by decide)).up (by decide)).up (by decide)).up (by decide)).up (by decide)
  have z0 : upd (upd (upd (upd (upd v 0 0) 27 0) 28 0) 29 0) 35 0 0 = 0 := by rw [upd_n (by decide), upd_n (by decide), upd_n (by decide), upd_n (by decide), upd_s]
  have z27 : upd (upd (upd (upd (upd v 0 0) 27 0) 28 0) 29 0) 35 0 27 = nI 0 := by rw [upd_n (by decide), upd_n (by decide), upd_n (by decide), upd_s]; rfl
  have z28 : upd (upd (upd (upd (upd v 0 0) 27 0) 28 0) 29 0) 35 0 28 = 0 := by rw [upd_n (by decide), upd_n (by decide), upd_s]
  have z29 : upd (upd (upd (upd (upd v 0 0) 27 0) 28 0) 29 0) 35 0 29 = nI 0 := by rw [upd_n (by decide), upd_s]; rfl
  have z35 : upd (upd (upd (upd (upd v 0 0) 27 0) 28 0) 29 0) 35 0 35 = nI 0 := by rw [upd_s]; rfl
  generalize upd (upd (upd (upd (upd v 0 0) 27 0) 28 0) 29 0) 35 0 = v1 at *
  have hu1 : zU t sl v1 a o [] N0 Ts.flatten [] := ⟨ht.same f5 (aS.refl a []) (by decide) (by decide), ho.same f5 (aS.refl a []) (by decide) (by decide) (by decide) (by decide) (by decide), hn.same f5 (aS.refl a []) (by decide) (by decide) (by decide) (by decide) (by decide), ⟨z35, by decide, fun i w h => by cases h⟩, hq.same f5 (aS.refl a []) (by decide) (by decide) (by decide) (by decide), ⟨z29, by decide, fun i f h => by cases h⟩⟩
  have hm1 : zM v1 a Ts := hm.same f5 (aS.refl a []) (by decide) (by decide)
  have fv1 : vS v v1 vRR := f5.wide (by decide)
  refine xP_s rfl rfl rfl ?_
  refine xP_s rfl rfl rfl ?_
  refine xP_s rfl rfl rfl ?_
  refine xP_s rfl rfl rfl ?_
  refine xP_cv rfl rfl rfl rfl rfl (mH_28 hB) (q_enter (F := []) (pu := 0) (ow := 0) (x1 := 1200) hB hu1.2.2.2.2.2 hu1.2.2.2.2.1.1 hq.2.1 (by decide) (by decide) (fun _ v2 a2 y1 y2 y3 => ?_) (fun h => absurd h (by decide)))
  have hS2 : zS t sl v2 a2 o t [] N0 Ts.flatten [(1200, Ts.flatten.length, -1, 0, 0)] := ⟨hu1.fr y2 y3 y1, ⟨0, by rw [y2 27 (by decide)]; exact z27, rfl, by omega⟩, by rw [y2 28 (by decide)]; exact z28⟩
  have hI2 : zI al N0 Ts.flatten K c t [] N0 Ts.flatten [(1200, Ts.flatten.length, -1, 0, 0)] := ⟨⟨[], by rw [List.append_nil]⟩, ⟨[], by rw [List.append_nil]⟩, gFr_1, hbud, by rw [List.length_nil]; omega, hnd, hal, hat, Nat.le_trans cn_fl hcn⟩
  have hm2 : zM v2 a2 Ts := hm1.same y2 y3 (by decide) (by decide)
  have fv2 : vS v v2 vRR := fv1.trans (y2.wide (by decide))
  have fa2 : aS a a2 aRR := y3.wide (by decide)
  have h02 : v2 0 = 0 := by rw [y2 0 (by decide)]; exact z0
  have hE := EN_all hsl 11
  have hps : psh [] t [] N0 Ts.flatten 1200 0 0 = some (t, [], N0, Ts.flatten, [(1200, Ts.flatten.length, -1, 0, 0)]) := rfl
  have mv : ∀ v3 a3, vS v2 v3 vR → aS a2 a3 aR → zM v3 a3 Ts ∧ v3 0 = 0 ∧ vS v v3 vRR ∧ aS a a3 aRR := fun v3 a3 q1 q2 => ⟨hm2.same q1 q2 (by decide) (by decide), by rw [q1 0 (by decide)]; exact h02, fv2.trans (q1.wide (by decide)), fa2.trans (q2.wide (by decide))⟩
  -- the loop's head, left
  have leave : ∀ (v3 : Nat → Int32) (a3 : Nat → Nat → Int32), (v3 29 = 0 ∨ v3 28 = 1) → xP sc (d + 6) 177 91 [(0, .ref 28), (1, .int (nI Ts.flatten.length)), (2, .int (nI N0.length)), (3, .int (nI (ltN N0)))] [] (mH B C v3 a3 o, g) P → xP sc (d + 6) 177 49 [(0, .ref 28), (1, .int (nI Ts.flatten.length)), (2, .int (nI N0.length)), (3, .int (nI (ltN N0)))] [] (mH B C v3 a3 o, g) P := by
    intro v3 a3 hx kk
    refine xP_s rfl rfl rfl ?_
    refine xP_zg rfl hB rfl rfl ?_
    refine xP_s rfl rfl rfl ?_
    refine xP_if (fun z => ?_) (fun z => ?_)
    · exact kk
    · rcases hx with hx | hx
      · rw [hx] at z
        exact absurd z (by decide)
      · refine xP_s rfl rfl rfl ?_
        refine xP_zg rfl hB rfl hx ?_
        refine xP_s rfl rfl rfl ?_
        exact kk
  cases hT : tmF sl 11 1200 (t, []) with
  | none =>
    have hno : wholeF sl t = none := by
      unfold wholeF
      rw [hT]
    have hr := hE.no (F := []) (N := N0) (Q := Ts.flatten) (pu := 0) (ow := 0) rfl h120 hT
    rw [hps] at hr
    obtain ⟨n, hr⟩ := hr
    refine q_readLoop (v0 := v2) (a0 := a2) hB hgd hfx (fun e he => (hsl e he).1) h44 hroom (by omega) (fun v' a' s' vs' N' Q' F' q1 => by cases q1) (fun _ v' a' q1 q2 q3 => ?_) n t [] N0 Ts.flatten _ v2 a2 hr hS2 hI2 (vS.refl _ _) (aS.refl _ _)
    obtain ⟨m1, m2, m3, m4⟩ := mv v' a' q2 q3
    exact leave v' a' (Or.inr q1.2.2.1) (endB hno v' a' q1 m1 m3 m4)
  | some x =>
    obtain ⟨L, D, ⟨s1, vs1⟩, pr⟩ := x
    obtain ⟨N', hr⟩ := hE.yes (F := []) (N := N0) (Q := Ts.flatten) (pu := 0) (ow := 0) rfl h120 hT
    rw [hps, popF_nil] at hr
    obtain ⟨n, hr⟩ := hr
    refine q_readLoop (v0 := v2) (a0 := a2) hB hgd hfx (fun e he => (hsl e he).1) h44 hroom (by omega) (fun v' a' s' vs' N1 Q' F' q1 q2 q3 q4 q5 => ?_) (fun q1 => by cases q1) n t [] N0 Ts.flatten _ v2 a2 hr hS2 hI2 (vS.refl _ _) (aS.refl _ _)
    cases q1
    obtain ⟨m1, m2, m3, m4⟩ := mv v' a' q4 q5
    exact leave v' a' (Or.inl q2.1.2.2.2.2.2.1) (endG L D s1 vs1 pr hT v' a' N' q2 q3 m1 m2 m3 m4)
end NR
