-- Writer: lists, arguments, a part
section WH
variable {sc : xSc} {d g : Nat} {nm : List Nat} {sl : List xSl} {n : Nat} {F : xF} {P : xO → xH → Prop}
set_option maxHeartbeats 4000000 in
set_option maxRecDepth 100000 in
theorem p_wargsLoop {D lv lo hi f : Nat} {A0 : List xC} {y : Int32} (IH : xWc sc (d + 4) g nm sl n F D (lv + 1)) (hn' : hi ≤ n) (hf : D ≤ f) (h15 : D ≤ 15) : ∀ (k i : Nat) (A : List xC) (x : Int32) (L R : List xIt) (o : List Nat), i + k ≤ 6 → xCh F (fun a b l => xTr F nm D a b l) k x lo hi L → xWw A nm sl n F → xRw A 3 1200 o → o.length + (agW (wrt sl f) k (if i = 0 then 40 else 44) (L ++ R)).1.length + 1 ≤ 1200 → xSame A0 A [3, 4] →
    (∀ A', xRw A' 3 1200 (o ++ ((agW (wrt sl f) k (if i = 0 then 40 else 44) (L ++ R)).1 ++ [41])) → xSame A0 A' [3, 4] → P (.inl none) (A', g)) →
    xP sc (d + 5) 124 12 [(0, .ref 26), (1, .int y), (2, .int (nI lv)), (3, .int x), (4, .int (nI i))] [] (A, g) P
  | 0, i, A, x, L, R, o, hi6, hch, hw, ho, hr, hsm, k => by
    have h26 := hw.1
    unfold xWo at h26
    have h6 : (6 : Int32).toInt = 6 := rfl
    have hI : (nI i).toInt = (i : Int) := nI_toInt (by omega)
    have hx : x = -1 := hch.1
    subst hx
    have fin : xP sc (d + 5) 124 69 [(0, .ref 26), (1, .int y), (2, .int (nI lv)), (3, .int (-1)), (4, .int (nI i))] [] (A, g) P := by
      refine xP_s rfl rfl rfl ?_
      refine xP_get rfl h26 rfl ?_
      refine xP_s rfl rfl rfl ?_
      refine xP_cv rfl rfl rfl rfl rfl ho.obj (p_put (c := 41) ho (by decide) (by omega) (fun A2 w1 w2 => ?_))
      repeat' first
        | refine xP_s rfl rfl rfl ?_
        | refine xP_ret rfl rfl rfl ?_
      exact k A2 w1 ((hsm.trans w2).wide (by decide))
    refine xP_s rfl rfl rfl ?_
    refine xP_s rfl rfl rfl ?_
    refine xP_s rfl rfl rfl ?_
    refine xP_if (fun hc => ?_) (fun hc => ?_)
    · exact fin
    · refine xP_s rfl rfl rfl ?_
      refine xP_s rfl rfl rfl ?_
      refine xP_s rfl rfl rfl ?_
      refine xP_if (fun hc => ?_) (fun hc => ?_)
      · exact fin
      · exact absurd rfl (xc_f hc)
  | kk + 1, i, A, x, L, R, o, hi6, hch, hw, ho, hr, hsm, k => by
    obtain ⟨h26, hnm, hop, hp⟩ := id hw
    unfold xWo at h26
    have hpn := hp.1
    have h6 : (6 : Int32).toInt = 6 := rfl
    have hI : (nI i).toInt = (i : Int) := nI_toInt (by omega)
    obtain ⟨a, b, L1, L2, q1, q2, q3, q4, q5, q6, q7⟩ := hch
    subst q4
    have hrest := wrt_rest (sl := sl) f D a b L1 q5 hf h15 999 (L2 ++ R)
    have eL : L ++ R = L1 ++ (L2 ++ R) := by rw [q6, List.append_assoc]
    rw [eL] at hr k
    unfold agW at hr k
    dsimp only at hr k
    rw [hrest] at hr k
    rw [List.length_cons, List.length_append] at hr
    have body : ∀ c, c < 128 → (if i = 0 then 40 else 44) = c → xP sc (d + 5) 124 40 [(0, .ref 26), (1, .int y), (2, .int (nI lv)), (3, .int (nI (b - 1))), (4, .int (nI i))] [.int (nI c), .ref 3] (A, g) P := by
      intro c hc hcc
      rw [hcc] at k
      refine xP_cv rfl rfl rfl rfl rfl ho.obj (p_put (c := c) ho hc (by omega) (fun A2 w1 w2 => ?_))
      have hw2 := hw.same w2
      have h26b := hw2.1
      unfold xWo at h26b
      refine xP_s rfl rfl rfl ?_
      refine xP_s rfl rfl rfl ?_
      refine xP_s rfl rfl rfl ?_
      refine xP_s rfl rfl rfl ?_
      refine xP_s rfl rfl rfl ?_
      refine xP_s rfl rfl rfl ?_
      rw [nI_1]
      refine xP_cv rfl rfl rfl rfl rfl h26b (IH A2 _ a b L1 (L2 ++ R) 999 999 f _ q5 (by omega) hf hw2 w1 rfl (by rw [List.length_append, List.length_singleton]; omega) (fun A3 v1 v2 => ?_))
      have hw3 := hw2.same v2
      obtain ⟨h26c, hnmc, hopc, hpc⟩ := id hw3
      unfold xWo at h26c
      have go := p_wargsLoop (A0 := A0) (y := y) IH hn' hf h15 kk (i + 1) A3 _ L2 R _ (by omega) q7 hw3 v1 (by rw [if_neg (by omega)]; rw [List.length_append, List.length_append, List.length_singleton]; omega) (((hsm.trans w2).trans v2).wide (by decide)) (fun A4 u1 u2 => k A4 (by
        rw [if_neg (by omega)] at u1
        simpa [List.append_assoc] using u1) u2)
      rw [← nI_1 i] at go
      refine xP_s rfl rfl rfl ?_
      refine xP_get rfl h26c rfl ?_
      refine xP_s rfl rfl rfl ?_
      refine xP_cv rfl rfl rfl rfl rfl hpc.2.1 (p_next hpc (o := some (b - 1)) (fun i h => by have := Option.some.inj h; omega) ?_)
      repeat' first
        | exact go
        | refine xP_s rfl rfl rfl ?_
    refine xP_s rfl rfl rfl ?_
    refine xP_s rfl rfl rfl ?_
    refine xP_s rfl rfl rfl ?_
    refine xP_if (fun hc => ?_) (fun hc => ?_)
    · have := xc_t hc
      dsimp only at this
      omega
    · refine xP_s rfl rfl rfl ?_
      refine xP_s rfl rfl rfl ?_
      refine xP_s rfl rfl rfl ?_
      refine xP_if (fun hc => ?_) (fun hc => ?_)
      · exact absurd (xc_t hc) (nI_neg1 (by omega))
      · refine xP_s rfl rfl rfl ?_
        refine xP_get rfl h26 rfl ?_
        refine xP_s rfl rfl rfl ?_
        refine xP_s rfl rfl rfl ?_
        refine xP_if (fun hc => ?_) (fun hc => ?_)
        · have z := xc_t hc
          dsimp only at z
          have h0' : (0 : Int32).toInt = 0 := rfl
          have bd := body 44 (by omega) (if_neg (by omega))
          repeat' first
            | exact bd
            | refine xP_s rfl rfl rfl ?_
        · have z := xc_f hc
          dsimp only at z
          have h0' : (0 : Int32).toInt = 0 := rfl
          have bd := body 40 (by omega) (if_pos (by omega))
          repeat' first
            | exact bd
            | refine xP_s rfl rfl rfl ?_
set_option maxRecDepth 100000 in
theorem p_warguments {D lv lo hi f : Nat} {A : List xC} {p : xIt} {L1 R : List xIt} {o : List Nat} (IH : xWc sc (d + 4) g nm sl n F D (lv + 1)) (h0 : lo < hi) (hn' : hi ≤ n) (har : p.2.2.2 ≤ 6) (hch : xCh F (fun a b l => xTr F nm D a b l) p.2.2.2 (F.2.2.2.1 (hi - 1)) lo (hi - 1) L1) (hf : D ≤ f) (h15 : D ≤ 15) (hw : xWw A nm sl n F) (ho : xRw A 3 1200 o) (hr : o.length + (agW (wrt sl f) p.2.2.2 40 (L1 ++ R)).1.length + 1 ≤ 1200)
    (k : ∀ A', xRw A' 3 1200 (o ++ ((agW (wrt sl f) p.2.2.2 40 (L1 ++ R)).1 ++ [41])) → xSame A A' [3, 4] → P (.inl none) (A', g)) : xM1 sc (d + 5) 124 [.ref 26, .int (nI (hi - 1)), .int (nI lv)] (A, g) P := by
  obtain ⟨h26, hnm, hop, hp⟩ := id hw
  unfold xWo at h26
  have go := p_wargsLoop (sc := sc) (d := d) (g := g) (P := P) (A0 := A) (y := nI (hi - 1)) IH (show hi - 1 ≤ n by omega) hf h15 p.2.2.2 0 A _ L1 R o (by omega) hch hw ho hr (xSame.refl _ _) k
  unfold xM1
  refine xP_s rfl rfl rfl ?_
  refine xP_get rfl h26 rfl ?_
  refine xP_s rfl rfl rfl ?_
  refine xP_cv rfl rfl rfl rfl rfl hp.2.1 (p_first hp (o := some (hi - 1)) (fun i h => by have := Option.some.inj h; omega) ?_)
  repeat' first
    | exact go
    | refine xP_s rfl rfl rfl ?_
end WH
