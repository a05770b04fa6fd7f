-- Writer: lists; a part; the whole
section WI
variable {sc : xSc} {d g : Nat} {nm : List Nat} {sl : List xSl} {n : Nat} {F : xF} {P : xO → xH → Prop}
set_option maxHeartbeats 4000000 in
set_option maxRecDepth 100000 in
theorem p_wlistLoop {f : Nat} {A0 : List xC} {y1 y2 : Int32} : ∀ (m i D lv a b : Nat) (A : List xC) (C R : List xIt) (o : List Nat), i + m = 15 → D ≤ m → (∀ D' lv', lv' + D' ≤ lv + D → D' ≤ D → xWc sc (d + 4) g nm sl n F D' lv') → xTr F nm D a b C → b ≤ n → D ≤ f → D ≤ 15 → xWw A nm sl n F → xRw A 3 1200 o → o.length + (lsW (wrt sl f) m (C ++ R)).1.length + 1 ≤ 1200 → xSame A0 A [3, 4] →
    (∀ A', xRw A' 3 1200 (o ++ ((lsW (wrt sl f) m (C ++ R)).1 ++ [93])) → xSame A0 A' [3, 4] → P (.inl none) (A', g)) →
    xP sc (d + 5) 123 44 [(0, .ref 26), (1, .int y1), (2, .int y2), (3, .int (nI (b - 1))), (4, .int (nI lv)), (5, .int (nI i))] [] (A, g) P
  | 0, i, D, lv, a, b, A, C, R, o, hi, hD, IH, ht, hn', hf, h15, hw, ho, hr, hsm, k => by
    have : D = 0 := by omega
    subst this
    exact ht.elim
  | m + 1, i, D, lv, a, b, A, C, R, o, hi, hD, IH, ht, hn', hf, h15, hw, ho, hr, hsm, k => by
    obtain ⟨h26, hnm, hop, hp⟩ := id hw
    unfold xWo at h26
    have hpn := hp.1
    obtain ⟨D', q, C1, e1, e2, hab, hok, hnd, har, hcn, hch⟩ := ht.rootN hn'
    have hj : b - 1 < n := by omega
    have h14 : (14 : Int32).toInt = 14 := rfl
    have hI : (nI i).toInt = (i : Int) := nI_toInt (by omega)
    have hhd : hdI (C ++ R) = q := by rw [e2]; rfl
    have htl : (C ++ R).tail = C1 ++ R := by rw [e2]; rfl
    unfold lsW at hr k
    rw [hhd, htl] at hr k
    -- the closing bracket
    have close : ∀ A2 o2, xWw A2 nm sl n F → xRw A2 3 1200 o2 → o2.length + 1 ≤ 1200 → (∀ A', xRw A' 3 1200 (o2 ++ [93]) → xSame A2 A' [3, 4] → P (.inl none) (A', g)) → ∀ x4 x5, xP sc (d + 5) 123 136 [(0, .ref 26), (1, .int y1), (2, .int y2), (3, .int (nI (b - 1))), (4, .int x4), (5, .int x5)] [] (A2, g) P := by
      intro A2 o2 v1 v2 v3 v4 x4 x5
      have h26b := v1.1
      unfold xWo at h26b
      refine xP_s rfl rfl rfl ?_
      refine xP_get rfl h26b rfl ?_
      refine xP_s rfl rfl rfl ?_
      refine xP_cv rfl rfl rfl rfl rfl v2.obj (p_put (c := 93) v2 (by decide) (by omega) (fun A3 u1 u2 => ?_))
      repeat' first
        | refine xP_s rfl rfl rfl ?_
        | refine xP_ret rfl rfl rfl ?_
      exact v4 A3 u1 u2
    have tail : isDotP q = false → xP sc (d + 5) 123 106 [(0, .ref 26), (1, .int y1), (2, .int y2), (3, .int (nI (b - 1))), (4, .int (nI lv)), (5, .int (nI i))] [] (A, g) P := by
      intro hdot
      rw [if_neg (by rw [hdot]; decide)] at hr k
      refine xP_s rfl rfl rfl ?_
      refine xP_get rfl h26 rfl ?_
      refine xP_s rfl rfl rfl ?_
      refine xP_cv rfl rfl rfl rfl rfl hp.2.1 (p_isNil hp hnm hj hnd ?_)
      cases hnil : isNilP q
      · rw [if_neg (by rw [hnil]; decide)] at hr k
        dsimp only at hr k
        rw [List.length_cons] at hr
        refine xP_s rfl rfl rfl ?_
        refine xP_s rfl rfl rfl ?_
        refine xP_get rfl h26 rfl ?_
        refine xP_s rfl rfl rfl ?_
        refine xP_cv rfl rfl rfl rfl rfl ho.obj (p_put (c := 124) ho (by decide) (by omega) (fun A2 w1 w2 => ?_))
        have hw2 := hw.same w2
        have h26b := hw2.1
        unfold xWo at h26b
        refine xP_s rfl rfl rfl ?_
        refine xP_s rfl rfl rfl ?_
        refine xP_s rfl rfl rfl ?_
        refine xP_s rfl rfl rfl ?_
        refine xP_cv rfl rfl rfl rfl rfl h26b (IH D lv (by omega) (by omega) A2 _ a b C R 999 999 f _ ht hn' hf hw2 w1 rfl (by rw [List.length_append, List.length_singleton]; omega) (fun A3 v1 v2 => ?_))
        refine close A3 _ (hw2.same v2) v1 (by rw [List.length_append, List.length_append, List.length_singleton]; omega) (fun A4 u1 u2 => k A4 (by simpa [List.append_assoc] using u1) ((hsm.trans ((w2.trans v2).trans u2)).wide (by decide))) _ _
      · rw [if_pos hnil] at hr k
        have cl := close A o hw ho (by simp at hr; omega) (fun A4 u1 u2 => k A4 (by simpa using u1) ((hsm.trans u2).wide (by decide))) (nI lv) (nI i)
        repeat' first
          | exact cl
          | refine xP_s rfl rfl rfl ?_
    refine xP_s rfl rfl rfl ?_
    refine xP_s rfl rfl rfl ?_
    refine xP_s rfl rfl rfl ?_
    refine xP_if (fun hc => ?_) (fun hc => ?_)
    · have z := xc_t hc
      dsimp only at z
      cases hdot : isDotP q
      · exact tail hdot
      · exfalso
        have hz := hch
        rw [(dot_2 hdot).2] at hz
        obtain ⟨_, _, _, _, _, _, _, _, _, _, _, _, _, _, t1, _, _⟩ := ch_two hz
        cases D' with
        | zero => exact t1.elim
        | succ D' => omega
    · refine xP_s rfl rfl rfl ?_
      refine xP_get rfl h26 rfl ?_
      refine xP_s rfl rfl rfl ?_
      refine xP_cv rfl rfl rfl rfl rfl hp.2.1 (p_isList hp hnm hj hnd har hcn ?_)
      cases hdot : isDotP q
      · have tl := tail hdot
        repeat' first
          | exact tl
          | refine xP_s rfl rfl rfl ?_
      · rw [if_pos hdot] at hr k
        dsimp only at hr k
        have hz := hch
        rw [(dot_2 hdot).2] at hz
        obtain ⟨a1, b1, a2, b2, E, T, r1, r2, r3, r4, r5, r6, r7, r8, t1, t2, eL⟩ := ch_two hz
        have hE : C1 ++ R = E ++ (T ++ R) := by rw [eL, List.append_assoc]
        have hrest := wrt_rest (sl := sl) f D' a1 b1 E t1 (by omega) (by omega) 999 (T ++ R)
        rw [hE, hrest] at hr k
        rw [List.length_cons, List.length_append] at hr
        refine xP_s rfl rfl rfl ?_
        refine xP_s rfl rfl rfl ?_
        refine xP_s rfl rfl rfl ?_
        refine xP_get rfl h26 rfl ?_
        refine xP_s rfl rfl rfl ?_
        rw [nI_1]
        refine xP_cv rfl rfl rfl rfl rfl ho.obj (p_put (c := 44) ho (by decide) (by omega) (fun A2 w1 w2 => ?_))
        have hw2 := hw.same w2
        obtain ⟨h26b, hnmb, hopb, hpb⟩ := id hw2
        unfold xWo at h26b
        refine xP_s rfl rfl rfl ?_
        refine xP_s rfl rfl rfl ?_
        refine xP_get rfl h26b rfl ?_
        refine xP_s rfl rfl rfl ?_
        refine xP_cv rfl rfl rfl rfl rfl hpb.2.1 (p_first hpb (o := some (b - 1)) (fun i h => Option.some.inj h ▸ hj) ?_)
        rw [show ptG F.2.2.2.1 (-1) (some (b - 1)) = nI (b1 - 1) from r7]
        refine xP_s rfl rfl rfl ?_
        refine xP_s rfl rfl rfl ?_
        refine xP_cv rfl rfl rfl rfl rfl h26b (IH D' (lv + 1) (by omega) (by omega) A2 _ a1 b1 E (T ++ R) 999 999 f _ t1 (by omega) (by omega) hw2 w1 rfl (by rw [List.length_append, List.length_singleton]; omega) (fun A3 v1 v2 => ?_))
        have hw3 := hw2.same v2
        obtain ⟨h26c, hnmc, hopc, hpc⟩ := id hw3
        unfold xWo at h26c
        have go := p_wlistLoop (f := f) (A0 := A0) (y1 := y1) (y2 := y2) m (i + 1) D' (lv + 1) a2 b2 A3 T R _ (by omega) (by omega) (fun D2 lv2 g1 g2 => IH D2 lv2 (by omega) (by omega)) t2 (by omega) (by omega) (by omega) hw3 v1 (by rw [List.length_append, List.length_append, List.length_singleton]; omega) ((hsm.trans (w2.trans v2)).wide (by decide)) (fun A4 u1 u2 => k A4 (by simpa [List.append_assoc] using u1) u2)
        rw [← nI_1 i] at go
        refine xP_s rfl rfl rfl ?_
        refine xP_get rfl h26c rfl ?_
        refine xP_s rfl rfl rfl ?_
        refine xP_cv rfl rfl rfl rfl rfl hpc.2.1 (p_second hpc hj (show b1 - 1 < n by omega) r7 ?_)
        rw [r8]
        repeat' first
          | exact go
          | refine xP_s rfl rfl rfl ?_
set_option maxHeartbeats 4000000 in
set_option maxRecDepth 100000 in
theorem p_wlist {D lv lo hi f : Nat} {A : List xC} {p : xIt} {L1 R : List xIt} {o : List Nat} (IH : ∀ D' lv', lv' + D' ≤ lv + 1 + D → D' ≤ D → xWc sc (d + 4) g nm sl n F D' lv') (h0 : lo < hi) (hn' : hi ≤ n) (h2 : p.2.2.2 = 2) (hch : xCh F (fun a b l => xTr F nm D a b l) p.2.2.2 (F.2.2.2.1 (hi - 1)) lo (hi - 1) L1) (hf : D ≤ f) (h15 : D ≤ 15) (hw : xWw A nm sl n F) (ho : xRw A 3 1200 o) (hr : o.length + (91 :: ((wrt sl f 999 (L1 ++ R)).1 ++ ((lsW (wrt sl f) 15 (wrt sl f 999 (L1 ++ R)).2).1 ++ [93]))).length ≤ 1200)
    (k : ∀ A', xRw A' 3 1200 (o ++ (91 :: ((wrt sl f 999 (L1 ++ R)).1 ++ ((lsW (wrt sl f) 15 (wrt sl f 999 (L1 ++ R)).2).1 ++ [93])))) → xSame A A' [3, 4] → P (.inl none) (A', g)) : xM1 sc (d + 5) 123 [.ref 26, .int (nI (hi - 1)), .int (nI lv)] (A, g) P := by
  obtain ⟨h26, hnm, hop, hp⟩ := id hw
  unfold xWo at h26
  have hpn := hp.1
  have hj : hi - 1 < n := by omega
  have hz := hch
  rw [h2] at hz
  obtain ⟨a1, b1, a2, b2, E, T, r1, r2, r3, r4, r5, r6, r7, r8, t1, t2, eL⟩ := ch_two hz
  have hE : L1 ++ R = E ++ (T ++ R) := by rw [eL, List.append_assoc]
  have hrest := wrt_rest (sl := sl) f D a1 b1 E t1 hf h15 999 (T ++ R)
  rw [hE, hrest] at hr k
  rw [List.length_cons, List.length_append, List.length_append, List.length_singleton] at hr
  unfold xM1
  refine xP_s rfl rfl rfl ?_
  refine xP_get rfl h26 rfl ?_
  refine xP_s rfl rfl rfl ?_
  refine xP_cv rfl rfl rfl rfl rfl ho.obj (p_put (c := 91) ho (by decide) (by omega) (fun A2 w1 w2 => ?_))
  have hw2 := hw.same w2
  obtain ⟨h26b, hnmb, hopb, hpb⟩ := id hw2
  unfold xWo at h26b
  refine xP_s rfl rfl rfl ?_
  refine xP_s rfl rfl rfl ?_
  refine xP_get rfl h26b rfl ?_
  refine xP_s rfl rfl rfl ?_
  refine xP_cv rfl rfl rfl rfl rfl hpb.2.1 (p_first hpb (o := some (hi - 1)) (fun i h => Option.some.inj h ▸ hj) ?_)
  rw [show ptG F.2.2.2.1 (-1) (some (hi - 1)) = nI (b1 - 1) from r7]
  refine xP_s rfl rfl rfl ?_
  refine xP_s rfl rfl rfl ?_
  refine xP_s rfl rfl rfl ?_
  refine xP_s rfl rfl rfl ?_
  rw [nI_1]
  refine xP_cv rfl rfl rfl rfl rfl h26b (IH D (lv + 1) (by omega) (Nat.le_refl _) A2 _ a1 b1 E (T ++ R) 999 999 f _ t1 (by omega) hf hw2 w1 rfl (by rw [List.length_append, List.length_singleton]; omega) (fun A3 v1 v2 => ?_))
  have hw3 := hw2.same v2
  obtain ⟨h26c, hnmc, hopc, hpc⟩ := id hw3
  unfold xWo at h26c
  have go := p_wlistLoop (sc := sc) (d := d) (g := g) (P := P) (f := f) (A0 := A) (y1 := nI (hi - 1)) (y2 := nI lv) 15 0 D (lv + 1) a2 b2 A3 T R _ rfl h15 (fun D2 lv2 g1 g2 => IH D2 lv2 (by omega) g2) t2 (by omega) hf h15 hw3 v1 (by rw [List.length_append, List.length_append, List.length_singleton]; omega) ((w2.trans v2).wide (by decide)) (fun A4 u1 u2 => k A4 (by simpa [List.append_assoc] using u1) u2)
  rw [← nI_1 lv] at go
  refine xP_s rfl rfl rfl ?_
  refine xP_get rfl h26c rfl ?_
  refine xP_s rfl rfl rfl ?_
  refine xP_cv rfl rfl rfl rfl rfl hpc.2.1 (p_second hpc hj (show b1 - 1 < n by omega) r7 ?_)
  rw [r8]
  repeat' first
    | exact go
    | refine xP_s rfl rfl rfl ?_
end WI
