-- Writer: a part, the whole
section WJ
variable {sc : xSc} {g : Nat} {nm : List Nat} {sl : List xSl} {n : Nat} {F : xF}
set_option maxHeartbeats 4000000 in
set_option maxRecDepth 100000 in
theorem p_wcompound {d D lv lo hi f : Nat} {A : List xC} {p : xIt} {L1 R : List xIt} {o : List Nat} {x : Int32} {most : Int} {P : xO → xH → Prop} (IH : ∀ D' lv' dd, D' ≤ D → lv' + D' ≤ lv + 1 + D → 8 * D' + 10 ≤ dd → xWc sc dd g nm sl n F D' lv') (hd : 8 * D + 6 ≤ d) (h0 : lo < hi) (hn' : hi ≤ n) (hnd : ndK F nm (hi - 1) p) (har : p.2.2.2 ≤ 6) (hcn : xCn F n (F.2.2.2.1 (hi - 1)) p.2.2.2) (hch : xCh F (fun a b l => xTr F nm D a b l) p.2.2.2 (F.2.2.2.1 (hi - 1)) lo (hi - 1) L1) (hk : p.1 = 3) (hf : D ≤ f) (h15 : D ≤ 15) (hw : xWw A nm sl n F) (ho : xRw A 3 1200 o) (hx : x.toInt = most) (hr : o.length + (wrt sl (f + 1) most (p :: (L1 ++ R))).1.length ≤ 1200)
    (k : ∀ A', xRw A' 3 1200 (o ++ (wrt sl (f + 1) most (p :: (L1 ++ R))).1) → xSame A A' [3, 4] → P (.inl none) (A', g)) : xM1 sc (d + 8) 116 [.ref 26, .int (nI (hi - 1)), .int x, .int (nI lv)] (A, g) P := by
  obtain ⟨h26, hnm, hop, hp⟩ := id hw
  have h26w := h26
  unfold xWo at h26
  have hpn := hp.1
  have hj : hi - 1 < n := by omega
  have hm1 : (-1 : Int32).toInt = -1 := rfl
  obtain ⟨zz, z1, z2, z3⟩ := hnd.2.2.2 (by omega)
  rw [wrt, if_neg (by omega), if_neg (by omega), if_neg (by omega)] at hr k
  unfold xM1
  refine xP_s rfl rfl rfl ?_
  refine xP_s rfl rfl rfl ?_
  refine xP_cv rfl rfl rfl rfl rfl h26 (p_slotOf hw hj hnd har hcn (fun oo h1 h2 => ?_))
  have hsn := sI_none oo (fun i h => by
    have := h1 i h
    have := hop.len
    omega)
  refine xP_s rfl rfl rfl ?_
  refine xP_s rfl rfl rfl ?_
  refine xP_s rfl rfl rfl ?_
  refine xP_s rfl rfl rfl ?_
  refine xP_if (fun hc => ?_) (fun hc => ?_)
  · have r := xc_t hc
    dsimp only at r
    rw [hm1, hsn] at r
    have hs : slF sl p = none := by rw [← h2, r]; rfl
    rw [hs] at hr k
    dsimp only at hr k
    refine xP_s rfl rfl rfl ?_
    refine xP_get rfl h26 rfl ?_
    refine xP_s rfl rfl rfl ?_
    refine xP_cv rfl rfl rfl rfl rfl hp.2.1 (p_isList hp hnm hj hnd har hcn ?_)
    cases hdot : isDotP p
    · rw [if_neg (by rw [hdot]; decide)] at hr k
      refine xP_s rfl rfl rfl ?_
      refine xP_s rfl rfl rfl ?_
      refine xP_get rfl h26 rfl ?_
      refine xP_s rfl rfl rfl ?_
      refine xP_cv rfl rfl rfl rfl rfl hp.2.1 (p_isBraces hp hnm hj hnd har hcn ?_)
      cases hbrc : isBrcP p
      · rw [if_neg (by rw [hbrc]; decide)] at hr k
        dsimp only at hr k
        rw [List.length_append, List.length_append, List.length_singleton] at hr
        refine xP_s rfl rfl rfl ?_
        refine xP_s rfl rfl rfl ?_
        refine xP_s rfl rfl rfl ?_
        refine xP_cv rfl rfl rfl rfl rfl h26 (p_wname h26w hnm ho hp hj z1 z2 z3 (by omega) (fun A2 w1 w2 => ?_))
        have hw2 := hw.same w2
        have h26b := hw2.1
        unfold xWo at h26b
        refine xP_s rfl rfl rfl ?_
        refine xP_s rfl rfl rfl ?_
        refine xP_s rfl rfl rfl ?_
        refine xP_cv rfl rfl rfl rfl rfl h26b (p_warguments (d := d + 2) (R := R) (f := f) (IH D (lv + 1) (d + 2 + 4) (Nat.le_refl _) (by omega) (by omega)) h0 hn' har hch hf h15 hw2 w1 (by rw [List.length_append]; omega) (fun A3 v1 v2 => ?_))
        repeat' first
          | refine xP_s rfl rfl rfl ?_
          | refine xP_ret rfl rfl rfl ?_
        exact k A3 (by simpa [List.append_assoc] using v1) ((w2.trans v2).wide (by decide))
      · rw [if_pos hbrc] at hr k
        dsimp only at hr k
        rw [List.length_cons, List.length_append, List.length_singleton] at hr
        have hz := hch
        rw [(brc_1 hbrc).2] at hz
        obtain ⟨a1, b1, r1, r2, r3, r4, t1⟩ := ch_one hz
        refine xP_s rfl rfl rfl ?_
        refine xP_s rfl rfl rfl ?_
        refine xP_get rfl h26 rfl ?_
        refine xP_s rfl rfl rfl ?_
        refine xP_cv rfl rfl rfl rfl rfl ho.obj (p_put (c := 123) ho (by decide) (by omega) (fun A2 w1 w2 => ?_))
        have hw2 := hw.same w2
        obtain ⟨h26b, hnmb, hopb, hpb⟩ := id hw2
        unfold xWo at h26b
        refine xP_s rfl rfl rfl ?_
        refine xP_s rfl rfl rfl ?_
        refine xP_get rfl h26b rfl ?_
        refine xP_s rfl rfl rfl ?_
        refine xP_cv rfl rfl rfl rfl rfl hpb.2.1 (p_first hpb (o := some (hi - 1)) (fun i h => Option.some.inj h ▸ hj) ?_)
        rw [show ptG F.2.2.2.1 (-1) (some (hi - 1)) = nI (b1 - 1) from r4]
        refine xP_s rfl rfl rfl ?_
        refine xP_s rfl rfl rfl ?_
        refine xP_s rfl rfl rfl ?_
        refine xP_s rfl rfl rfl ?_
        rw [nI_1]
        refine xP_cv rfl rfl rfl rfl rfl h26b (IH D (lv + 1) (d + 7) (Nat.le_refl _) (by omega) (by omega) A2 _ a1 b1 L1 R 1200 1200 f _ t1 (by omega) hf hw2 w1 rfl (by rw [List.length_append, List.length_singleton]; omega) (fun A3 v1 v2 => ?_))
        have hw3 := hw2.same v2
        have h26c := hw3.1
        unfold xWo at h26c
        refine xP_s rfl rfl rfl ?_
        refine xP_get rfl h26c rfl ?_
        refine xP_s rfl rfl rfl ?_
        refine xP_cv rfl rfl rfl rfl rfl v1.obj (p_put (c := 125) v1 (by decide) (by rw [List.length_append, List.length_append, List.length_singleton]; omega) (fun A4 u1 u2 => ?_))
        repeat' first
          | refine xP_s rfl rfl rfl ?_
          | refine xP_ret rfl rfl rfl ?_
        exact k A4 (by simpa [List.append_assoc] using u1) (((w2.trans v2).trans u2).wide (by decide))
    · rw [if_pos hdot] at hr k
      refine xP_s rfl rfl rfl ?_
      refine xP_s rfl rfl rfl ?_
      refine xP_s rfl rfl rfl ?_
      refine xP_s rfl rfl rfl ?_
      refine xP_cv rfl rfl rfl rfl rfl h26 (p_wlist (d := d + 2) (R := R) (f := f) (fun D' lv' g1 g2 => IH D' lv' (d + 2 + 4) g2 g1 (by omega)) h0 hn' (dot_2 hdot).2 hch hf h15 hw ho hr (fun A3 v1 v2 => ?_))
      repeat' first
        | refine xP_s rfl rfl rfl ?_
        | refine xP_ret rfl rfl rfl ?_
      exact k A3 v1 v2
  · have r := xc_f hc
    dsimp only at r
    rw [hm1, hsn] at r
    cases oo with
    | none => exact absurd rfl r
    | some js =>
      have hjl := h1 js rfl
      obtain ⟨e, he⟩ : ∃ e, sl[js]? = some e := ⟨sl[js]'hjl, List.getElem?_eq_getElem hjl⟩
      have hs : slF sl p = some e := by rw [← h2]; exact he
      rw [hs] at hr k
      dsimp only at hr k
      refine xP_s rfl rfl rfl ?_
      refine xP_s rfl rfl rfl ?_
      refine xP_s rfl rfl rfl ?_
      refine xP_s rfl rfl rfl ?_
      refine xP_s rfl rfl rfl ?_
      refine xP_cv rfl rfl rfl rfl rfl h26 (p_bracketed (R := R) (f := f) (IH D (lv + 1) (d + 4) (Nat.le_refl _) (by omega) (by omega)) h0 hn' hnd hch hs he hf h15 hw ho hx hr (fun A3 v1 v2 => ?_))
      repeat' first
        | refine xP_s rfl rfl rfl ?_
        | refine xP_ret rfl rfl rfl ?_
      exact k A3 v1 v2
set_option maxHeartbeats 4000000 in
set_option maxRecDepth 100000 in
theorem p_wpart : ∀ (D lv dd : Nat), lv + D ≤ 15 → 8 * D + 10 ≤ dd → xWc sc dd g nm sl n F D lv
  | 0, lv, dd, hl, hdd => by
    intro A o lo hi L R x most f P ht
    exact ht.elim
  | D + 1, lv, dd, hl, hdd => by
    intro A o lo hi L R x most f P ht hn' hf hw ho hx hr k
    obtain ⟨d, rfl⟩ : ∃ d, dd = d + 9 := ⟨dd - 9, by omega⟩
    obtain ⟨f', rfl⟩ : ∃ f', f = f' + 1 := ⟨f - 1, by omega⟩
    have IH : ∀ D' lv' dd, D' ≤ D → lv' + D' ≤ lv + 1 + D → 8 * D' + 10 ≤ dd → xWc sc dd g nm sl n F D' lv' := fun D' lv' dd h1 h2 h3 => p_wpart D' lv' dd (by omega) h3
    obtain ⟨D', p, L1, e1, e2, h0, hok, hnd, har, hcn, hch⟩ := ht.rootN hn'
    have eD : D' = D := by omega
    subst eD
    obtain ⟨h26, hnm, hop, hp⟩ := id hw
    have h26w := h26
    unfold xWo at h26
    have hpn := hp.1
    have hj : hi - 1 < n := by omega
    have hv : ∀ i, some (hi - 1) = some i → i < n := fun i h => Option.some.inj h ▸ hj
    have q1 := hnd.1
    have q2 := hnd.2.1
    have h14 : (14 : Int32).toInt = 14 := rfl
    have hLV : (nI lv).toInt = (lv : Int) := nI_toInt (by omega)
    rw [e2, List.cons_append] at hr k
    unfold xM1
    refine xP_s rfl rfl rfl ?_
    refine xP_s rfl rfl rfl ?_
    refine xP_s rfl rfl rfl ?_
    refine xP_if (fun hc => ?_) (fun hc => ?_)
    · refine xP_s rfl rfl rfl ?_
      refine xP_get rfl h26 rfl ?_
      refine xP_s rfl rfl rfl ?_
      refine xP_cv rfl rfl rfl rfl rfl hp.2.1 (p_kind (o := some (hi - 1)) hp hv ?_)
      rw [show ptG F.1 (-1) (some (hi - 1)) = nI p.1 from q1]
      refine xP_s rfl rfl rfl ?_
      have hne : ∀ a : Nat, a < 2 ^ 31 → (nI p.1 = nI a ↔ p.1 = a) := fun a ha => nI_eq (by omega) ha
      refine xP_sw (fun q hq hx' => ?_) (fun hx' => ?_)
      · simp only [List.mem_cons, List.not_mem_nil, or_false] at hq
        rcases hq with rfl | rfl | rfl
        · have hk : p.1 = 0 := (hne 0 (by omega)).mp hx'
          rw [wrt, if_pos hk] at hr k
          dsimp only at hr k
          rw [List.length_cons] at hr
          have hval := hnd.2.2.1 (by omega)
          refine xP_s rfl rfl rfl ?_
          refine xP_get rfl h26 rfl ?_
          refine xP_s rfl rfl rfl ?_
          refine xP_cv rfl rfl rfl rfl rfl ho.obj (p_put (c := 95) ho (by decide) (by omega) (fun A2 w1 w2 => ?_))
          have hw2 := hw.same w2
          obtain ⟨h26b, hnmb, hopb, hpb⟩ := id hw2
          have h26b' := h26b
          unfold xWo at h26b'
          refine xP_s rfl rfl rfl ?_
          refine xP_s rfl rfl rfl ?_
          refine xP_get rfl h26b' rfl ?_
          refine xP_s rfl rfl rfl ?_
          refine xP_cv rfl rfl rfl rfl rfl hpb.2.1 (p_value (o := some (hi - 1)) hpb hv ?_)
          refine xP_cv rfl rfl rfl rfl rfl h26b' (p_winteger h26b w1 (by rw [show (ptG F.2.1 0 (some (hi - 1))).toInt = p.2.1 from hval, List.length_append, List.length_singleton]; omega) (fun A3 v1 v2 => ?_))
          rw [show (ptG F.2.1 0 (some (hi - 1))).toInt = p.2.1 from hval] at v1
          repeat' first
            | refine xP_s rfl rfl rfl ?_
            | refine xP_ret rfl rfl rfl ?_
          exact k A3 (by simpa [List.append_assoc] using v1) ((w2.trans v2).wide (by decide))
        · have hk : p.1 = 1 := (hne 1 (by omega)).mp hx'
          rw [wrt, if_neg (by omega), if_pos hk] at hr k
          dsimp only at hr k
          have hval := hnd.2.2.1 (by omega)
          refine xP_s rfl rfl rfl ?_
          refine xP_s rfl rfl rfl ?_
          refine xP_get rfl h26 rfl ?_
          refine xP_s rfl rfl rfl ?_
          refine xP_cv rfl rfl rfl rfl rfl hp.2.1 (p_value (o := some (hi - 1)) hp hv ?_)
          refine xP_cv rfl rfl rfl rfl rfl h26 (p_winteger h26w ho (by rw [show (ptG F.2.1 0 (some (hi - 1))).toInt = p.2.1 from hval]; exact hr) (fun A3 v1 v2 => ?_))
          rw [show (ptG F.2.1 0 (some (hi - 1))).toInt = p.2.1 from hval] at v1
          repeat' first
            | refine xP_s rfl rfl rfl ?_
            | refine xP_ret rfl rfl rfl ?_
          exact k A3 v1 v2
        · have hk : p.1 = 2 := (hne 2 (by omega)).mp hx'
          rw [wrt, if_neg (by omega), if_neg (by omega), if_pos hk] at hr k
          dsimp only at hr k
          obtain ⟨zz, z1, z2, z3⟩ := hnd.2.2.2 (by omega)
          refine xP_s rfl rfl rfl ?_
          refine xP_s rfl rfl rfl ?_
          refine xP_cv rfl rfl rfl rfl rfl h26 (p_wname h26w hnm ho hp hj z1 z2 z3 hr (fun A2 w1 w2 => ?_))
          repeat' first
            | refine xP_s rfl rfl rfl ?_
            | refine xP_ret rfl rfl rfl ?_
          exact k A2 w1 w2
      · simp only [List.mem_cons, List.not_mem_nil, or_false, forall_eq_or_imp, forall_eq] at hx'
        have hk : p.1 = 3 := by
          have e0 : ¬ p.1 = 0 := fun q => hx'.1 ((hne 0 (by omega)).mpr q)
          have e1' : ¬ p.1 = 1 := fun q => hx'.2.1 ((hne 1 (by omega)).mpr q)
          have e2' : ¬ p.1 = 2 := fun q => hx'.2.2 ((hne 2 (by omega)).mpr q)
          omega
        refine xP_s rfl rfl rfl ?_
        refine xP_s rfl rfl rfl ?_
        refine xP_s rfl rfl rfl ?_
        refine xP_s rfl rfl rfl ?_
        refine xP_cv rfl rfl rfl rfl rfl h26 (p_wcompound (R := R) (f := f') IH (by omega) h0 hn' hnd har hcn hch hk (by omega) (by omega) hw ho hx hr (fun A2 w1 w2 => ?_))
        repeat' first
          | refine xP_s rfl rfl rfl ?_
          | refine xP_ret rfl rfl rfl ?_
        exact k A2 w1 w2
    · have := xc_f hc
      dsimp only at this
      omega
set_option maxRecDepth 100000 in
theorem p_wwhole {d D lo hi : Nat} {A : List xC} {L : List xIt} {o : List Nat} {P : xO → xH → Prop} (ht : xTr F nm D lo hi L) (hn' : hi ≤ n) (hD : D ≤ 14) (hw : xWw A nm sl n F) (ho : xRw A 3 1200 o) (hr : (wrt sl 14 1200 L).1.length ≤ 1200)
    (k : ∀ A', xRw A' 3 1200 (wrt sl 14 1200 L).1 → xSame A A' [3, 4] → P (.inl none) (A', g)) : xM1 sc (d + 123) 114 [.ref 26, .int (nI (hi - 1))] (A, g) P := by
  have h26 := hw.1
  unfold xWo at h26
  have part := p_wpart (sc := sc) (g := g) (nm := nm) (sl := sl) (n := n) (F := F) D 1 (d + 122) (by omega) (by omega)
  unfold xM1
  refine xP_s rfl rfl rfl ?_
  refine xP_get rfl h26 rfl ?_
  refine xP_s rfl rfl rfl ?_
  refine xP_cv rfl rfl rfl rfl rfl ho.obj (p_cut ho (by decide) (fun A2 w1 w2 => ?_))
  have w1' : xRw A2 3 1200 [] := by
    have e : (if 0 ≤ (0 : Int32).toInt ∧ (0 : Int32).toInt < o.length then o.take (0 : Int32).toInt.toNat else o) = [] := by
      cases o with
      | nil => simp
      | cons c r => simp
    rw [e] at w1
    exact w1
  have w2' : xSame A A2 [3, 4] := w2.wide (by decide)
  have hw2 := hw.same w2'
  have h26b := hw2.1
  unfold xWo at h26b
  refine xP_s rfl rfl rfl ?_
  refine xP_s rfl rfl rfl ?_
  refine xP_s rfl rfl rfl ?_
  refine xP_s rfl rfl rfl ?_
  refine xP_cv rfl rfl rfl rfl rfl h26b (part A2 [] lo hi L [] 1200 1200 14 _ ht hn' hD hw2 w1' rfl (by rw [List.append_nil, List.length_nil]; omega) (fun A3 v1 v2 => ?_))
  repeat' first
    | refine xP_s rfl rfl rfl ?_
    | refine xP_ret rfl rfl rfl ?_
  refine k A3 ?_ ((w2'.trans v2).wide (by decide))
  rw [List.append_nil, List.nil_append] at v1
  exact v1
end WJ
