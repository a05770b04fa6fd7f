-- Writer: what is left behind a term; operators
section WR
variable {F : xF} {nm : List Nat} {sl : List xSl}
theorem ch_one {T : Nat → Nat → List xIt → Prop} {x : Int32} {lo hi : Nat} {L : List xIt} (h : xCh F T 1 x lo hi L) : ∃ a b, lo ≤ a ∧ a < b ∧ b ≤ hi ∧ x = nI (b - 1) ∧ T a b L := by
  obtain ⟨a, b, L1, L2, h1, h2, h3, h4, h5, h6, h7⟩ := h
  rw [h7.2, List.append_nil] at h6
  exact ⟨a, b, h1, h2, h3, h4, h6 ▸ h5⟩
theorem ch_two {T : Nat → Nat → List xIt → Prop} {x : Int32} {lo hi : Nat} {L : List xIt} (h : xCh F T 2 x lo hi L) : ∃ a b a' b' L1 L2, lo ≤ a ∧ a < b ∧ b ≤ hi ∧ lo ≤ a' ∧ a' < b' ∧ b' ≤ hi ∧ x = nI (b - 1) ∧ F.2.2.2.2.1 (b - 1) = nI (b' - 1) ∧ T a b L1 ∧ T a' b' L2 ∧ L = L1 ++ L2 := by
  obtain ⟨a, b, L1, L2, h1, h2, h3, h4, h5, h6, h7⟩ := h
  obtain ⟨a', b', g1, g2, g3, g4, g5⟩ := ch_one h7
  exact ⟨a, b, a', b', L1, L2, h1, h2, h3, g1, g2, g3, h4, g4, h5, g5, h6⟩
theorem agW_rest {W : xW1} {T : Nat → Nat → List xIt → Prop} (hW : ∀ a b l, T a b l → ∀ most R, (W most (l ++ R)).2 = R) : ∀ (k c : Nat) (x : Int32) (lo hi : Nat) (L R : List xIt), xCh F T k x lo hi L → (agW W k c (L ++ R)).2 = R
  | 0, c, x, lo, hi, L, R, h => by
    rw [h.2]
    rfl
  | k + 1, c, x, lo, hi, L, R, h => by
    obtain ⟨a, b, L1, L2, h1, h2, h3, h4, h5, h6, h7⟩ := h
    rw [agW, h6, List.append_assoc, hW a b L1 h5]
    exact agW_rest hW k 44 _ lo hi L2 R h7
theorem dot_2 {p : xIt} (h : isDotP p = true) : p.1 = 3 ∧ p.2.2.2 = 2 := by
  simp [isDotP] at h
  exact ⟨h.1, h.2.2⟩
theorem nil_0 {p : xIt} (h : isNilP p = true) : p.1 = 2 := by
  simp [isNilP] at h
  exact h.1
theorem brc_1 {p : xIt} (h : isBrcP p = true) : p.1 = 3 ∧ p.2.2.2 = 1 := by
  simp [isBrcP] at h
  exact ⟨h.1, h.2.2⟩
theorem lsW_rest {W : xW1} {f : Nat} (hW : ∀ D a b l, xTr F nm D a b l → D ≤ f → D ≤ 15 → ∀ most R, (W most (l ++ R)).2 = R) : ∀ (m D a b : Nat) (C R : List xIt), xTr F nm D a b C → D ≤ m → D ≤ f → D ≤ 15 → (lsW W m (C ++ R)).2 = R
  | 0, D, a, b, C, R, h, hm, _, _ => by
    have : D = 0 := by omega
    subst this
    exact h.elim
  | m + 1, D, a, b, C, R, h, hm, hf, h15 => by
    obtain ⟨D', q, C1, e1, e2, _, hok, hnd, _, _, hch⟩ := h.rootN (Nat.le_refl b)
    have hhd : hdI (C ++ R) = q := by rw [e2]; rfl
    have htl : (C ++ R).tail = C1 ++ R := by rw [e2]; rfl
    rw [lsW, hhd, htl]
    split
    next hd =>
      obtain ⟨_, h2⟩ := dot_2 hd
      rw [h2] at hch
      obtain ⟨a1, b1, a2, b2, E, T, _, _, _, _, _, _, _, _, t1, t2, eL⟩ := ch_two hch
      dsimp only
      rw [eL, List.append_assoc, hW D' a1 b1 E t1 (by omega) (by omega)]
      exact lsW_rest hW m D' a2 b2 T R t2 (by omega) (by omega) (by omega)
    next =>
      split
      next hn =>
        have h0 := hok.1 (by rw [nil_0 hn]; omega)
        rw [h0] at hch
        dsimp only
        rw [hch.2]
        rfl
      next => exact hW D a b C h hf h15 999 R
theorem wrt_rest : ∀ (f D lo hi : Nat) (L : List xIt), xTr F nm D lo hi L → D ≤ f → D ≤ 15 → ∀ (most : Int) (R : List xIt), (wrt sl f most (L ++ R)).2 = R
  | 0, D, lo, hi, L, h, hf, _, most, R => by
    have : D = 0 := by omega
    subst this
    exact h.elim
  | f + 1, D, lo, hi, L, h, hf, h15, most, R => by
    obtain ⟨D', p, L1, e1, e2, _, hok, hnd, _, _, hch⟩ := h.rootN (Nat.le_refl hi)
    have IH : ∀ D a b l, xTr F nm D a b l → D ≤ f → D ≤ 15 → ∀ most R, (wrt sl f most (l ++ R)).2 = R := fun D a b l t h1 h2 most R => wrt_rest f D a b l t h1 h2 most R
    rw [e2, List.cons_append, wrt]
    have leaf : p.1 < 3 → L1 = [] := fun h => by
      rw [hok.1 h] at hch
      exact hch.2
    split
    next h0 => rw [leaf (by omega)]; rfl
    next =>
      split
      next h0 => rw [leaf (by omega)]; rfl
      next =>
        split
        next h0 => rw [leaf (by omega)]; rfl
        next =>
          cases hs : slF sl p with
          | some e =>
            dsimp only
            obtain ⟨_, hc⟩ := slF_cases hs
            unfold opr
            rcases hc with ⟨c1, c2⟩ | ⟨c1, c2, c3⟩ | ⟨c1, c2, _, c3⟩
            · rw [if_pos c1]
              rw [c2] at hch
              obtain ⟨a, b, _, _, _, _, t1⟩ := ch_one hch
              exact IH D' a b L1 t1 (by omega) (by omega) _ R
            · rw [if_neg (by rw [c1]; decide), if_pos c2]
              rw [c3] at hch
              obtain ⟨a, b, _, _, _, _, t1⟩ := ch_one hch
              exact IH D' a b L1 t1 (by omega) (by omega) _ R
            · rw [if_neg (by rw [c1]; decide), if_neg (by rw [c2]; decide)]
              rw [c3] at hch
              obtain ⟨a1, b1, a2, b2, E, T, _, _, _, _, _, _, _, _, t1, t2, eL⟩ := ch_two hch
              unfold opd
              dsimp only
              rw [eL, List.append_assoc, IH D' a1 b1 E t1 (by omega) (by omega)]
              exact IH D' a2 b2 T t2 (by omega) (by omega) _ R
          | none =>
            dsimp only
            split
            next hd =>
              obtain ⟨_, h2⟩ := dot_2 hd
              rw [h2] at hch
              obtain ⟨a1, b1, a2, b2, E, T, _, _, _, _, _, _, _, _, t1, t2, eL⟩ := ch_two hch
              dsimp only
              rw [eL, List.append_assoc, IH D' a1 b1 E t1 (by omega) (by omega)]
              exact lsW_rest IH 15 D' a2 b2 T R t2 (by omega) (by omega) (by omega)
            next =>
              split
              next hb =>
                obtain ⟨_, h1⟩ := brc_1 hb
                rw [h1] at hch
                obtain ⟨a, b, _, _, _, _, t1⟩ := ch_one hch
                exact IH D' a b L1 t1 (by omega) (by omega) _ R
              next => exact agW_rest (fun a b l t => IH D' a b l t (by omega) (by omega)) p.2.2.2 40 _ _ _ L1 R hch
end WR
section WF
variable {sc : xSc} {d g : Nat} {A : List xC} {nm : List Nat} {sl : List xSl} {n : Nat} {F : xF} {P : xO → xH → Prop}
set_option maxRecDepth 100000 in
theorem p_second {j j1 : Nat} (hp : xPt A n F) (hj : j < n) (hj1 : j1 < n) (h1 : F.2.2.2.1 j = nI j1) (k : P (.inl (some (.int (F.2.2.2.2.1 j1)))) (A, g)) : xM1 sc (d + 2) 65 [.ref 11, .int (nI j)] (A, g) P := by
  have h11 := hp.2.1
  unfold xM1
  refine xP_s rfl rfl rfl ?_
  refine xP_s rfl rfl rfl ?_
  refine xP_s rfl rfl rfl ?_
  refine xP_cv rfl rfl rfl rfl rfl h11 (p_first hp (o := some j) (fun i h => Option.some.inj h ▸ hj) ?_)
  rw [show ptG F.2.2.2.1 (-1) (some j) = nI j1 from h1]
  refine xP_cv rfl rfl rfl rfl rfl h11 (p_next hp (o := some j1) (fun i h => Option.some.inj h ▸ hj1) ?_)
  repeat' first
    | refine xP_s rfl rfl rfl ?_
    | refine xP_ret rfl rfl rfl ?_
  exact k
set_option maxRecDepth 100000 in
theorem p_infixName {j z : Nat} {p : xIt} {o : List Nat} (hw : xWw A nm sl n F) (ho : xRw A 3 1200 o) (hj : j < n) (hd : ndK F nm j p) (hk : p.1 = 3) (hr : o.length + (ifx p).length ≤ 1200) (k : ∀ A', xRw A' 3 1200 (o ++ ifx p) → xSame A A' [3, 4] → P (.inl none) (A', g)) : xM1 sc (d + 5) 120 [.ref 26, .int (nI j)] (A, g) P := by
  obtain ⟨h26, hnm, hop, hp⟩ := id hw
  unfold xWo at h26
  have h0 : (0 : Int32).toInt = 0 := rfl
  have hlg := lgc0 (kP p) 44
  obtain ⟨zz, z1, z2, z3⟩ := hd.2.2.2 (by omega)
  unfold xM1
  refine xP_s rfl rfl rfl ?_
  refine xP_get rfl h26 rfl ?_
  refine xP_s rfl rfl rfl ?_
  refine xP_cv rfl rfl rfl rfl rfl hp.2.1 (p_key hp hnm hj hd ?_)
  refine xP_s rfl rfl rfl ?_
  refine xP_s rfl rfl rfl ?_
  refine xP_s rfl rfl rfl ?_
  refine xP_if (fun hc => ?_) (fun hc => ?_)
  · have r := xc_t hc
    dsimp only at r
    rw [h0, hlg] at r
    unfold ifx at hr k
    rw [if_neg r] at hr k
    rw [List.length_cons, List.length_append, List.length_singleton] at hr
    refine xP_s rfl rfl rfl ?_
    refine xP_get rfl h26 rfl ?_
    refine xP_s rfl rfl rfl ?_
    refine xP_cv rfl rfl rfl rfl rfl ho.obj (p_put (c := 32) ho (by decide) (by omega) (fun A2 w1 w2 => ?_))
    have hw2 := hw.same w2
    obtain ⟨h26b, hnmb, hopb, hpb⟩ := id hw2
    have h26b' := h26b
    unfold xWo at h26b'
    refine xP_s rfl rfl rfl ?_
    refine xP_s rfl rfl rfl ?_
    refine xP_cv rfl rfl rfl rfl rfl h26b' (p_wname h26b hnmb w1 hpb hj z1 z2 z3 (by rw [List.length_append, List.length_singleton]; omega) (fun A3 v1 v2 => ?_))
    have hw3 := hw2.same v2
    have h26c := hw3.1
    unfold xWo at h26c
    refine xP_s rfl rfl rfl ?_
    refine xP_get rfl h26c rfl ?_
    refine xP_s rfl rfl rfl ?_
    refine xP_cv rfl rfl rfl rfl rfl v1.obj (p_put (c := 32) v1 (by decide) (by rw [List.length_append, List.length_append, List.length_singleton]; omega) (fun A4 u1 u2 => ?_))
    repeat' first
      | refine xP_s rfl rfl rfl ?_
      | refine xP_ret rfl rfl rfl ?_
    refine k A4 ?_ (((w2.trans v2).trans u2).wide (by decide))
    rw [List.append_assoc, List.append_assoc] at u1
    exact u1
  · have r := xc_f hc
    dsimp only at r
    rw [h0, hlg] at r
    unfold ifx at hr k
    rw [if_pos r] at hr k
    refine xP_s rfl rfl rfl ?_
    refine xP_get rfl h26 rfl ?_
    refine xP_s rfl rfl rfl ?_
    refine xP_cv rfl rfl rfl rfl rfl ho.obj (p_put (c := 44) ho (by decide) (by simp at hr; omega) (fun A2 w1 w2 => ?_))
    repeat' first
      | refine xP_s rfl rfl rfl ?_
      | refine xP_ret rfl rfl rfl ?_
    exact k A2 w1 w2
end WF
