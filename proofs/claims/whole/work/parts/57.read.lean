-- TermReader: look, read
section TU
variable {sc : xSc} {d g : Nat} {A : List xC} {nm : List Nat} {sl : List xSl} {n : Nat} {F : xF} {Ts : List (List xIt × Nat)} {P : xO → xH → Prop}
/-- what look says of a term -/
def lkV (q : List xIt × Nat) (w : Int) : Int := if w = 0 then (hdI q.1).1 else if w = 1 then (hdI q.1).2.2.2 else if w = 2 then (if (hdI q.1).1 < 2 then (hdI q.1).2.1 else ((hdI q.1).2.2.1.length : Int)) else q.2
set_option maxRecDepth 100000 in
theorem p_look {x y : Int32} (h0 : xTo A Ts.length) (h40 : Ts.length ≤ 40) (hrt : xRt A Ts) (hn : xRw A 5 4926 nm) (hp : xPt A n F) (ht : xTms F nm 0 Ts n)
    (kb : ¬ (0 ≤ x.toInt ∧ x.toInt < Ts.length) → P (.inr 2) (A, g + 1))
    (kc : (0 ≤ x.toInt ∧ x.toInt < Ts.length) → ¬ (0 ≤ y.toInt ∧ y.toInt ≤ 3) → P (.inr 0) (A, g + 1))
    (ko : ∀ q, 0 ≤ x.toInt → Ts[x.toInt.toNat]? = some q → (0 ≤ y.toInt ∧ y.toInt ≤ 3) → ∀ z : Int32, z.toInt = lkV q y.toInt → P (.inl (some (.int z))) (A, g)) : xM1 sc (d + 8) 8 [.ref 0, .int x, .int y] (A, g) P := by
  have h0' := h0
  unfold xTo at h0'
  have hpn := hp.1
  obtain ⟨b, hb⟩ : ∃ b : Bool, b = true ↔ 0 ≤ x.toInt ∧ x.toInt < Ts.length := ⟨decide (0 ≤ x.toInt ∧ x.toInt < Ts.length), decide_eq_true_iff⟩
  unfold xM1
  refine xP_s rfl rfl rfl ?_
  refine xP_s rfl rfl rfl ?_
  refine xP_cv rfl rfl rfl rfl rfl h0' (p_isTerm h0 h40 hb ?_)
  cases b
  · have kk := kb (fun h => absurd (hb.mpr h) (by decide))
    refine xP_s rfl rfl rfl ?_
    exact xP_throw rfl rfl kk
  · have hx := hb.mp rfl
    obtain ⟨i, q, e1, e2, e3⟩ := is_term hx
    obtain ⟨fr, f1, f2⟩ := hrt
    obtain ⟨t1, t2, t3, t4, t5, t6⟩ := ht.at e3
    rw [Nat.zero_add] at t1 t3 t6
    obtain ⟨D', p, L1, c1, c2, c3, hok, hnd, har, hcn, _⟩ := t1.rootN t6
    have hhd : hdI q.1 = p := by rw [c2]; rfl
    have hI : (nI i).toInt = (i : Int) := nI_toInt (by omega)
    have hk2 := hnd.2.1
    generalize hj : tlen (Ts.take i) + q.1.length - 1 = j at *
    have hjn : j < n := by omega
    have hv : ∀ i, some j = some i → i < n := fun i h => Option.some.inj h ▸ hjn
    have kq := fun w => ko q hx.1 (by rw [← e2]; exact e3) w
    unfold lkV at kq
    rw [hhd] at kq
    refine xP_s rfl rfl rfl ?_
    refine xP_s rfl rfl rfl ?_
    refine xP_get rfl h0' rfl ?_
    refine xP_s rfl rfl rfl ?_
    refine xP_ial rfl f1 (by decide) (xib_of (by omega) (by omega)) ?_
    rw [e1, nI_clamp (by omega), f2 i q e3, hj]
    refine xP_s rfl rfl rfl ?_
    refine xP_s rfl rfl rfl ?_
    refine xP_s rfl rfl rfl ?_
    refine xP_sw (fun z hz hy => ?_) (fun hy => ?_)
    · simp only [List.mem_cons, List.not_mem_nil, or_false] at hz
      rcases hz with rfl | rfl | rfl | rfl
      · have y0 : y.toInt = 0 := by rw [hy]; rfl
        rw [y0] at kq
        have kk := kq ⟨by omega, by omega⟩ (nI p.1) (by rw [if_pos rfl, nI_toInt (by omega)])
        refine xP_s rfl rfl rfl ?_
        refine xP_get rfl h0' rfl ?_
        refine xP_s rfl rfl rfl ?_
        refine xP_cv rfl rfl rfl rfl rfl hp.2.1 (p_kind (o := some j) hp hv ?_)
        rw [show ptG F.1 (-1) (some j) = nI p.1 from hnd.1]
        repeat' first
          | refine xP_s rfl rfl rfl ?_
          | refine xP_ret rfl rfl rfl ?_
        exact kk
      · have y0 : y.toInt = 1 := by rw [hy]; rfl
        rw [y0] at kq
        have kk := kq ⟨by omega, by omega⟩ (nI p.2.2.2) (by rw [if_neg (by omega), if_pos rfl, nI_toInt (by omega)])
        refine xP_s rfl rfl rfl ?_
        refine xP_get rfl h0' rfl ?_
        refine xP_s rfl rfl rfl ?_
        refine xP_cv rfl rfl rfl rfl rfl hp.2.1 (p_arity hp hjn har hcn ?_)
        repeat' first
          | refine xP_s rfl rfl rfl ?_
          | refine xP_ret rfl rfl rfl ?_
        exact kk
      · have y0 : y.toInt = 2 := by rw [hy]; rfl
        rw [y0] at kq
        have hK : (nI p.1).toInt = (p.1 : Int) := nI_toInt (by omega)
        refine xP_s rfl rfl rfl ?_
        refine xP_get rfl h0' rfl ?_
        refine xP_s rfl rfl rfl ?_
        refine xP_cv rfl rfl rfl rfl rfl hp.2.1 (p_isNamed (o := some j) (b := decide (2 ≤ p.1)) hp hv (by
          rw [show ptG F.1 (-1) (some j) = nI p.1 from hnd.1, hK, decide_eq_true_eq]
          omega) ?_)
        by_cases hnm : 2 ≤ p.1
        · rw [decide_eq_true hnm]
          obtain ⟨zz, z1, z2, z3⟩ := hnd.2.2.2 hnm
          have hlen : p.2.2.1.length < 2 ^ 31 := by
            have := z3.1
            have := hn.len
            omega
          have kk := kq ⟨by omega, by omega⟩ (nI p.2.2.1.length) (by rw [if_neg (by omega), if_neg (by omega), if_pos rfl, if_neg (by omega), nI_toInt hlen])
          refine xP_s rfl rfl rfl ?_
          refine xP_s rfl rfl rfl ?_
          refine xP_get rfl h0' rfl ?_
          refine xP_s rfl rfl rfl ?_
          refine xP_cv rfl rfl rfl rfl rfl hp.2.1 (p_nameSize (o := some j) hp hv ?_)
          rw [show ptG F.2.2.1 0 (some j) = nI p.2.2.1.length from z2]
          repeat' first
            | refine xP_s rfl rfl rfl ?_
            | refine xP_ret rfl rfl rfl ?_
          exact kk
        · rw [decide_eq_false hnm]
          have kk := kq ⟨by omega, by omega⟩ (ptG F.2.1 0 (some j)) (by rw [if_neg (by omega), if_neg (by omega), if_pos rfl, if_pos (by omega)]; exact hnd.2.2.1 (by omega))
          refine xP_s rfl rfl rfl ?_
          refine xP_s rfl rfl rfl ?_
          refine xP_get rfl h0' rfl ?_
          refine xP_s rfl rfl rfl ?_
          refine xP_cv rfl rfl rfl rfl rfl hp.2.1 (p_value (o := some j) hp hv ?_)
          repeat' first
            | refine xP_s rfl rfl rfl ?_
            | refine xP_ret rfl rfl rfl ?_
          exact kk
      · have y0 : y.toInt = 3 := by rw [hy]; rfl
        rw [y0] at kq
        have kk := kq ⟨by omega, by omega⟩ (nI q.2) (by rw [if_neg (by omega), if_neg (by omega), if_neg (by omega), nI_toInt (by omega)])
        refine xP_s rfl rfl rfl ?_
        refine xP_get rfl h0' rfl ?_
        refine xP_s rfl rfl rfl ?_
        refine xP_cv rfl rfl rfl rfl rfl hp.2.1 (p_depth (o := some j) hp hv ?_)
        rw [show ptG F.2.2.2.2.2 0 (some j) = nI q.2 from t3]
        repeat' first
          | refine xP_s rfl rfl rfl ?_
          | refine xP_ret rfl rfl rfl ?_
        exact kk
    · simp only [List.mem_cons, List.not_mem_nil, or_false, forall_eq_or_imp, forall_eq] at hy
      have hne : ∀ a : Int32, ¬ y = a → ¬ y.toInt = a.toInt := fun a h w => h (Int32.toInt_inj.mp w)
      have w0 : ¬ y.toInt = 0 := hne 0 hy.1
      have w1 : ¬ y.toInt = 1 := hne 1 hy.2.1
      have w2 : ¬ y.toInt = 2 := hne 2 hy.2.2.1
      have w3 : ¬ y.toInt = 3 := hne 3 hy.2.2.2
      exact xP_throw rfl rfl (kc hx (by omega))
end TU
/-- what is read off a text -/
def rdF (sl : List xSl) (t : List Nat) : Option (List xIt × Nat × List Nat) := if scanOK 120 t = true then wholeF sl t else none
abbrev rL : List Nat := [1, 2, 5, 6, 11, 12, 13, 14, 15, 16, 17, 18, 19, 20, 21, 22, 23, 24, 25]
theorem nm0.more {nm r : List Nat} (h : nm0 nm) : nm0 (nm ++ r) := ⟨h.1.more, h.2.1.more, h.2.2.1.more, h.2.2.2.more⟩
section TV
variable {sc : xSc} {d g : Nat} {A : List xC} {t nm : List Nat} {sl : List xSl} {u p v : Nat} {G : xG} {n : Nat} {F : xF} {a pr : Nat} {Ts : List (List xIt × Nat)} {P : xO → xH → Prop}
set_option maxHeartbeats 4000000 in
set_option maxRecDepth 100000 in
theorem p_read (h0 : xTo A Ts.length) (h40 : Ts.length ≤ 40) (hrt : xRt A Ts) (hw : xWd A t nm sl u p v G n F a pr) (hN : nm0 nm) (hsl : ∀ e ∈ sl, ¬ e.1 = 0 ∧ 1 ≤ e.2.1 ∧ e.2.1 ≤ 1200) (h44 : ∀ e ∈ sl, e.1 = 44 → e.2.2 = 1) (hch : ∀ c ∈ t, 32 ≤ c ∧ c ≤ 126) (ht : xTms F nm 0 Ts n) (h600 : n ≤ 600) (hnm : nm.length + 120 ≤ 4926)
    (kb : rdF sl t = none → ∀ A' u p v G F' a pr, xTo A' Ts.length → xWd A' [] nm sl u p v G n F' a pr → xA0 F F' n → xSame A A' rL → P (.inr 0) (A', g + 1))
    (kc : ∀ L D s', rdF sl t = some (L, D, s') → (40 ≤ Ts.length ∨ 600 < n + L.length) → ∀ A' u p v G F' a pr, xTo A' Ts.length → xWd A' t nm sl u p v G n F' a pr → xA0 F F' n → xSame A A' rL → P (.inr 2) (A', g + 1))
    (ko : ∀ L D s', rdF sl t = some (L, D, s') → Ts.length < 40 → n + L.length ≤ 600 → ∀ A' u p v G F' a pr w, xTo A' (Ts.length + 1) → xRt A' (Ts ++ [(L, D)]) → xWd A' s' (nm ++ w) sl u p v G (n + L.length) F' a pr → w.length ≤ 120 → xTms F' (nm ++ w) 0 (Ts ++ [(L, D)]) (n + L.length) → xSame A A' (0 :: 27 :: rL) → P (.inl (some (.int (nI Ts.length)))) (A', g)) : xM1 sc (d + 56) 3 [.ref 0] (A, g) P := by
  have h0' := h0
  unfold xTo at h0'
  obtain ⟨hs, hn, ho, htk, hp, h25, hpr⟩ := id hw
  have htl := hs.len
  have hm1 : (-1 : Int32).toInt = -1 := rfl
  -- after a failure of either kind
  have cutI : ∀ w : List Nat, (if 0 ≤ (nI nm.length).toInt ∧ (nI nm.length).toInt < (nm ++ w).length then (nm ++ w).take (nI nm.length).toInt.toNat else nm ++ w) = nm := by
    intro w
    rw [nI_toInt (by omega)]
    split
    · simp
    next hh =>
      have : w = [] := by
        apply List.length_eq_zero_iff.mp
        rw [List.length_append] at hh
        omega
      rw [this, List.append_nil]
  have bad : ∀ (A2 : List xC) (u2 p2 v2 : Nat) (G2 : xG) (n2 : Nat) (F2 : xF) (a2 pr2 : Nat) (w : List Nat), rdF sl t = none → xWd A2 t (nm ++ w) sl u2 p2 v2 G2 n2 F2 a2 pr2 → n ≤ n2 → xA0 F F2 n → xSame A A2 rL → xP sc (d + 56) 3 37 [(0, .ref 0), (1, .int (nI n)), (2, .int (nI nm.length))] [.int (-1)] (A2, g) P := by
    intro A2 u2 p2 v2 G2 n2 F2 a2 pr2 w hno hw2 hn2 ha2 hs2
    obtain ⟨ws, wn, wo, wt, wp, w25, wpr⟩ := id hw2
    have o2 : xTo A2 Ts.length := (hs2.2 0 (by decide)).trans h0
    have o2' := o2
    unfold xTo at o2'
    refine xP_s rfl rfl rfl ?_
    refine xP_s rfl rfl rfl ?_
    refine xP_s rfl rfl rfl ?_
    refine xP_s rfl rfl rfl ?_
    refine xP_s rfl rfl rfl ?_
    refine xP_get rfl o2' rfl ?_
    refine xP_s rfl rfl rfl ?_
    refine xP_cv rfl rfl rfl rfl rfl wp.2.1 (p_partsCut wp hn2 (fun A3 x1 x2 => ?_))
    have hw3 := hw2.setP x1 (x2.wide (by decide))
    have o3 : xTo A3 Ts.length := (x2.2 0 (by decide)).trans o2
    have o3' := o3
    unfold xTo at o3'
    refine xP_s rfl rfl rfl ?_
    refine xP_get rfl o3' rfl ?_
    refine xP_s rfl rfl rfl ?_
    refine xP_cv rfl rfl rfl rfl rfl hw3.2.1.obj (p_cut hw3.2.1 (by decide) (fun A4 y1 y2 => ?_))
    rw [cutI w] at y1
    have o4 : xTo A4 Ts.length := (y2.2 0 (by decide)).trans o3
    have o4' := o4
    unfold xTo at o4'
    have hs4 := hw3.1.same y2 (by decide) (by decide)
    refine xP_s rfl rfl rfl ?_
    refine xP_get rfl o4' rfl ?_
    refine xP_s rfl rfl rfl ?_
    refine xP_cv rfl rfl rfl rfl rfl hs4.obj (p_cut hs4 (by decide) (fun A5 r1 r2 => ?_))
    have e : (if 0 ≤ (0 : Int32).toInt ∧ (0 : Int32).toInt < t.length then t.take (0 : Int32).toInt.toNat else t) = [] := by
      cases t with
      | nil => simp
      | cons c r => simp
    rw [e] at r1
    obtain ⟨vs, vn, vo, vt, vp, v25, vpr⟩ := hw3
    have s45 := y2.trans r2
    refine xP_throw (d := d + 48) rfl rfl ?_
    exact kb hno A5 u2 p2 v2 G2 F2 a2 pr2 ((r2.2 0 (by decide)).trans o4) ⟨r1, y1.same r2 (by decide) (by decide), vo.same s45 (by decide) (by decide) (by decide) (by decide), vt.same s45 (by decide), vp.same s45 (by decide) (by decide) (by decide) (by decide) (by decide) (by decide) (by decide), (s45.2 25 (by decide)).trans v25, vpr⟩ ha2 ((hs2.trans (x2.trans s45)).wide (by decide))
  unfold xM1
  refine xP_s rfl rfl rfl ?_
  refine xP_get rfl h0' rfl ?_
  refine xP_cv rfl rfl rfl rfl rfl hp.2.1 (p_partsUsed hp ?_)
  refine xP_s rfl rfl rfl ?_
  refine xP_s rfl rfl rfl ?_
  refine xP_get rfl h0' rfl ?_
  refine xP_cv rfl rfl rfl rfl rfl hn.obj (p_length hn ?_)
  refine xP_s rfl rfl rfl ?_
  refine xP_s rfl rfl rfl ?_
  refine xP_get rfl h0' rfl ?_
  refine xP_cv rfl rfl rfl rfl rfl htk.2.1 (p_scan htk hs hn (by omega) (fun A1 u1 p1 v1 G1 w z1 z2 z3 z4 => ?_))
  have hw1 : xWd A1 t (nm ++ w) sl u1 p1 v1 G1 n F a pr := ⟨hs.same z4 (by decide) (by decide), z3, ho.same z4 (by decide) (by decide) (by decide) (by decide), z2, hp.same z4 (by decide) (by decide) (by decide) (by decide) (by decide) (by decide) (by decide), (z4.2 25 (by decide)).trans h25, hpr⟩
  have o1 : xTo A1 Ts.length := (z4.2 0 (by decide)).trans h0
  have o1' := o1
  unfold xTo at o1'
  cases hok : scanOK 120 t
  · have hno : rdF sl t = none := by
      unfold rdF
      rw [if_neg (by rw [hok]; decide)]
    have bd := bad A1 u1 p1 v1 G1 n F a pr w hno hw1 (Nat.le_refl _) (xA0.refl _ _) (z4.wide (by decide))
    refine xP_s rfl rfl rfl ?_
    refine xP_s rfl rfl rfl ?_
    exact bd
  · have erd : rdF sl t = wholeF sl t := by
      unfold rdF
      rw [if_pos hok]
    obtain ⟨zt, zw⟩ := z1 hok
    have y25 := hw1.2.2.2.2.2.1
    unfold xPa at y25
    refine xP_s rfl rfl rfl ?_
    refine xP_s rfl rfl rfl ?_
    refine xP_get rfl o1' rfl ?_
    refine xP_cv rfl rfl rfl rfl rfl y25 (p_whole (d := d) hN.more hsl h44 hch hw1 zt (by omega) (fun hno A2 n2 F2 a2 pr2 x1 x2 x3 x4 => ?_) (fun L D s' hyes A2 F2 a2 pr2 x1 x2 x3 x4 x5 x6 x7 x8 x9 x10 x11 x12 => ?_))
    · have bd := bad A2 u1 p1 v1 G1 n2 F2 a2 pr2 w (by rw [erd]; exact hno) x1 x2 x3 ((z4.trans x4).wide (by decide))
      refine xP_s rfl rfl rfl ?_
      exact bd
    · have hrd : rdF sl t = some (L, D, s') := by rw [erd]; exact hyes
      obtain ⟨ws, wn, wo, wt, wp, w25, wpr⟩ := id x1
      have hs2 : xSame A A2 rL := (z4.trans x12).wide (by decide)
      have o2 : xTo A2 Ts.length := (hs2.2 0 (by decide)).trans h0
      have o2' := o2
      unfold xTo at o2'
      have hQ : (nI Ts.length).toInt = (Ts.length : Int) := nI_toInt (by omega)
      have hNL : (nI (n + L.length)).toInt = ((n + L.length : Nat) : Int) := nI_toInt (by have := wp.1; omega)
      have z0 : (0 : Int32).toInt = 0 := rfl
      have z40 : (40 : Int32).toInt = 40 := rfl
      have z600 : (600 : Int32).toInt = 600 := rfl
      have full : (40 ≤ Ts.length ∨ 600 < n + L.length) → xP sc (d + 56) 3 106 [(0, .ref 0), (1, .int (nI n)), (2, .int (nI nm.length)), (3, .int (nI (n + L.length - 1)))] [] (A2, g) P := by
        intro hful
        refine xP_s rfl rfl rfl ?_
        refine xP_get rfl o2' rfl ?_
        refine xP_s rfl rfl rfl ?_
        refine xP_cv rfl rfl rfl rfl rfl wp.2.1 (p_partsCut wp (by omega) (fun A3 c1 c2 => ?_))
        have hw3 := x1.setP c1 (c2.wide (by decide))
        have o3 : xTo A3 Ts.length := (c2.2 0 (by decide)).trans o2
        have o3' := o3
        unfold xTo at o3'
        refine xP_s rfl rfl rfl ?_
        refine xP_get rfl o3' rfl ?_
        refine xP_s rfl rfl rfl ?_
        refine xP_cv rfl rfl rfl rfl rfl hw3.2.1.obj (p_cut hw3.2.1 (by decide) (fun A4 y1 y2 => ?_))
        rw [cutI w] at y1
        obtain ⟨vs, vn, vo, vt, vp, v25, vpr⟩ := hw3
        refine xP_throw (d := d + 48) rfl rfl ?_
        exact kc L D s' hrd hful A4 u1 p1 v1 G1 F2 a2 pr2 ((y2.2 0 (by decide)).trans o3) ⟨vs.same y2 (by decide) (by decide), y1, vo.same y2 (by decide) (by decide) (by decide) (by decide), vt.same y2 (by decide), vp.same y2 (by decide) (by decide) (by decide) (by decide) (by decide) (by decide) (by decide), (y2.2 25 (by decide)).trans v25, vpr⟩ x11 ((hs2.trans (c2.trans y2)).wide (by decide))
      refine xP_s rfl rfl rfl ?_
      refine xP_s rfl rfl rfl ?_
      refine xP_s rfl rfl rfl ?_
      refine xP_s rfl rfl rfl ?_
      refine xP_s rfl rfl rfl ?_
      refine xP_if (fun hc => ?_) (fun hc => ?_)
      · refine xP_s rfl rfl rfl ?_
        refine xP_get rfl o2' rfl ?_
        refine xP_s rfl rfl rfl ?_
        refine xP_if (fun hc => ?_) (fun hc => ?_)
        · have := xc_t hc
          dsimp only at this
          omega
        · refine xP_s rfl rfl rfl ?_
          refine xP_get rfl o2' rfl ?_
          refine xP_s rfl rfl rfl ?_
          refine xP_s rfl rfl rfl ?_
          refine xP_if (fun hc => ?_) (fun hc => ?_)
          · have q1 := xc_t hc
            dsimp only at q1
            exact full (Or.inl (by omega))
          · have q1 := xc_f hc
            dsimp only at q1
            refine xP_s rfl rfl rfl ?_
            refine xP_get rfl o2' rfl ?_
            refine xP_cv rfl rfl rfl rfl rfl wp.2.1 (p_partsUsed wp ?_)
            refine xP_s rfl rfl rfl ?_
            refine xP_s rfl rfl rfl ?_
            refine xP_if (fun hc => ?_) (fun hc => ?_)
            · have q2 := xc_t hc
              dsimp only at q2
              have hdr := x4.drop
              refine xP_s rfl rfl rfl ?_
              refine xP_get rfl o2' rfl ?_
              refine xP_s rfl rfl rfl ?_
              refine xP_get rfl o2' rfl ?_
              have w25' := w25
              unfold xPa at w25'
              refine xP_cv rfl rfl rfl rfl rfl w25' (p_end x1 x2 ?_)
              rw [x3]
              refine xP_cv rfl rfl rfl rfl rfl ws.obj (p_dropFirst ws (by decide) (by decide) (by omega) (fun A3 c1 c2 => ?_))
              rw [hdr.1] at c1
              have o3 : xTo A3 Ts.length := (c2.2 0 (by decide)).trans o2
              have o3' := o3
              unfold xTo at o3'
              obtain ⟨fr, f1, f2⟩ := hrt
              have hs3 : xSame A A3 rL := (hs2.trans c2).wide (by decide)
              have f3 : A3[27]? = some (.inl (.int, 40, .inl fr)) := (hs3.2 27 (by decide)).trans f1
              refine xP_s rfl rfl rfl ?_
              refine xP_get rfl o3' rfl ?_
              refine xP_s rfl rfl rfl ?_
              refine xP_get rfl o3' rfl ?_
              refine xP_s rfl rfl rfl ?_
              refine xP_ias rfl f3 (xib_of (by omega) (by omega)) ?_
              rw [nI_clamp (by omega)]
              have s4 := xSame.set (A := A3) 27 (.inl (.int, 40, .inl (upd fr Ts.length (nI (n + L.length - 1)))))
              have o4 := (s4.2 0 (by decide)).trans o3'
              refine xP_s rfl rfl rfl ?_
              refine xP_s rfl rfl rfl ?_
              refine xP_get rfl o4 rfl ?_
              refine xP_s rfl rfl rfl ?_
              refine xP_s rfl rfl rfl ?_
              refine xP_put rfl o4 (Nat.le_of_ble_eq_true rfl) rfl ?_
              rw [show nI Ts.length + 1 = nI (Ts.length + 1) from nI_1 _]
              have o5 := xset_eq (e := .inr (0, [.ref 1, .ref 3, .ref 5, .ref 7, .ref 11, .ref 18, .ref 25, .ref 26, .ref 27, .int (nI (Ts.length + 1))])) o4
              refine xP_s rfl rfl rfl ?_
              refine xP_get rfl o5 rfl ?_
              refine xP_s rfl rfl rfl ?_
              refine xP_s rfl rfl rfl ?_
              rw [show nI (Ts.length + 1) - 1 = nI Ts.length by rw [← nI_1]; exact Int32.add_sub_cancel _ _]
              have s5 := s4.trans (xSame.set (A := A3.set 27 (.inl (.int, 40, .inl (upd fr Ts.length (nI (n + L.length - 1)))))) 0 (.inr (0, [.ref 1, .ref 3, .ref 5, .ref 7, .ref 11, .ref 18, .ref 25, .ref 26, .ref 27, .int (nI (Ts.length + 1))])))
              have s35 := c2.trans s5
              have hnT : n = tlen Ts := by
                have := ht.len
                omega
              refine xP_ret rfl rfl rfl ?_
              refine ko L D s' hrd (by omega) (by omega) _ u1 p1 v1 G1 F2 a2 pr2 w o5 ⟨_, xset_n7 (by decide) (xset_eq f3), ?_⟩ ⟨c1.same s5 (by decide) (by decide), wn.same s35 (by decide) (by decide), wo.same s35 (by decide) (by decide) (by decide) (by decide), wt.same s35 (by decide), wp.same s35 (by decide) (by decide) (by decide) (by decide) (by decide) (by decide) (by decide), (s35.2 25 (by decide)).trans w25, wpr⟩ (by omega) ((ht.frame x11).snoc x5 x9 x6 x7 x8) ((hs3.trans s5).wide (by decide))
              intro i q hi
              by_cases hil : i = Ts.length
              · subst hil
                rw [pk_us]
                simp at hi
                subst hi
                simp [hnT]
              · rw [pk_un hil]
                rw [List.getElem?_append] at hi
                split at hi
                next hlt =>
                  rw [f2 i q hi, List.take_append_of_le_length (by omega)]
                next =>
                  exfalso
                  have := (List.getElem?_eq_some_iff.mp hi).1
                  simp at this
                  omega
            · have q2 := xc_f hc
              dsimp only at q2
              exact full (Or.inr (by omega))
      · exact absurd (xc_f hc) (nI_neg1 (by have := wp.1; omega))
end TV
