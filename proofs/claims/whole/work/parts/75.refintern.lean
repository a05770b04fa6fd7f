-- the reference: intern, named
section NC
variable {sc : xSc} {d g : Nat} {A B C : List xC} {v : Nat → Int32} {a : Nat → Nat → Int32} {o : Nat → Int64} {P : xO → xH → Prop} {N : List (List Nat)} {w : List Nat}
theorem tk_ge {u w : List Nat} {k : Nat} (h : u.take k = w.take k) (hu : u.length ≤ k) (hw : w.length ≤ k) : u = w := by
  rwa [List.take_of_length_le hu, List.take_of_length_le hw] at h
theorem tk_s {u w : List Nat} {k c : Nat} (h : u.take k = w.take k) (hu : u[k]? = some c) (hw : w[k]? = some c) : u.take (k + 1) = w.take (k + 1) := by
  rw [List.take_add_one, List.take_add_one, h, hu, hw]
set_option maxRecDepth 100000 in
theorem q_inCmp {i : Nat} {u : List Nat} (hB : B.length = 28) (hw : zH v a w) (hn : zN v a N) (hu : N[i]? = some u) (hl : u.length = w.length)
    (k1 : u = w → ∀ x, xP sc d 165 77 [(0, .ref 28), (1, .int (nI i)), (2, .int 1), (3, .int x)] [] (mH B C v a o, g) P) (k0 : ¬ u = w → ∀ x, xP sc d 165 77 [(0, .ref 28), (1, .int (nI i)), (2, .int 0), (3, .int x)] [] (mH B C v a o, g) P) :
    ∀ m k, k + m = w.length → u.take k = w.take k → xP sc d 165 31 [(0, .ref 28), (1, .int (nI i)), (2, .int 1), (3, .int (nI k))] [] (mH B C v a o, g) P
  | 0, k, hm, he => by
    have hwl := hw.2.1
    have hK := toI k (by omega)
    have hL := toI w.length (by omega)
    refine xP_s rfl rfl rfl ?_
    refine xP_s rfl rfl rfl ?_
    refine xP_zg rfl hB rfl hw.1 ?_
    refine xP_s rfl rfl rfl ?_
    refine xP_if (fun hq => ?_) (fun hq => ?_)
    · exact k1 (tk_ge he (by omega) (by omega)) _
    · have z := xc_f hq
      dsimp only at z
      omega
  | m + 1, k, hm, he => by
    have hwl := hw.2.1
    have hK := toI k (by omega)
    have hL := toI w.length (by omega)
    have hil := (List.getElem?_eq_some_iff.mp hu).1
    have hof := ofN_le hu
    have hN := hn.2.2.1
    have hN2 := hn.2.2.2.1
    obtain ⟨m1, m2, m3, m4⟩ := hn.2.2.2.2.2 i u hu
    obtain ⟨c1, hc1⟩ : ∃ c, u[k]? = some c := ⟨u[k]'(by omega), List.getElem?_eq_getElem (by omega)⟩
    obtain ⟨c2, hc2⟩ : ∃ c, w[k]? = some c := ⟨w[k]'(by omega), List.getElem?_eq_getElem (by omega)⟩
    obtain ⟨y1, y2⟩ := m4 k c1 hc1
    obtain ⟨y3, y4⟩ := hw.2.2 k c2 hc2
    have hC1 := toI c1 (by omega)
    have hC2 := toI c2 (by omega)
    refine xP_s rfl rfl rfl ?_
    refine xP_s rfl rfl rfl ?_
    refine xP_zg rfl hB rfl hw.1 ?_
    refine xP_s rfl rfl rfl ?_
    refine xP_if (fun hq => ?_) (fun hq => ?_)
    · have z := xc_t hq
      dsimp only at z
      omega
    · refine xP_s rfl rfl rfl ?_
      refine xP_s rfl rfl rfl ?_
      refine xP_s rfl rfl rfl ?_
      refine xP_get rfl (mH_28 hB) rfl ?_
      refine xP_s rfl rfl rfl ?_
      refine xP_get rfl (mH_28 hB) rfl ?_
      refine xP_s rfl rfl rfl ?_
      refine xP_zl (n := 1500) rfl hB rfl rfl (by omega) m2 ?_
      refine xP_s rfl rfl rfl ?_
      refine xP_s rfl rfl rfl ?_
      rw [nI_add]
      refine xP_zl (n := 4600) rfl hB rfl rfl (by omega) y2 ?_
      refine xP_s rfl rfl rfl ?_
      refine xP_get rfl (mH_28 hB) rfl ?_
      refine xP_s rfl rfl rfl ?_
      refine xP_zl (n := 130) rfl hB rfl rfl (by omega) y4 ?_
      refine xP_s rfl rfl rfl ?_
      refine xP_if (fun hq2 => ?_) (fun hq2 => ?_)
      · have z := xc_t hq2
        dsimp only at z
        have hne : ¬ u = w := fun q => by
          rw [q, hc2] at hc1
          cases hc1
          exact z rfl
        have kk := k0 hne
        refine xP_s rfl rfl rfl ?_
        refine xP_s rfl rfl rfl ?_
        refine xP_s rfl rfl rfl ?_
        refine xP_s rfl rfl rfl ?_
        refine xP_s rfl rfl rfl ?_
        refine xP_s rfl rfl rfl ?_
        refine xP_zg rfl hB rfl hw.1 ?_
        refine xP_s rfl rfl rfl ?_
        refine xP_if (fun hq3 => ?_) (fun hq3 => ?_)
        · exact kk _
        · refine xP_s rfl rfl rfl ?_
          refine xP_s rfl rfl rfl ?_
          exact kk _
      · have z := xc_f hq2
        dsimp only at z
        have ec : c1 = c2 := by omega
        have go := q_inCmp hB hw hn hu hl k1 k0 m (k + 1) (by omega) (tk_s he hc1 (by rw [ec]; exact hc2))
        rw [← nI_p1 k] at go
        refine xP_s rfl rfl rfl ?_
        refine xP_s rfl rfl rfl ?_
        refine xP_s rfl rfl rfl ?_
        refine xP_s rfl rfl rfl ?_
        refine xP_s rfl rfl rfl ?_
        exact go
set_option maxRecDepth 100000 in
theorem q_inLoop (hB : B.length = 28) (hw : zH v a w) (hn : zN v a N)
    (k1 : ∀ j, N[j]? = some w → P (.inl (some (.int (nI j)))) (mH B C v a o, g)) (k0 : ¬ w ∈ N → xP sc d 165 89 [(0, .ref 28), (1, .int (nI N.length))] [] (mH B C v a o, g) P) :
    ∀ m i, i + m = N.length → (∀ j, j < i → ¬ N[j]? = some w) → xP sc d 165 2 [(0, .ref 28), (1, .int (nI i))] [] (mH B C v a o, g) P
  | 0, i, hm, hno => by
    have hN := hn.2.2.1
    have hI := toI i (by omega)
    have hL := toI N.length (by omega)
    have ei : i = N.length := by omega
    refine xP_s rfl rfl rfl ?_
    refine xP_s rfl rfl rfl ?_
    refine xP_zg rfl hB rfl hn.1 ?_
    refine xP_s rfl rfl rfl ?_
    refine xP_if (fun hq => ?_) (fun hq => ?_)
    · rw [ei]
      refine k0 (fun h => ?_)
      obtain ⟨j, hj⟩ := List.mem_iff_getElem?.mp h
      exact hno j (by rw [ei]; exact (List.getElem?_eq_some_iff.mp hj).1) hj
    · have z := xc_f hq
      dsimp only at z
      omega
  | m + 1, i, hm, hno => by
    have hwl := hw.2.1
    have hN := hn.2.2.1
    have hI := toI i (by omega)
    have hL := toI N.length (by omega)
    have hWl := toI w.length (by omega)
    obtain ⟨u, hu⟩ : ∃ u, N[i]? = some u := ⟨N[i]'(by omega), List.getElem?_eq_getElem (by omega)⟩
    obtain ⟨m1, m2, m3, m4⟩ := hn.2.2.2.2.2 i u hu
    have hUl := toI u.length (by omega)
    have next : ¬ u = w → ∀ x, xP sc d 165 77 [(0, .ref 28), (1, .int (nI i)), (2, .int 0), (3, .int x)] [] (mH B C v a o, g) P := by
      intro hne x
      have go := q_inLoop hB hw hn k1 k0 m (i + 1) (by omega) (fun j hj => by
        rcases Nat.lt_or_ge j i with y | y
        · exact hno j y
        · rw [show j = i by omega, hu]
          intro q
          exact hne (Option.some.inj q))
      rw [← nI_p1 i] at go
      have go := xP_more [(2, .int 0), (3, .int x)] rfl go
      refine xP_s rfl rfl rfl ?_
      refine xP_s rfl rfl rfl ?_
      refine xP_s rfl rfl rfl ?_
      refine xP_s rfl rfl rfl ?_
      exact go
    refine xP_s rfl rfl rfl ?_
    refine xP_s rfl rfl rfl ?_
    refine xP_zg rfl hB rfl hn.1 ?_
    refine xP_s rfl rfl rfl ?_
    refine xP_if (fun hq => ?_) (fun hq => ?_)
    · have z := xc_t hq
      dsimp only at z
      omega
    · refine xP_s rfl rfl rfl ?_
      refine xP_get rfl (mH_28 hB) rfl ?_
      refine xP_s rfl rfl rfl ?_
      refine xP_zl (n := 1500) rfl hB rfl rfl (by omega) m3 ?_
      refine xP_s rfl rfl rfl ?_
      refine xP_zg rfl hB rfl hw.1 ?_
      refine xP_s rfl rfl rfl ?_
      refine xP_if (fun hq2 => ?_) (fun hq2 => ?_)
      · have z := xc_t hq2
        dsimp only at z
        have hne : ¬ u = w := fun q => z (by rw [q])
        have kk := next hne
        refine xP_s rfl rfl rfl ?_
        refine xP_s rfl rfl rfl ?_
        refine xP_s rfl rfl rfl ?_
        refine xP_s rfl rfl rfl ?_
        refine xP_s rfl rfl rfl ?_
        refine xP_s rfl rfl rfl ?_
        refine xP_zg rfl hB rfl hw.1 ?_
        refine xP_s rfl rfl rfl ?_
        refine xP_if (fun hq3 => ?_) (fun hq3 => ?_)
        · exact kk _
        · refine xP_s rfl rfl rfl ?_
          refine xP_s rfl rfl rfl ?_
          exact kk _
      · have z := xc_f hq2
        dsimp only at z
        have go := q_inCmp hB hw hn hu (by omega) (fun he x => by
          have kk := k1 i (by rw [hu, he])
          repeat' first
            | refine xP_s rfl rfl rfl ?_
            | refine xP_ret rfl rfl rfl ?_
          exact kk) next w.length 0 (by omega) rfl
        refine xP_s rfl rfl rfl ?_
        refine xP_s rfl rfl rfl ?_
        refine xP_s rfl rfl rfl ?_
        refine xP_s rfl rfl rfl ?_
        refine xP_s rfl rfl rfl ?_
        exact go
-- letters put behind those kept
set_option maxRecDepth 100000 in
theorem q_inPut (hB : B.length = 28) {n : Nat} (hn : n + w.length ≤ 4600) : ∀ (m k : Nat) (a : Nat → Nat → Int32), zH v a w → v 12 = nI n → k + m = w.length → (∀ j c : Nat, j < k → w[j]? = some c → a 37 (n + j) = nI c) →
    (∀ a', aS a a' [37] → (∀ i, i < n → a' 37 i = a 37 i) → (∀ j c : Nat, w[j]? = some c → a' 37 (n + j) = nI c) → xP sc d 165 148 [(0, .ref 28), (1, .int (nI w.length))] [] (mH B C v a' o, g) P) →
    xP sc d 165 117 [(0, .ref 28), (1, .int (nI k))] [] (mH B C v a o, g) P
  | 0, k, a, hw, h12, hm, he, kk => by
    have hwl := hw.2.1
    have hK := toI k (by omega)
    have hL := toI w.length (by omega)
    have ek : k = w.length := by omega
    refine xP_s rfl rfl rfl ?_
    refine xP_s rfl rfl rfl ?_
    refine xP_zg rfl hB rfl hw.1 ?_
    refine xP_s rfl rfl rfl ?_
    refine xP_if (fun hq => ?_) (fun hq => ?_)
    · rw [ek]
      exact kk a (aS.refl _ _) (fun _ _ => rfl) (fun j c hj => he j c (by rw [ek]; exact (List.getElem?_eq_some_iff.mp hj).1) hj)
    · have z := xc_f hq
      dsimp only at z
      omega
  | m + 1, k, a, hw, h12, hm, he, kk => by
    have hwl := hw.2.1
    have hK := toI k (by omega)
    have hL := toI w.length (by omega)
    obtain ⟨c, hc⟩ : ∃ c, w[k]? = some c := ⟨w[k]'(by omega), List.getElem?_eq_getElem (by omega)⟩
    obtain ⟨y3, y4⟩ := hw.2.2 k c hc
    have go := q_inPut hB hn m (k + 1) (uA a 37 (upd (a 37) (n + k) (nI c))) (hw.same (vS.refl _ []) (aS.u _ _ _) (by decide) (by decide)) h12 (by omega) (fun j c' hj hc' => by
      rw [uA_s]
      rcases Nat.lt_or_ge j k with y | y
      · rw [upd_n (by omega)]
        exact he j c' y hc'
      · have ej : j = k := by omega
        rw [ej, upd_s]
        rw [ej, hc] at hc'
        cases hc'
        rfl) (fun a' q1 q2 q3 => kk a' ((aS.u _ _ _).trans q1) (fun i hi => by rw [q2 i hi, uA_s, upd_n (by omega)]) q3)
    rw [← nI_p1 k] at go
    refine xP_s rfl rfl rfl ?_
    refine xP_s rfl rfl rfl ?_
    refine xP_zg rfl hB rfl hw.1 ?_
    refine xP_s rfl rfl rfl ?_
    refine xP_if (fun hq => ?_) (fun hq => ?_)
    · have z := xc_t hq
      dsimp only at z
      omega
    · refine xP_s rfl rfl rfl ?_
      refine xP_get rfl (mH_28 hB) rfl ?_
      refine xP_s rfl rfl rfl ?_
      refine xP_zg rfl hB rfl h12 ?_
      refine xP_s rfl rfl rfl ?_
      refine xP_s rfl rfl rfl ?_
      rw [nI_add]
      refine xP_s rfl rfl rfl ?_
      refine xP_get rfl (mH_28 hB) rfl ?_
      refine xP_s rfl rfl rfl ?_
      refine xP_zl (n := 130) rfl hB rfl rfl (by omega) y4 ?_
      refine xP_zs (n := 4600) rfl hB rfl rfl (by omega) ?_
      refine xP_s rfl rfl rfl ?_
      refine xP_s rfl rfl rfl ?_
      exact go
theorem zN_new {v' : Nat → Int32} {a' : Nat → Nat → Int32} (hn : zN v a N) (hwl : w.length ≤ 130) (hwc : ∀ j c : Nat, w[j]? = some c → c < 128) (hnew : ¬ w ∈ N) (h1 : N.length < 1500) (h2 : ltN N + w.length ≤ 4600) (e9 : v' 9 = nI (N.length + 1)) (e12 : v' 12 = nI (ltN N + w.length))
    (e35 : ∀ i, a' 35 i = if i = N.length then nI (ltN N) else a 35 i) (e36 : ∀ i, a' 36 i = if i = N.length then nI w.length else a 36 i)
    (e37 : ∀ i, i < ltN N → a' 37 i = a 37 i) (f37 : ∀ j c : Nat, w[j]? = some c → a' 37 (ltN N + j) = nI c) : zN v' a' (N ++ [w]) := by
  obtain ⟨n1, n2, n3, n4, n6, n5⟩ := hn
  have hl : ltN (N ++ [w]) = ltN N + w.length := by
    rw [ltN_app]
    simp [ltN]
  refine ⟨by rw [e9, List.length_append]; rfl, by rw [e12, hl], by rw [List.length_append, List.length_singleton]; omega, by omega, fun i j u hi hj => ?_, fun i u hu => ?_⟩
  · rcases Nat.lt_or_ge i N.length with y | y
    · rw [List.getElem?_append_left y] at hi
      rcases Nat.lt_or_ge j N.length with x | x
      · rw [List.getElem?_append_left x] at hj
        exact n6 i j u hi hj
      · have hj' := (List.getElem?_eq_some_iff.mp hj).1
        rw [List.length_append, List.length_singleton] at hj'
        rw [show j = N.length by omega] at hj
        simp at hj
        exact absurd (List.mem_of_getElem? hi) (by rw [← hj]; exact hnew)
    · have hi' := (List.getElem?_eq_some_iff.mp hi).1
      rw [List.length_append, List.length_singleton] at hi'
      rw [show i = N.length by omega] at hi
      simp at hi
      rcases Nat.lt_or_ge j N.length with x | x
      · rw [List.getElem?_append_left x] at hj
        exact absurd (List.mem_of_getElem? hj) (by rw [← hi]; exact hnew)
      · have hj' := (List.getElem?_eq_some_iff.mp hj).1
        rw [List.length_append, List.length_singleton] at hj'
        omega
  · rcases Nat.lt_or_ge i N.length with y | y
    · rw [List.getElem?_append_left y] at hu
      obtain ⟨m1, m2, m3, m4⟩ := n5 i u hu
      have hof := ofN_le hu
      rw [ofN_app (by omega), e35, if_neg (by omega), e36, if_neg (by omega)]
      refine ⟨m1, m2, m3, fun j c hj => ?_⟩
      have hjl := (List.getElem?_eq_some_iff.mp hj).1
      rw [e37 _ (by omega)]
      exact m4 j c hj
    · have hi' := (List.getElem?_eq_some_iff.mp hu).1
      rw [List.length_append, List.length_singleton] at hi'
      have ei : i = N.length := by omega
      subst ei
      simp at hu
      subst hu
      rw [ofN_app (by omega), ofN_end, e35, if_pos rfl, e36, if_pos rfl]
      exact ⟨hwl, rfl, rfl, fun j c hj => ⟨hwc j c hj, f37 j c hj⟩⟩
set_option maxHeartbeats 4000000 in
set_option maxRecDepth 100000 in
theorem q_intern (hB : B.length = 28) (hw : zH v a w) (hn : zN v a N) (hroom : ¬ w ∈ N → N.length < 1500 ∧ ltN N + w.length ≤ 4600)
    (k : ∀ v' a' j, (nmA N w)[j]? = some w → zN v' a' (nmA N w) → zH v' a' w → vS v v' [9, 12] → aS a a' [35, 36, 37] → P (.inl (some (.int (nI j)))) (mH B C v' a' o, g)) : xM1 sc d 165 [.ref 28] (mH B C v a o, g) P := by
  have hN := hn.2.2.1
  have hwl := hw.2.1
  have go := q_inLoop (sc := sc) (d := d) (C := C) (o := o) (g := g) (P := P) hB hw hn (fun j hj => by
      have hm := List.mem_of_getElem? hj
      have e : nmA N w = N := if_pos hm
      rw [e] at k
      exact k v a j hj hn hw (vS.refl _ _) (aS.refl _ _)) (fun hnew => ?_) N.length 0 (by omega) (fun j hj => by omega)
  · unfold xM1
    refine xP_s rfl rfl rfl ?_
    refine xP_s rfl rfl rfl ?_
    exact go
  · obtain ⟨r1, r2⟩ := hroom hnew
    have e : nmA N w = N ++ [w] := if_neg hnew
    rw [e] at k
    refine xP_more (ls := [(0, .ref 28)]) [(1, .int (nI N.length))] rfl ?_
    refine xP_s rfl rfl rfl ?_
    refine xP_get rfl (mH_28 hB) rfl ?_
    refine xP_s rfl rfl rfl ?_
    refine xP_zg rfl hB rfl hn.1 ?_
    refine xP_s rfl rfl rfl ?_
    refine xP_zg rfl hB rfl hn.2.1 ?_
    refine xP_zs (n := 1500) rfl hB rfl rfl r1 ?_
    refine xP_s rfl rfl rfl ?_
    refine xP_get rfl (mH_28 hB) rfl ?_
    refine xP_s rfl rfl rfl ?_
    refine xP_zg rfl hB rfl hn.1 ?_
    refine xP_s rfl rfl rfl ?_
    refine xP_zg rfl hB rfl hw.1 ?_
    refine xP_zs (n := 1500) rfl hB rfl rfl r1 ?_
    refine xP_s rfl rfl rfl ?_
    refine xP_s rfl rfl rfl ?_
    refine q_inPut hB (n := ltN N) r2 w.length 0 _ ((hw.same (vS.refl _ []) (aS.u _ _ _) (by decide) (by decide)).same (vS.refl _ []) (aS.u _ _ _) (by decide) (by decide)) hn.2.1 (by omega) (fun j c hj => by omega) (fun a' q1 q2 q3 => ?_)
    have f37 : uA (uA a 35 (upd (a 35) N.length (nI (ltN N)))) 36 (upd (uA a 35 (upd (a 35) N.length (nI (ltN N))) 36) N.length (nI w.length)) 37 = a 37 := by rw [uA_n (by decide), uA_n (by decide)]
    rw [f37] at q2
    have g35 : ∀ i, a' 35 i = if i = N.length then nI (ltN N) else a 35 i := by
      intro i
      rw [q1 35 (by decide), uA_n (by decide), uA_s]
      rfl
    have g36 : ∀ i, a' 36 i = if i = N.length then nI w.length else a 36 i := by
      intro i
      rw [q1 36 (by decide), uA_s, uA_n (by decide)]
      rfl
    have fr : aS a a' [35, 36, 37] := by
      have z1 : aS a (uA a 35 (upd (a 35) N.length (nI (ltN N)))) [35, 36, 37] := (aS.u _ _ _).wide (by decide)
      have z2 : aS (uA a 35 (upd (a 35) N.length (nI (ltN N)))) (uA (uA a 35 (upd (a 35) N.length (nI (ltN N)))) 36 (upd (uA a 35 (upd (a 35) N.length (nI (ltN N))) 36) N.length (nI w.length))) [35, 36, 37] := (aS.u _ _ _).wide (by decide)
      exact (z1.trans z2).trans (q1.wide (by decide))
    have hw' : zH v a' w := hw.same (vS.refl _ []) fr (by decide) (by decide)
    refine xP_s rfl rfl rfl ?_
    refine xP_s rfl rfl rfl ?_
    refine xP_zg rfl hB rfl hn.2.1 ?_
    refine xP_s rfl rfl rfl ?_
    refine xP_zg rfl hB rfl hw.1 ?_
    refine xP_s rfl rfl rfl ?_
    rw [nI_add]
    refine xP_zp rfl hB rfl rfl ?_
    refine xP_s rfl rfl rfl ?_
    refine xP_s rfl rfl rfl ?_
    refine xP_zg rfl hB rfl ((upd_n (by decide)).trans hn.1) ?_
    refine xP_s rfl rfl rfl ?_
    refine xP_s rfl rfl rfl ?_
    rw [nI_p1]
    refine xP_zp rfl hB rfl rfl ?_
    refine xP_s rfl rfl rfl ?_
    refine xP_zg rfl hB rfl upd_s ?_
    have e1 : nI (N.length + 1) - 1 = nI N.length := nI_subN (a := N.length + 1) (b := 1) (by omega)
    have fv : vS v (upd (upd v 12 (nI (ltN N + w.length))) 9 (nI (N.length + 1))) [9, 12] := ((vS.u v 12 _).wide (by decide)).up (by decide)
    have kk := k (upd (upd v 12 (nI (ltN N + w.length))) 9 (nI (N.length + 1))) a' N.length (by simp) (zN_new hn hwl (fun j c h => (hw.2.2 j c h).1) hnew r1 r2 upd_s ((upd_n (by decide)).trans upd_s) g35 g36 q2 q3) (hw'.same fv (aS.refl _ []) (by decide) (by decide)) fv fr
    rw [← e1] at kk
    repeat' first
      | refine xP_s rfl rfl rfl ?_
      | refine xP_ret rfl rfl rfl ?_
    exact kk
set_option maxRecDepth 100000 in
theorem q_named1 {c : Nat} (hB : B.length = 28) (hn : zN v a N) (hc : c < 128) (hroom : ¬ [c] ∈ N → N.length < 1500 ∧ ltN N + 1 ≤ 4600)
    (k : ∀ v' a' j, (nmA N [c])[j]? = some [c] → zN v' a' (nmA N [c]) → vS v v' [9, 12, 25] → aS a a' [35, 36, 37, 42] → P (.inl (some (.int (nI j)))) (mH B C v' a' o, g)) : xM1 sc (d + 1) 166 [.ref 28, .int (nI c), .int 0] (mH B C v a o, g) P := by
  have hz : zH (upd v 25 0) a [] := ⟨upd_s, by decide, fun i c h => by cases h⟩
  have hn1 : zN (upd v 25 0) a N := hn.same (vS.u _ _ _) (aS.refl _ []) (by decide) (by decide) (by decide) (by decide) (by decide)
  have f0 : vS v (upd v 25 0) [9, 12, 25] := (vS.u _ _ _).wide (by decide)
  unfold xM1
  refine xP_s rfl rfl rfl ?_
  refine xP_s rfl rfl rfl ?_
  refine xP_zp rfl hB rfl rfl ?_
  refine xP_s rfl rfl rfl ?_
  refine xP_s rfl rfl rfl ?_
  refine xP_cv rfl rfl rfl rfl rfl (mH_28 hB) (q_keep hB hz (by decide) hc (fun v1 a1 z1 z2 z3 => ?_))
  refine xP_s rfl rfl rfl ?_
  refine xP_s rfl rfl rfl ?_
  refine xP_s rfl rfl rfl ?_
  refine xP_cv rfl rfl rfl rfl rfl (mH_28 hB) (q_intern hB z1 (hn1.same z2 z3 (by decide) (by decide) (by decide) (by decide) (by decide)) hroom (fun v2 a2 j y1 y2 y3 y4 y5 => ?_))
  have kk := k v2 a2 j y1 y2 ((f0.trans (z2.wide (by decide))).trans (y4.wide (by decide))) ((z3.wide (by decide)).trans (y5.wide (by decide)))
  repeat' first
    | refine xP_s rfl rfl rfl ?_
    | refine xP_ret rfl rfl rfl ?_
  exact kk
set_option maxRecDepth 100000 in
theorem q_named2 {c e : Nat} (hB : B.length = 28) (hn : zN v a N) (hc : c < 128) (he : e < 128) (he0 : 0 < e) (hroom : ¬ [c, e] ∈ N → N.length < 1500 ∧ ltN N + 2 ≤ 4600)
    (k : ∀ v' a' j, (nmA N [c, e])[j]? = some [c, e] → zN v' a' (nmA N [c, e]) → vS v v' [9, 12, 25] → aS a a' [35, 36, 37, 42] → P (.inl (some (.int (nI j)))) (mH B C v' a' o, g)) : xM1 sc (d + 1) 166 [.ref 28, .int (nI c), .int (nI e)] (mH B C v a o, g) P := by
  have hz : zH (upd v 25 0) a [] := ⟨upd_s, by decide, fun i c h => by cases h⟩
  have hn1 : zN (upd v 25 0) a N := hn.same (vS.u _ _ _) (aS.refl _ []) (by decide) (by decide) (by decide) (by decide) (by decide)
  have f0 : vS v (upd v 25 0) [9, 12, 25] := (vS.u _ _ _).wide (by decide)
  have hE := toI e (by omega)
  have c0 : (0 : Int32).toInt = 0 := rfl
  unfold xM1
  refine xP_s rfl rfl rfl ?_
  refine xP_s rfl rfl rfl ?_
  refine xP_zp rfl hB rfl rfl ?_
  refine xP_s rfl rfl rfl ?_
  refine xP_s rfl rfl rfl ?_
  refine xP_cv rfl rfl rfl rfl rfl (mH_28 hB) (q_keep hB hz (by decide) hc (fun v1 a1 z1 z2 z3 => ?_))
  refine xP_s rfl rfl rfl ?_
  refine xP_s rfl rfl rfl ?_
  refine xP_if (fun hq => ?_) (fun hq => ?_)
  · have z := xc_t hq
    dsimp only at z
    omega
  · refine xP_s rfl rfl rfl ?_
    refine xP_s rfl rfl rfl ?_
    refine xP_cv rfl rfl rfl rfl rfl (mH_28 hB) (q_keep hB z1 (by simp) he (fun v2 a2 x1 x2 x3 => ?_))
    have hn2 := (hn1.same z2 z3 (by decide) (by decide) (by decide) (by decide) (by decide)).same x2 x3 (by decide) (by decide) (by decide) (by decide) (by decide)
    refine xP_s rfl rfl rfl ?_
    refine xP_cv rfl rfl rfl rfl rfl (mH_28 hB) (q_intern hB x1 hn2 hroom (fun v3 a3 j y1 y2 y3 y4 y5 => ?_))
    have kk := k v3 a3 j y1 y2 ((f0.trans ((z2.trans x2).wide (by decide))).trans (y4.wide (by decide))) (((z3.trans x3).wide (by decide)).trans (y5.wide (by decide)))
    repeat' first
      | refine xP_s rfl rfl rfl ?_
      | refine xP_ret rfl rfl rfl ?_
    exact kk
end NC
