-- the reference: again, alike
section WO2
variable {sc : xSc} {d g : Nat} {B C : List xC} {o : Nat → Int64} {P : xO → xH → Prop} {v : Nat → Int32} {a : Nat → Nat → Int32} {N : List (List Nat)} {Ts : List (List xIt)} {t : List Nat} {sl : List xSl} {x y : Int32}
set_option maxRecDepth 100000 in
theorem q_agnLoop {wr : List Nat} (hB : B.length = 28) (hw : wr.length + 3 ≤ 120) : ∀ (m k : Nat) (v : Nat → Int32) (a : Nat → Nat → Int32), zG v a wr → k + m = wr.length → (∀ j c : Nat, j < k → wr[j]? = some c → a 29 j = nI c) →
    (∀ a', aS a a' [29] → (∀ j c : Nat, wr[j]? = some c → a' 29 j = nI c) → xP sc d 195 46 [(0, .ref 28), (1, .int (nI wr.length))] [] (mH B C v a' o, g) P) →
    xP sc d 195 20 [(0, .ref 28), (1, .int (nI k))] [] (mH B C v a o, g) P
  | 0, k, v, a, hg, hm, he, kk => by
    have hK := toI k (by omega)
    have hL := toI wr.length (by omega)
    have ek : k = wr.length := by omega
    have k2 := kk a (aS.refl _ _) (fun j c hj => he j c (by have := (List.getElem?_eq_some_iff.mp hj).1; omega) hj)
    refine xP_s rfl rfl rfl ?_
    refine xP_s rfl rfl rfl ?_
    refine xP_zg rfl hB rfl hg.1 ?_
    refine xP_s rfl rfl rfl ?_
    refine xP_if (fun z => ?_) (fun z => ?_)
    · rw [ek]
      exact k2
    · have q := xc_f z
      dsimp only at q
      omega
  | m + 1, k, v, a, hg, hm, he, kk => by
    have hK := toI k (by omega)
    have hL := toI wr.length (by omega)
    obtain ⟨c, hc⟩ : ∃ c, wr[k]? = some c := ⟨wr[k]'(by omega), List.getElem?_eq_getElem (by omega)⟩
    have go := q_agnLoop hB hw m (k + 1) v (uA a 29 (upd (a 29) k (nI c))) (hg.same (vS.refl _ []) (aS.u _ _ _) (by decide) (by decide)) (by omega) (fun j c' hj hc' => by
      rw [uA_s]
      rcases Nat.lt_or_ge j k with y | y
      · rw [upd_n (by omega)]
        exact he j c' y hc'
      · have ej : j = k := by omega
        rw [ej, upd_s]
        rw [ej, hc] at hc'
        cases hc'
        rfl) (fun a' q1 q3 => kk a' ((aS.u _ _ _).trans q1) q3)
    rw [← nI_p1 k] at go
    refine xP_s rfl rfl rfl ?_
    refine xP_s rfl rfl rfl ?_
    refine xP_zg rfl hB rfl hg.1 ?_
    refine xP_s rfl rfl rfl ?_
    refine xP_if (fun z => ?_) (fun z => ?_)
    · have q := xc_t z
      dsimp only at q
      omega
    · refine xP_s rfl rfl rfl ?_
      refine xP_get rfl (mH_28 hB) rfl ?_
      refine xP_s rfl rfl rfl ?_
      refine xP_s rfl rfl rfl ?_
      refine xP_get rfl (mH_28 hB) rfl ?_
      refine xP_s rfl rfl rfl ?_
      refine xP_zl (n := 2600) rfl hB rfl rfl (by omega) (hg.2.2 k c hc).2 ?_
      refine xP_zs (n := 120) rfl hB rfl rfl (by omega) ?_
      refine xP_s rfl rfl rfl ?_
      refine xP_s rfl rfl rfl ?_
      exact go
set_option maxHeartbeats 4000000 in
set_option maxRecDepth 100000 in
theorem q_again {wr : List Nat} (hB : B.length = 28) (hg : zG v a wr)
    (k0 : 120 < wr.length + 3 → P (.inl (some (.int 0))) (mH B C (upd v 0 0) a o, g))
    (k1 : wr.length + 3 ≤ 120 → ∀ v' a', zT v' a' (wr ++ [32, 46, 32]) → v' 0 = 0 → vS v v' [0, 1] → aS a a' [29] → P (.inl (some (.int 1))) (mH B C v' a' o, g)) : xM1 sc d 195 [.ref 28] (mH B C v a o, g) P := by
  have hwl := hg.2.1
  have h3 := toI (wr.length + 3) (by omega)
  have c120 : (120 : Int32).toInt = 120 := rfl
  have hg1 : zG (upd v 0 0) a wr := hg.same (vS.u _ _ _) (aS.refl _ []) (by decide) (by decide)
  unfold xM1
  refine xP_s rfl rfl rfl ?_
  refine xP_s rfl rfl rfl ?_
  refine xP_zp rfl hB rfl rfl ?_
  refine xP_s rfl rfl rfl ?_
  refine xP_zg rfl hB rfl hg1.1 ?_
  refine xP_s rfl rfl rfl ?_
  refine xP_s rfl rfl rfl ?_
  rw [nI_p3]
  refine xP_s rfl rfl rfl ?_
  refine xP_s rfl rfl rfl ?_
  refine xP_if (fun y1 => ?_) (fun y1 => ?_)
  · have q := xc_t y1
    dsimp only at q
    have k1 := k1 (by omega)
    refine xP_s rfl rfl rfl ?_
    refine xP_s rfl rfl rfl ?_
    refine q_agnLoop hB (by omega) wr.length 0 _ a hg1 (by omega) (fun j c hj => by omega) (fun a1 u1 u2 => ?_)
    refine xP_s rfl rfl rfl ?_
    refine xP_get rfl (mH_28 hB) rfl ?_
    refine xP_s rfl rfl rfl ?_
    refine xP_zg rfl hB rfl hg1.1 ?_
    refine xP_s rfl rfl rfl ?_
    refine xP_zs (n := 120) rfl hB rfl rfl (by omega) ?_
    refine xP_s rfl rfl rfl ?_
    refine xP_get rfl (mH_28 hB) rfl ?_
    refine xP_s rfl rfl rfl ?_
    refine xP_zg rfl hB rfl hg1.1 ?_
    refine xP_s rfl rfl rfl ?_
    refine xP_s rfl rfl rfl ?_
    rw [nI_p1]
    refine xP_s rfl rfl rfl ?_
    refine xP_zs (n := 120) rfl hB rfl rfl (by omega) ?_
    refine xP_s rfl rfl rfl ?_
    refine xP_get rfl (mH_28 hB) rfl ?_
    refine xP_s rfl rfl rfl ?_
    refine xP_zg rfl hB rfl hg1.1 ?_
    refine xP_s rfl rfl rfl ?_
    refine xP_s rfl rfl rfl ?_
    rw [nI_p2]
    refine xP_s rfl rfl rfl ?_
    refine xP_zs (n := 120) rfl hB rfl rfl (by omega) ?_
    refine xP_s rfl rfl rfl ?_
    refine xP_s rfl rfl rfl ?_
    refine xP_zg rfl hB rfl hg1.1 ?_
    refine xP_s rfl rfl rfl ?_
    refine xP_s rfl rfl rfl ?_
    rw [nI_p3]
    refine xP_zp rfl hB rfl rfl ?_
    have e29 : uA (uA (uA a1 29 (upd (a1 29) wr.length 32)) 29 (upd (uA a1 29 (upd (a1 29) wr.length 32) 29) (wr.length + 1) 46)) 29 (upd (uA (uA a1 29 (upd (a1 29) wr.length 32)) 29 (upd (uA a1 29 (upd (a1 29) wr.length 32) 29) (wr.length + 1) 46) 29) (wr.length + 2) 32) 29 = upd (upd (upd (a1 29) wr.length 32) (wr.length + 1) 46) (wr.length + 2) 32 := by rw [uA_s, uA_s, uA_s]
    have fa : aS a1 (uA (uA (uA a1 29 (upd (a1 29) wr.length 32)) 29 (upd (uA a1 29 (upd (a1 29) wr.length 32) 29) (wr.length + 1) 46)) 29 (upd (uA (uA a1 29 (upd (a1 29) wr.length 32)) 29 (upd (uA a1 29 (upd (a1 29) wr.length 32) 29) (wr.length + 1) 46) 29) (wr.length + 2) 32)) [29] := ((aS.u _ _ _).trans (aS.u _ _ _)).trans (aS.u _ _ _)
    generalize uA (uA (uA a1 29 (upd (a1 29) wr.length 32)) 29 (upd (uA a1 29 (upd (a1 29) wr.length 32) 29) (wr.length + 1) 46)) 29 (upd (uA (uA a1 29 (upd (a1 29) wr.length 32)) 29 (upd (uA a1 29 (upd (a1 29) wr.length 32) 29) (wr.length + 1) 46) 29) (wr.length + 2) 32) = a2 at *
    have kk := k1 (upd (upd v 0 0) 1 (nI (wr.length + 3))) a2 ⟨by rw [upd_s, List.length_append]; rfl, by rw [List.length_append]; show wr.length + 3 ≤ 120; omega, fun i c hi => by
      rw [e29]
      rcases Nat.lt_or_ge i wr.length with z | z
      · rw [List.getElem?_append_left z] at hi
        rw [upd_n (by omega), upd_n (by omega), upd_n (by omega)]
        exact ⟨(hg.2.2 i c hi).1, u2 i c hi⟩
      · rw [List.getElem?_append_right z] at hi
        have hil : i - wr.length < 3 := by
          have := (List.getElem?_eq_some_iff.mp hi).1
          exact this
        have e3 : i - wr.length = 0 ∨ i - wr.length = 1 ∨ i - wr.length = 2 := by omega
        rcases e3 with e | e | e
        · rw [e] at hi
          cases hi
          rw [upd_n (by omega), upd_n (by omega), show i = wr.length by omega, upd_s]
          exact ⟨by decide, rfl⟩
        · rw [e] at hi
          cases hi
          rw [upd_n (by omega), show i = wr.length + 1 by omega, upd_s]
          exact ⟨by decide, rfl⟩
        · rw [e] at hi
          cases hi
          rw [show i = wr.length + 2 by omega, upd_s]
          exact ⟨by decide, rfl⟩⟩ (by rw [upd_n (by decide), upd_s]) (((vS.u v 0 0).wide (by decide)).up (by decide)) (u1.trans fa)
    repeat' first
      | refine xP_s rfl rfl rfl ?_
      | refine xP_ret rfl rfl rfl ?_
    exact kk
  · have q := xc_f y1
    dsimp only at q
    have k0 := k0 (by omega)
    repeat' first
      | refine xP_s rfl rfl rfl ?_
      | refine xP_ret rfl rfl rfl ?_
    exact k0
theorem zP_eq {p q : xIt} {x1 x2 x3 y1 y2 y3 : Int32} (hn : N.length ≤ 1500) (hnd : ∀ (i j : Nat) (u : List Nat), N[i]? = some u → N[j]? = some u → i = j) (hp : zP N x1 x2 x3 p) (hq : zP N y1 y2 y3 q) (ip : okIt p) (iq : okIt q) : (x1 = y1 ∧ x3 = y3 ∧ x2 = y2) ↔ p = q := by
  obtain ⟨p1, p2, p3, p4, p5, p6⟩ := hp
  obtain ⟨q1, q2, q3, q4, q5, q6⟩ := hq
  constructor
  · intro ⟨e1, e2, e3⟩
    rw [p2, q2] at e1
    have a1 : p.1 = q.1 := by
      have := congrArg Int32.toInt e1
      rw [toI _ (by omega), toI _ (by omega)] at this
      omega
    rw [p5, q5] at e2
    have a3 : p.2.2.2 = q.2.2.2 := by
      have := congrArg Int32.toInt e2
      rw [toI _ (by omega), toI _ (by omega)] at this
      omega
    obtain ⟨pk, pv, pn, pa⟩ := p
    obtain ⟨qk, qv, qn, qa⟩ := q
    dsimp only at *
    subst a1 a3
    rcases Nat.lt_or_ge pk 2 with z | z
    · have b1 := p3 z
      have b2 := q3 z
      have c1 := ip.2.2.1 z
      have c2 := iq.2.2.1 z
      dsimp only at c1 c2
      rw [e3, b2] at b1
      rw [c1, c2, b1]
    · obtain ⟨j1, g1, g2⟩ := p4 z
      obtain ⟨j2, f1, f2⟩ := q4 z
      have hj1 := (List.getElem?_eq_some_iff.mp g1).1
      have hj2 := (List.getElem?_eq_some_iff.mp f1).1
      rw [g2, f2] at e3
      have ej : j1 = j2 := by
        have := congrArg Int32.toInt e3
        rw [toI _ (by omega), toI _ (by omega)] at this
        omega
      rw [ej, f1] at g1
      have c1 := ip.2.2.2 z
      have c2 := iq.2.2.2 z
      dsimp only at c1 c2
      rw [c1, c2, Option.some.inj g1]
  · intro e
    subst e
    refine ⟨by rw [p2, q2], by rw [p5, q5], ?_⟩
    rcases Nat.lt_or_ge p.1 2 with z | z
    · exact Int32.toInt_inj.mp (by rw [p3 z, q3 z])
    · obtain ⟨j1, g1, g2⟩ := p4 z
      obtain ⟨j2, f1, f2⟩ := q4 z
      rw [g2, f2, hnd j1 j2 _ g1 f1]
end WO2
