-- the reference: read, whole of it
def vRR : List Nat := [0, 1, 14, 37] ++ vR
def aRR : List Nat := [29, 38, 49, 50] ++ aR
section NQ
variable {sc : xSc} {d g : Nat} {B C : List xC} {o : Nat → Int64} {P : xO → xH → Prop} {v v0 : Nat → Int32} {a a0 : Nat → Nat → Int32} {N N0 : List (List Nat)} {Q : List xIt} {Ts : List (List xIt)} {t : List Nat} {sl : List xSl}
/-- all is as it was, but what the codes say -/
theorem zW_back {v2 : Nat → Int32} (hW : zW t sl v0 a0 o N0 Ts) (ho : zO v a o sl) (hn : zN v a N) (hq : zQ v a N Q) (hm : zM v a Ts) (hN : ∃ M, N = N0 ++ M) (hQ : ∃ R, Q = Ts.flatten ++ R) (hv : vS v v2 [0, 1, 9, 12, 16, 28]) (h9 : v2 9 = nI N0.length) (h12 : v2 12 = nI (ltN N0)) (h16 : v2 16 = nI Ts.flatten.length) {t' : List Nat} (ht : zT v2 a t') : zW t' sl v2 a o N0 Ts :=
  ⟨ht, ho.same hv (aS.refl a []) (by decide) (by decide) (by decide) (by decide) (by decide), hn.back hN h9 h12, hW.2.2.2.1.back hq hn hN hQ h16, hm.same hv (aS.refl a []) (by decide) (by decide)⟩
set_option maxHeartbeats 4000000 in
set_option maxRecDepth 100000 in
theorem q_rBad (hB : B.length = 28) (hW : zW t sl v0 a0 o N0 Ts) (ho : zO v a o sl) (hn : zN v a N) (hq : zQ v a N Q) (hm : zM v a Ts) (hN : ∃ M, N = N0 ++ M) (hQ : ∃ R, Q = Ts.flatten ++ R) (h28 : v 28 = 1) (fv : vS v0 v vRR) (fa : aS a0 a aRR)
    (kb : ∀ v' a', zW [] sl v' a' o N0 Ts → v' 0 = 1 → vS v0 v' vRR → aS a0 a' aRR → P (.inl (some (.int 0))) (mH B C v' a' o, g)) :
    xP sc (d + 1) 177 152 [(0, .ref 28), (1, .int (nI Ts.flatten.length)), (2, .int (nI N0.length)), (3, .int (nI (ltN N0)))] [] (mH B C v a o, g) P := by
  have fin : ∀ x4 : Int32, xP sc (d + 1) 177 178 [(0, .ref 28), (1, .int (nI Ts.flatten.length)), (2, .int (nI N0.length)), (3, .int (nI (ltN N0))), (4, .int x4)] [] (mH B C v a o, g) P := by
    intro x4
    refine xP_s rfl rfl rfl ?_
    refine xP_zg rfl hB rfl h28 ?_
    refine xP_s rfl rfl rfl ?_
    refine xP_s rfl rfl rfl ?_
    refine xP_s rfl rfl rfl ?_
    refine xP_zp rfl hB rfl rfl ?_
    refine xP_s rfl rfl rfl ?_
    refine xP_s rfl rfl rfl ?_
    refine xP_zp rfl hB rfl rfl ?_
    refine xP_s rfl rfl rfl ?_
    refine xP_s rfl rfl rfl ?_
    refine xP_zp rfl hB rfl rfl ?_
    have g28 : upd (upd (upd v 16 (nI Ts.flatten.length)) 9 (nI N0.length)) 12 (nI (ltN N0)) 28 = 1 := by rw [upd_n (by decide), upd_n (by decide), upd_n (by decide)]; exact h28
    refine xP_s rfl rfl rfl ?_
    refine xP_zg rfl hB rfl g28 ?_
    refine xP_s rfl rfl rfl ?_
    refine xP_s rfl rfl rfl ?_
    refine xP_s rfl rfl rfl ?_
    refine xP_zp rfl hB rfl rfl ?_
    refine xP_s rfl rfl rfl ?_
    refine xP_s rfl rfl rfl ?_
    refine xP_zg rfl hB rfl ((upd_n (by decide)).trans g28) ?_
    refine xP_s rfl rfl rfl ?_
    refine xP_s rfl rfl rfl ?_
    refine xP_s rfl rfl rfl ?_
    have hv5 : vS v (upd (upd (upd (upd (upd v 16 (nI Ts.flatten.length)) 9 (nI N0.length)) 12 (nI (ltN N0))) 1 0) 0 1) [0, 1, 9, 12, 16, 28] := (((((vS.u v 16 _).wide (by decide)).up (by decide)).up (by decide)).up (by decide)).up (by decide)
    have kk := kb _ a (zW_back hW ho hn hq hm hN hQ hv5 (by rw [upd_n (by decide), upd_n (by decide), upd_n (by decide), upd_s]) (by rw [upd_n (by decide), upd_n (by decide), upd_s]) (by rw [upd_n (by decide), upd_n (by decide), upd_n (by decide), upd_n (by decide), upd_s]) (t' := []) ⟨by rw [upd_n (by decide), upd_s]; rfl, by decide, fun i c h => by cases h⟩) upd_s (fv.trans (hv5.wide (by decide))) fa
    refine xP_cv rfl rfl rfl rfl rfl (mH_28 hB) (q_refuse hB ?_)
    repeat' first
      | refine xP_s rfl rfl rfl ?_
      | refine xP_ret rfl rfl rfl ?_
    exact kk
  refine xP_s rfl rfl rfl ?_
  refine xP_zg rfl hB rfl hm.1 ?_
  refine xP_s rfl rfl rfl ?_
  refine xP_s rfl rfl rfl ?_
  refine xP_if (fun z => ?_) (fun z => ?_)
  · refine xP_s rfl rfl rfl ?_
    refine xP_s rfl rfl rfl ?_
    exact fin _
  · refine xP_s rfl rfl rfl ?_
    refine xP_zg rfl hB rfl hq.1 ?_
    refine xP_s rfl rfl rfl ?_
    refine xP_s rfl rfl rfl ?_
    refine xP_if (fun z => ?_) (fun z => ?_)
    · refine xP_s rfl rfl rfl ?_
      refine xP_s rfl rfl rfl ?_
      exact fin _
    · refine xP_s rfl rfl rfl ?_
      refine xP_s rfl rfl rfl ?_
      refine xP_s rfl rfl rfl ?_
      exact fin _
-- from 122 on, once it has failed
set_option maxRecDepth 100000 in
theorem q_rBad2 (hB : B.length = 28) (hW : zW t sl v0 a0 o N0 Ts) (ho : zO v a o sl) (hn : zN v a N) (hq : zQ v a N Q) (hm : zM v a Ts) (hN : ∃ M, N = N0 ++ M) (hQ : ∃ R, Q = Ts.flatten ++ R) (h28 : v 28 = 1) (fv : vS v0 v vRR) (fa : aS a0 a aRR)
    (kb : ∀ v' a', zW [] sl v' a' o N0 Ts → v' 0 = 1 → vS v0 v' vRR → aS a0 a' aRR → P (.inl (some (.int 0))) (mH B C v' a' o, g)) :
    xP sc (d + 1) 177 122 [(0, .ref 28), (1, .int (nI Ts.flatten.length)), (2, .int (nI N0.length)), (3, .int (nI (ltN N0)))] [] (mH B C v a o, g) P := by
  have hv : vS v (upd v 28 1) [28] := vS.u _ _ _
  refine xP_s rfl rfl rfl ?_
  refine xP_s rfl rfl rfl ?_
  refine xP_zg rfl hB rfl h28 ?_
  refine xP_s rfl rfl rfl ?_
  refine xP_s rfl rfl rfl ?_
  refine xP_s rfl rfl rfl ?_
  refine xP_zp rfl hB rfl rfl ?_
  exact q_rBad hB hW (ho.same hv (aS.refl a []) (by decide) (by decide) (by decide) (by decide) (by decide)) (hn.same hv (aS.refl a []) (by decide) (by decide) (by decide) (by decide) (by decide)) (hq.same hv (aS.refl a []) (by decide) (by decide) (by decide) (by decide)) (hm.same hv (aS.refl a []) (by decide) (by decide)) hN hQ upd_s (fv.up (by decide)) fa kb
-- a term has been read: room for it or not
set_option maxHeartbeats 4000000 in
set_option maxRecDepth 100000 in
theorem q_rGood {s1 : List Nat} {L : List xIt} {e : Nat} (hB : B.length = 28) (hW : zW t sl v0 a0 o N0 Ts) (ht : zT v a t) (ho : zO v a o sl) (hn : zN v a N) (hq : zQ v a N (Ts.flatten ++ L)) (hm : zM v a Ts) (hN : ∃ M, N = N0 ++ M) (h28 : v 28 = 0) (h0 : v 0 = 0) (h22 : v 22 = nI e) (hd : t.drop e = s1) (he1 : 1 ≤ e) (he : e ≤ t.length) (fv : vS v0 v vRR) (fa : aS a0 a aRR)
    (kc : (40 ≤ Ts.length ∨ 600 < Ts.flatten.length + L.length) → ∀ v' a', zW t sl v' a' o N0 Ts → v' 0 = 2 → vS v0 v' vRR → aS a0 a' aRR → P (.inl (some (.int 0))) (mH B C v' a' o, g))
    (ko : Ts.length < 40 → Ts.flatten.length + L.length ≤ 600 → ∀ v' a', zW s1 sl v' a' o N (Ts ++ [L]) → v' 0 = 0 → vS v0 v' vRR → aS a0 a' aRR → P (.inl (some (.int (nI Ts.length)))) (mH B C v' a' o, g)) :
    xP sc (d + 1) 177 152 [(0, .ref 28), (1, .int (nI Ts.flatten.length)), (2, .int (nI N0.length)), (3, .int (nI (ltN N0)))] [] (mH B C v a o, g) P := by
  have h120 := ht.2.1
  have hql := hq.2.1
  have hQl : (Ts.flatten ++ L).length = Ts.flatten.length + L.length := List.length_append
  have hTl := toI Ts.length (by have := hm.2.1; omega)
  have hPl := toI (Ts.flatten ++ L).length (by omega)
  have c40 : (40 : Int32).toInt = 40 := rfl
  have c600 : (600 : Int32).toInt = 600 := rfl
  -- no room
  have no : (40 ≤ Ts.length ∨ 600 < Ts.flatten.length + L.length) → xP sc (d + 1) 177 175 [(0, .ref 28), (1, .int (nI Ts.flatten.length)), (2, .int (nI N0.length)), (3, .int (nI (ltN N0)))] [] (mH B C v a o, g) P := by
    intro hx
    have kc := kc hx
    refine xP_s rfl rfl rfl ?_
    refine xP_s rfl rfl rfl ?_
    refine xP_s rfl rfl rfl ?_
    refine xP_zg rfl hB rfl h28 ?_
    refine xP_s rfl rfl rfl ?_
    refine xP_s rfl rfl rfl ?_
    refine xP_s rfl rfl rfl ?_
    refine xP_s rfl rfl rfl ?_
    refine xP_s rfl rfl rfl ?_
    refine xP_zp rfl hB rfl rfl ?_
    refine xP_s rfl rfl rfl ?_
    refine xP_s rfl rfl rfl ?_
    refine xP_zp rfl hB rfl rfl ?_
    refine xP_s rfl rfl rfl ?_
    refine xP_s rfl rfl rfl ?_
    refine xP_zp rfl hB rfl rfl ?_
    have g28 : upd (upd (upd v 16 (nI Ts.flatten.length)) 9 (nI N0.length)) 12 (nI (ltN N0)) 28 = 0 := by rw [upd_n (by decide), upd_n (by decide), upd_n (by decide)]; exact h28
    refine xP_s rfl rfl rfl ?_
    refine xP_zg rfl hB rfl g28 ?_
    refine xP_s rfl rfl rfl ?_
    refine xP_s rfl rfl rfl ?_
    refine xP_s rfl rfl rfl ?_
    refine xP_zg rfl hB rfl g28 ?_
    refine xP_s rfl rfl rfl ?_
    refine xP_s rfl rfl rfl ?_
    have hv5 : vS v (upd (upd (upd (upd v 16 (nI Ts.flatten.length)) 9 (nI N0.length)) 12 (nI (ltN N0))) 0 2) [0, 1, 9, 12, 16, 28] := ((((vS.u v 16 _).wide (by decide)).up (by decide)).up (by decide)).up (by decide)
    have hv6 : vS v (upd (upd (upd (upd v 16 (nI Ts.flatten.length)) 9 (nI N0.length)) 12 (nI (ltN N0))) 0 2) [0, 9, 12, 16] := ((((vS.u v 16 _).wide (by decide)).up (by decide)).up (by decide)).up (by decide)
    have kk := kc _ a (zW_back hW ho hn hq hm hN ⟨L, rfl⟩ hv5 (by rw [upd_n (by decide), upd_n (by decide), upd_s]) (by rw [upd_n (by decide), upd_s]) (by rw [upd_n (by decide), upd_n (by decide), upd_n (by decide), upd_s]) (ht.same hv6 (aS.refl a []) (by decide) (by decide))) upd_s (fv.trans (hv5.wide (by decide))) fa
    refine xP_cv rfl rfl rfl rfl rfl (mH_28 hB) (q_refuse hB ?_)
    repeat' first
      | refine xP_s rfl rfl rfl ?_
      | refine xP_ret rfl rfl rfl ?_
    exact kk
  refine xP_s rfl rfl rfl ?_
  refine xP_zg rfl hB rfl hm.1 ?_
  refine xP_s rfl rfl rfl ?_
  refine xP_s rfl rfl rfl ?_
  refine xP_if (fun z => ?_) (fun z => ?_)
  · have q := xc_t z
    dsimp only at q
    exact no (Or.inl (by omega))
  · have q := xc_f z
    dsimp only at q
    refine xP_s rfl rfl rfl ?_
    refine xP_zg rfl hB rfl hq.1 ?_
    refine xP_s rfl rfl rfl ?_
    refine xP_s rfl rfl rfl ?_
    refine xP_if (fun z => ?_) (fun z => ?_)
    · have q2 := xc_t z
      dsimp only at q2
      exact no (Or.inr (by omega))
    · have q2 := xc_f z
      dsimp only at q2
      have ko := ko (by omega) (by omega)
      refine xP_s rfl rfl rfl ?_
      refine xP_s rfl rfl rfl ?_
      refine xP_s rfl rfl rfl ?_
      refine xP_s rfl rfl rfl ?_
      refine xP_zg rfl hB rfl h28 ?_
      refine xP_s rfl rfl rfl ?_
      refine xP_s rfl rfl rfl ?_
      refine xP_s rfl rfl rfl ?_
      refine xP_s rfl rfl rfl ?_
      refine xP_zg rfl hB rfl h22 ?_
      refine xP_s rfl rfl rfl ?_
      refine q_shift hB h22 ht.1 h120 he1 (t.length - e) e a (by omega) (Nat.le_refl _) (aS.refl _ _) (fun i hi => by omega) (fun i hi => rfl) (fun a2 y1 y2 => ?_)
      have es : nI t.length - nI e = nI (t.length - e) := nI_subN he
      refine xP_s rfl rfl rfl ?_
      refine xP_s rfl rfl rfl ?_
      refine xP_zg rfl hB rfl ht.1 ?_
      refine xP_s rfl rfl rfl ?_
      refine xP_zg rfl hB rfl h22 ?_
      refine xP_s rfl rfl rfl ?_
      rw [es]
      refine xP_zp rfl hB rfl rfl ?_
      refine xP_s rfl rfl rfl ?_
      refine xP_get rfl (mH_28 hB) rfl ?_
      refine xP_s rfl rfl rfl ?_
      refine xP_zg rfl hB rfl ((upd_n (by decide)).trans hm.1) ?_
      refine xP_s rfl rfl rfl ?_
      refine xP_zs (n := 41) rfl hB rfl rfl (by omega) ?_
      refine xP_s rfl rfl rfl ?_
      refine xP_s rfl rfl rfl ?_
      refine xP_zg rfl hB rfl ((upd_n (by decide)).trans hm.1) ?_
      refine xP_s rfl rfl rfl ?_
      refine xP_s rfl rfl rfl ?_
      rw [nI_p1]
      refine xP_zp rfl hB rfl rfl ?_
      refine xP_s rfl rfl rfl ?_
      refine xP_get rfl (mH_28 hB) rfl ?_
      refine xP_s rfl rfl rfl ?_
      refine xP_zg rfl hB rfl upd_s ?_
      refine xP_s rfl rfl rfl ?_
      refine xP_zg rfl hB rfl ((upd_n (by decide)).trans ((upd_n (by decide)).trans hq.1)) ?_
      refine xP_zs (n := 41) rfl hB rfl rfl (by omega) ?_
      refine xP_s rfl rfl rfl ?_
      refine xP_zg rfl hB rfl upd_s ?_
      have em : nI (Ts.length + 1) - 1 = nI Ts.length := nIm1 (n := Ts.length + 1) (by omega)
      have fvv : vS v (upd (upd v 1 (nI (t.length - e))) 14 (nI (Ts.length + 1))) [1, 14] := ((vS.u v 1 _).wide (by decide)).up (by decide)
      have gw : uA (uA a2 38 (upd (a2 38) Ts.length (nI Ts.flatten.length))) 38 (upd (uA a2 38 (upd (a2 38) Ts.length (nI Ts.flatten.length)) 38) (Ts.length + 1) (nI (Ts.flatten ++ L).length)) 38 = upd (upd (a2 38) Ts.length (nI Ts.flatten.length)) (Ts.length + 1) (nI (Ts.flatten ++ L).length) := by rw [uA_s, uA_s]
      have fa2 : aS a2 (uA (uA a2 38 (upd (a2 38) Ts.length (nI Ts.flatten.length))) 38 (upd (uA a2 38 (upd (a2 38) Ts.length (nI Ts.flatten.length)) 38) (Ts.length + 1) (nI (Ts.flatten ++ L).length))) [38] := (aS.u _ _ _).trans (aS.u _ _ _)
      generalize uA (uA a2 38 (upd (a2 38) Ts.length (nI Ts.flatten.length))) 38 (upd (uA a2 38 (upd (a2 38) Ts.length (nI Ts.flatten.length)) 38) (Ts.length + 1) (nI (Ts.flatten ++ L).length)) = a3 at *
      have faa : aS a a3 [29, 38] := (y1.wide (by decide)).trans (fa2.wide (by decide))
      have i1 : upd (upd v 1 (nI (t.length - e))) 14 (nI (Ts.length + 1)) 1 = nI (t.length - e) := (upd_n (by decide)).trans upd_s
      have i14 : upd (upd v 1 (nI (t.length - e))) 14 (nI (Ts.length + 1)) 14 = nI (Ts.length + 1) := upd_s
      have i0 : upd (upd v 1 (nI (t.length - e))) 14 (nI (Ts.length + 1)) 0 = 0 := (upd_n (by decide)).trans ((upd_n (by decide)).trans h0)
      generalize upd (upd v 1 (nI (t.length - e))) 14 (nI (Ts.length + 1)) = v3 at *
      have es1 : s1.length = t.length - e := by rw [← hd, List.length_drop]
      have hzT : zT v3 a3 s1 := ⟨by rw [i1, es1], by omega, fun i c hi => by
        have hil := (List.getElem?_eq_some_iff.mp hi).1
        have hti : t[e + i]? = some c := by
          rw [← hd, List.getElem?_drop] at hi
          exact hi
        rw [fa2 29 (by decide), y2 i (by omega)]
        exact ht.2.2 (e + i) c hti⟩
      have hfl : (Ts ++ [L]).flatten = Ts.flatten ++ L := by simp
      have hzM : zM v3 a3 (Ts ++ [L]) := ⟨by rw [i14, List.length_append]; rfl, by rw [List.length_append, List.length_singleton]; omega, fun i hi => by
        rw [List.length_append, List.length_singleton] at hi
        rw [gw]
        by_cases h1 : i = Ts.length + 1
        · rw [h1, upd_s, List.take_of_length_le (by rw [List.length_append, List.length_singleton]; omega), hfl]
        · rw [upd_n h1, List.take_append_of_le_length (by omega)]
          by_cases h2 : i = Ts.length
          · rw [h2, upd_s, List.take_length]
          · rw [upd_n h2, y1 38 (by decide)]
            exact hm.2.2 i (by omega)⟩
      have kk := ko v3 a3 ⟨hzT, ho.same fvv faa (by decide) (by decide) (by decide) (by decide) (by decide), hn.same fvv faa (by decide) (by decide) (by decide) (by decide) (by decide), by rw [hfl]; exact hq.same fvv faa (by decide) (by decide) (by decide) (by decide), hzM⟩ i0 (fv.trans (fvv.wide (by decide))) (fa.trans (faa.wide (by decide)))
      rw [← em] at kk
      repeat' first
        | refine xP_s rfl rfl rfl ?_
        | refine xP_ret rfl rfl rfl ?_
      exact kk
end NQ
