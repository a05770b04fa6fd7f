-- the reference: look, count
theorem dT_fun {D D' : Nat} {L : List xIt} (h : dT D L) (h' : dT D' L) : D = D' := by
  have e1 := dpR_D h
  have e2 := dpR_D h'
  have h1 := dT_1 h
  have h2 := dT_1 h'
  omega
section WQ2
variable {sc : xSc} {d g : Nat} {B C : List xC} {o : Nat → Int64} {P : xO → xH → Prop} {v : Nat → Int32} {a : Nat → Nat → Int32} {N : List (List Nat)} {Ts : List (List xIt)} {Q : List xIt} {t : List Nat} {sl : List xSl} {x y : Int32}
set_option maxHeartbeats 4000000 in
set_option maxRecDepth 100000 in
theorem q_look (hB : B.length = 28) (hW : zW t sl v a o N Ts) (hQ6 : Ts.flatten.length ≤ 600) (hT : ∀ L ∈ Ts, ∃ D, dT D L)
    (kb : isT Ts x = false → P (.inl (some (.int 0))) (mH B C (upd v 0 1) a o, g))
    (kc : isT Ts x = true → ¬ (0 ≤ y.toInt ∧ y.toInt ≤ 3) → P (.inl (some (.int 0))) (mH B C (upd v 0 2) a o, g))
    (ko : ∀ L, 0 ≤ x.toInt → Ts[x.toInt.toNat]? = some L → (0 ≤ y.toInt ∧ y.toInt ≤ 3) → ∀ (z : Int32) v' a', (∀ D, dT D L → z.toInt = lkV (L, D) y.toInt) → v' 0 = 0 → vS v v' [0, 37] → aS a a' [49, 50] → P (.inl (some (.int z))) (mH B C v' a' o, g)) : xM1 sc (d + 2) 198 [.ref 28, .int x, .int y] (mH B C v a o, g) P := by
  have hm := hW.2.2.2.2
  have hq := hW.2.2.2.1
  have hn := hW.2.2.1
  have h40 := hm.2.1
  have c0 : (0 : Int32).toInt = 0 := rfl
  have c1 : (1 : Int32).toInt = 1 := rfl
  have c2 : (2 : Int32).toInt = 2 := rfl
  have c3 : (3 : Int32).toInt = 3 := rfl
  unfold xM1
  refine xP_s rfl rfl rfl ?_
  refine xP_s rfl rfl rfl ?_
  refine xP_s rfl rfl rfl ?_
  refine xP_cv rfl rfl rfl rfl rfl (mH_28 hB) (q_isTerm hB hm ?_)
  refine xP_s rfl rfl rfl ?_
  rw [xb_ne0]
  refine xP_if (fun y1 => ?_) (fun y1 => ?_)
  · have bad : ¬ (0 ≤ y.toInt ∧ y.toInt ≤ 3) → xP sc (d + 2) 198 22 [(0, .ref 28), (1, .int x), (2, .int y)] [.ref 28] (mH B C v a o, g) P := by
      intro h
      have kc := kc y1 h
      refine xP_s rfl rfl rfl ?_
      refine xP_s rfl rfl rfl ?_
      refine xP_zp rfl hB rfl rfl ?_
      refine xP_s rfl rfl rfl ?_
      refine xP_zg rfl hB rfl upd_s ?_
      repeat' first
        | refine xP_s rfl rfl rfl ?_
        | refine xP_ret rfl rfl rfl ?_
      exact kc
    refine xP_s rfl rfl rfl ?_
    refine xP_s rfl rfl rfl ?_
    refine xP_if (fun y2 => ?_) (fun y2 => ?_)
    · have q2 := xc_t y2
      dsimp only at q2
      exact bad (by omega)
    · have q2 := xc_f y2
      dsimp only at q2
      refine xP_s rfl rfl rfl ?_
      refine xP_s rfl rfl rfl ?_
      refine xP_s rfl rfl rfl ?_
      refine xP_if (fun y3 => ?_) (fun y3 => ?_)
      · have q3 := xc_t y3
        dsimp only at q3
        have tx' : 0 ≤ x.toInt ∧ x.toInt < Ts.length := of_decide_eq_true y1
        have hil : x.toInt.toNat < Ts.length := by omega
        have ex : x = nI x.toInt.toNat := i_nat rfl tx'.1 (by omega)
        obtain ⟨L, hL⟩ : ∃ L, Ts[x.toInt.toNat]? = some L := ⟨Ts[x.toInt.toNat]'hil, List.getElem?_eq_getElem hil⟩
        have kq := ko L tx'.1 hL (by omega)
        clear ko
        obtain ⟨D, hD⟩ := hT L (List.mem_of_getElem? hL)
        obtain ⟨dL, eL⟩ := tk_fl hL
        have gx := hm.2.2 x.toInt.toNat (by omega)
        have gx1 := hm.2.2 (x.toInt.toNat + 1) (by omega)
        rw [eL] at gx1
        have hfl := tk_le (Ts := Ts) x.toInt.toNat
        have hfl1 := tk_le (Ts := Ts) (x.toInt.toNat + 1)
        rw [eL] at hfl1
        have hqm := hq.2.1
        generalize x.toInt.toNat = i at *
        obtain ⟨p, L1, eP⟩ : ∃ p L1, L = p :: L1 := by
          obtain ⟨e, h⟩ := hD
          cases e with
          | zero => cases h
          | succ e =>
            obtain ⟨p, L1, m, h1, _, _⟩ := h
            exact ⟨p, L1, h1⟩
        have hhd : hdI L = p := by rw [eP]; rfl
        have gp : Ts.flatten[(Ts.take i).flatten.length]? = some p := by
          have := dr_at (k := 0) (p := p) dL (by rw [eP]; rfl)
          rwa [Nat.add_zero] at this
        have gpl := (List.getElem?_eq_some_iff.mp gp).1
        obtain ⟨z1, z2, z3, z4, z5, z6⟩ := hq.2.2 _ p gp
        have eTk : (Ts.flatten.take ((Ts.take i).flatten.length + L.length)).drop (Ts.take i).flatten.length = L := by
          rw [List.drop_take, dL, show (Ts.take i).flatten.length + L.length - (Ts.take i).flatten.length = L.length by omega, List.take_left]
        generalize (Ts.take i).flatten.length = s at *
        have v0 : upd v 0 0 0 = 0 := upd_s
        have fv : vS v (upd v 0 0) [0, 37] := (vS.u v 0 0).wide (by decide)
        have hAr := toI p.2.2.2 (by omega)
        have hKd := toI p.1 (by omega)
        rw [ex]
        refine xP_s rfl rfl rfl ?_
        refine xP_zp rfl hB rfl rfl ?_
        refine xP_s rfl rfl rfl ?_
        refine xP_zg rfl hB rfl upd_s ?_
        refine xP_s rfl rfl rfl ?_
        refine xP_s rfl rfl rfl ?_
        refine xP_get rfl (mH_28 hB) rfl ?_
        refine xP_s rfl rfl rfl ?_
        refine xP_zl (n := 41) rfl hB rfl rfl (by omega) gx ?_
        refine xP_s rfl rfl rfl ?_
        refine xP_s rfl rfl rfl ?_
        refine xP_s rfl rfl rfl ?_
        refine xP_if (fun y4 => ?_) (fun y4 => ?_)
        · have q4 := xc_t y4
          dsimp only at q4
          refine xP_s rfl rfl rfl ?_
          refine xP_s rfl rfl rfl ?_
          refine xP_s rfl rfl rfl ?_
          refine xP_if (fun y5 => ?_) (fun y5 => ?_)
          · have q5 := xc_t y5
            dsimp only at q5
            refine xP_s rfl rfl rfl ?_
            refine xP_s rfl rfl rfl ?_
            refine xP_s rfl rfl rfl ?_
            refine xP_if (fun y6 => ?_) (fun y6 => ?_)
            · -- value or length
              have q6 := xc_t y6
              dsimp only at q6
              have ey : y.toInt = 2 := by omega
              have elk : ∀ D, lkV (L, D) y.toInt = if p.1 < 2 then p.2.1 else (p.2.2.1.length : Int) := fun D => by
                unfold lkV
                rw [ey, if_neg (by decide), if_neg (by decide), if_pos rfl, hhd]
              refine xP_s rfl rfl rfl ?_
              refine xP_get rfl (mH_28 hB) rfl ?_
              refine xP_s rfl rfl rfl ?_
              refine xP_zl (n := 1000) rfl hB rfl rfl (by omega) z2 ?_
              refine xP_s rfl rfl rfl ?_
              refine xP_s rfl rfl rfl ?_
              refine xP_if (fun y7 => ?_) (fun y7 => ?_)
              · have q7 := xc_t y7
                dsimp only at q7
                obtain ⟨j, hj, hv⟩ := z4 (by omega)
                have hjl := (List.getElem?_eq_some_iff.mp hj).1
                have hN := hn.2.2.1
                obtain ⟨m1, m2, m3, m4⟩ := hn.2.2.2.2.2 j _ hj
                have kk := kq (nI p.2.2.1.length) (upd v 0 0) a (fun D _ => by rw [elk D, if_neg (by omega)]; exact toI _ (by omega)) v0 fv (aS.refl _ _)
                refine xP_s rfl rfl rfl ?_
                refine xP_get rfl (mH_28 hB) rfl ?_
                refine xP_s rfl rfl rfl ?_
                refine xP_get rfl (mH_28 hB) rfl ?_
                refine xP_s rfl rfl rfl ?_
                refine xP_zl (n := 1000) rfl hB rfl rfl (by omega) hv ?_
                refine xP_zl (n := 1500) rfl hB rfl rfl (by omega) m3 ?_
                repeat' first
                  | refine xP_s rfl rfl rfl ?_
                  | refine xP_ret rfl rfl rfl ?_
                exact kk
              · have q7 := xc_f y7
                dsimp only at q7
                have kk := kq (a 40 s) (upd v 0 0) a (fun D _ => by rw [elk D, if_pos (by omega)]; exact z3 (by omega)) v0 fv (aS.refl _ _)
                refine xP_s rfl rfl rfl ?_
                refine xP_get rfl (mH_28 hB) rfl ?_
                refine xP_s rfl rfl rfl ?_
                refine xP_zl (n := 1000) rfl hB rfl rfl (by omega) rfl ?_
                repeat' first
                  | refine xP_s rfl rfl rfl ?_
                  | refine xP_ret rfl rfl rfl ?_
                exact kk
            · -- depth
              have q6 := xc_f y6
              dsimp only at q6
              have ey : y.toInt = 3 := by omega
              have hq2 : zQ (upd v 0 0) a N Ts.flatten := hq.same (vS.u v 0 0) (aS.refl a []) (by decide) (by decide) (by decide) (by decide)
              refine xP_s rfl rfl rfl ?_
              refine xP_s rfl rfl rfl ?_
              refine xP_get rfl (mH_28 hB) rfl ?_
              refine xP_s rfl rfl rfl ?_
              refine xP_zl (n := 41) rfl hB rfl rfl (by omega) gx ?_
              refine xP_s rfl rfl rfl ?_
              refine xP_get rfl (mH_28 hB) rfl ?_
              refine xP_s rfl rfl rfl ?_
              refine xP_s rfl rfl rfl ?_
              refine xP_s rfl rfl rfl ?_
              rw [nI_p1]
              refine xP_zl (n := 41) rfl hB rfl rfl (by omega) gx1 ?_
              have hDl := dT_len hD
              refine xP_cv rfl rfl rfl rfl rfl (mH_28 hB) (q_depthIn (D := D) hB hq2 (by omega) hfl1 (by omega) (by rw [eTk]; exact hD) (fun v' a' u1 u2 => ?_))
              have kk := kq (nI D) v' a' (fun D' hD' => by
                unfold lkV
                rw [ey, if_neg (by decide), if_neg (by decide), if_neg (by decide), dT_fun hD' hD]
                exact toI D (by omega)) (by rw [u1 0 (by decide)]; exact v0) (fv.trans (u1.wide (by decide))) u2
              repeat' first
                | refine xP_s rfl rfl rfl ?_
                | refine xP_ret rfl rfl rfl ?_
              exact kk
          · -- arity
            have q5 := xc_f y5
            dsimp only at q5
            have ey : y.toInt = 1 := by omega
            have kk := kq (nI p.2.2.2) (upd v 0 0) a (fun D _ => by
              unfold lkV
              rw [ey, if_neg (by decide), if_pos rfl, hhd]
              exact hAr) v0 fv (aS.refl _ _)
            refine xP_s rfl rfl rfl ?_
            refine xP_get rfl (mH_28 hB) rfl ?_
            refine xP_s rfl rfl rfl ?_
            refine xP_zl (n := 1000) rfl hB rfl rfl (by omega) z5 ?_
            repeat' first
              | refine xP_s rfl rfl rfl ?_
              | refine xP_ret rfl rfl rfl ?_
            exact kk
        · -- kind
          have q4 := xc_f y4
          dsimp only at q4
          have ey : y.toInt = 0 := by omega
          have kk := kq (nI p.1) (upd v 0 0) a (fun D _ => by
            unfold lkV
            rw [ey, if_pos rfl, hhd]
            exact hKd) v0 fv (aS.refl _ _)
          refine xP_s rfl rfl rfl ?_
          refine xP_get rfl (mH_28 hB) rfl ?_
          refine xP_s rfl rfl rfl ?_
          refine xP_zl (n := 1000) rfl hB rfl rfl (by omega) z2 ?_
          repeat' first
            | refine xP_s rfl rfl rfl ?_
            | refine xP_ret rfl rfl rfl ?_
          exact kk
      · have q3 := xc_f y3
        dsimp only at q3
        exact bad (by omega)
  · have kb := kb y1
    refine xP_s rfl rfl rfl ?_
    refine xP_s rfl rfl rfl ?_
    refine xP_zp rfl hB rfl rfl ?_
    refine xP_s rfl rfl rfl ?_
    refine xP_zg rfl hB rfl upd_s ?_
    repeat' first
      | refine xP_s rfl rfl rfl ?_
      | refine xP_ret rfl rfl rfl ?_
    exact kb
end WQ2
