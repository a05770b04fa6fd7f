-- the reference: begin
section NI
variable {sc : xSc} {d g : Nat} {A B C : List xC} {o : Nat → Int64} {P : xO → xH → Prop} {N vs N0 : List (List Nat)} {t s : List Nat} {Q Q0 : List xIt} {F : List xFr} {f : xFr} {sl : List xSl} {v : Nat → Int32} {a : Nat → Nat → Int32}
theorem isMk_5 {c : Nat} : isMk s c = true ↔ (nx s).1 = 5 ∧ (nx s).2.1 = c := by
  unfold isMk
  simp
theorem nx_pv (h : (nx s).1 = 5) : (nx s).2.1 = 40 ∨ (nx s).2.1 = 41 ∨ (nx s).2.1 = 44 ∨ (nx s).2.1 = 91 ∨ (nx s).2.1 = 93 ∨ (nx s).2.1 = 123 ∨ (nx s).2.1 = 124 ∨ (nx s).2.1 = 125 := pn_8 (nx_pn h)
theorem isMk_n {c : Nat} (h : ¬ ((nx s).1 = 5 ∧ (nx s).2.1 = c)) : ¬ isMk s c = true := fun q => h (isMk_5.mp q)
set_option maxHeartbeats 8000000 in
set_option maxRecDepth 100000 in
theorem q_begin (hB : B.length = 28) (hS : zS t sl v a o s vs N Q (F ++ [f])) (hgd : ∀ c ∈ t, 32 ≤ c ∧ c ≤ 126)
    (hrm : rmS s vs N Q) (hN : ∃ M, N = N0 ++ M) (hQ : ∃ R, Q = Q0 ++ R)
    (k1 : ∀ v' a' s' vs' N' Q' F', bgF sl s vs N Q F f = some (s', vs', N', Q', F') → zS t sl v' a' o s' vs' N' Q' F' → vS v v' vR → aS a a' aR → P (.inl none) (mH B C v' a' o, g))
    (k0 : bgF sl s vs N Q F f = none → ∀ v' a', zBd t sl v' a' o N0 Q0 → vS v v' vR → aS a a' aR → P (.inl none) (mH B C v' a' o, g)) : xM1 sc (d + 5) 173 [.ref 28] (mH B C v a o, g) P := by
  have hrm' := hrm
  obtain ⟨rm1, rm2, rm3, rm4⟩ := hrm
  obtain ⟨hu, ⟨p, e27, hd, hp⟩, h28⟩ := hS
  have ht := hu.1
  have h120 := ht.2.1
  have hfl := hu.2.2.2.2.2.top
  have em : nI (F.length + 1) - 1 = nI F.length := nIm1 (n := F.length + 1) (by omega)
  have gds : ∀ c ∈ s, 32 ≤ c ∧ c ≤ 126 := fun c hc => hgd c (List.mem_of_mem_drop (hd ▸ hc))
  unfold xM1
  refine xP_s rfl rfl rfl ?_
  refine xP_zg rfl hB rfl hfl.1 ?_
  refine xP_s rfl rfl rfl ?_
  refine xP_s rfl rfl rfl ?_
  rw [em]
  refine xP_s rfl rfl rfl ?_
  refine xP_s rfl rfl rfl ?_
  refine xP_s rfl rfl rfl ?_
  refine xP_zg rfl hB rfl e27 ?_
  refine xP_cv rfl rfl rfl rfl rfl (mH_28 hB) (q_scan hB ht hd hp (fun v1 a1 y1 y2 y3 y4 => ?_))
  obtain ⟨e, w1, w2, w3⟩ := y1.2.2.1
  have hk7 := y1.1
  refine xP_s rfl rfl rfl ?_
  refine xP_s rfl rfl rfl ?_
  refine xP_zg rfl hB rfl w2 ?_
  refine xP_zp rfl hB rfl rfl ?_
  have hu1 : zU t sl (upd v1 27 (nI e)) a1 o vs N Q (F ++ [f]) := hu.sc ((y3.wide (by decide)).up (by decide)) y4
  have fv1 : vS v (upd v1 27 (nI e)) vR := (y3.wide (by decide)).up (by decide)
  have fa1 : aS a a1 aR := y4.wide (by decide)
  have g28 : upd v1 27 (nI e) 28 = 0 := by rw [upd_n (by decide), y3 28 (by decide)]; exact h28
  have g27 : upd v1 27 (nI e) 27 = nI e := upd_s
  have g22 : upd v1 27 (nI e) 22 = nI e := (upd_n (by decide)).trans w2
  have g20 : upd v1 27 (nI e) 20 = nI (tkN (nx s).1) := (upd_n (by decide)).trans y1.2.1
  have g23 : ((nx s).1 = 3 ∨ (nx s).1 = 5) → upd v1 27 (nI e) 23 = nI (nx s).2.1 := fun h => (upd_n (by decide)).trans (y1.2.2.2.2 h)
  have g24 : (nx s).1 = 1 → upd v1 27 (nI e) 24 = xb (qd s) := fun h => (upd_n (by decide)).trans (y2 h)
  have gH : ((nx s).1 = 1 ∨ (nx s).1 = 2 ∨ (nx s).1 = 4) → zH (upd v1 27 (nI e)) a1 (nx s).2.2.1 := fun h => (y1.2.2.2.1 h).same (vS.u _ _ _) (aS.refl _ []) (by decide) (by decide)
  have gK : zK t (upd v1 27 (nI e)) a1 (nx s) := ⟨hk7, g20, ⟨e, w1, g22, w3⟩, gH, g23⟩
  generalize upd v1 27 (nI e) = v2 at *
  have hsf : (nx s).1 < 6 → t.drop e = (nx s).2.2.2 ∧ e ≤ t.length ∧ (nx s).2.2.2.length + 1 ≤ s.length := fun h => by
    obtain ⟨tw, hts, htw⟩ := nx_sfx (s := s) h
    obtain ⟨q1, q2⟩ := drop_sfx hd hp hts
    rw [w3 h]
    refine ⟨q1, by omega, ?_⟩
    have := congrArg List.length hts
    rw [List.length_append] at this
    omega
  -- the frame has its term
  have fin : ∀ (v3 : Nat → Int32) (a3 : Nat → Nat → Int32) (vs' N' : List (List Nat)) (Q' : List xIt), (nx s).1 < 6 → bgF sl s vs N Q F f = some ((nx s).2.2.2, vs', N', Q', F ++ [sL f 0]) → zU t sl v3 a3 o vs' N' Q' (F ++ [f]) → v3 27 = nI e → v3 28 = 0 → vS v v3 vR → aS a a3 aR → xP sc (d + 5) 173 211 [(0, .ref 28), (1, .int (nI F.length))] [] (mH B C v3 a3 o, g) P := by
    intro v3 a3 vs' N' Q' h6 eF hu3 i27 i28 fv fa
    obtain ⟨q1, q2, _⟩ := hsf h6
    have kk := k1 v3 (uA a3 45 (upd (a3 45) F.length 0)) _ _ _ _ _ eF ⟨hu3.lf, ⟨e, i27, q1, q2⟩, i28⟩ fv (fa.trans ((aS.u _ _ _).wide (by decide)))
    refine xP_s rfl rfl rfl ?_
    refine xP_get rfl (mH_28 hB) rfl ?_
    refine xP_s rfl rfl rfl ?_
    refine xP_s rfl rfl rfl ?_
    refine xP_zs (n := 32) rfl hB rfl rfl (by omega) ?_
    repeat' first
      | refine xP_s rfl rfl rfl ?_
      | refine xP_ret rfl rfl rfl ?_
    exact kk
  have bad : bgF sl s vs N Q F f = none → xP sc (d + 5) 173 206 [(0, .ref 28), (1, .int (nI F.length))] [] (mH B C v2 a1 o, g) P := by
    intro eF
    refine xP_s rfl rfl rfl ?_
    refine xP_s rfl rfl rfl ?_
    refine xP_zp rfl hB rfl rfl ?_
    have hu3 : zU t sl (upd v2 28 1) a1 o vs N Q (F ++ [f]) := hu1.sc ((vS.u v2 28 1).wide (by decide)) (aS.refl _ _)
    have kk := k0 eF (upd v2 28 1) (uA a1 45 (upd (a1 45) F.length 0)) ((hu3.lf (x := 0)).bad upd_s ⟨e, (upd_n (by decide)).trans g27, by omega⟩ hN hQ) (fv1.up (by decide)) (fa1.trans ((aS.u _ _ _).wide (by decide)))
    refine xP_s rfl rfl rfl ?_
    refine xP_get rfl (mH_28 hB) rfl ?_
    refine xP_s rfl rfl rfl ?_
    refine xP_s rfl rfl rfl ?_
    refine xP_zs (n := 32) rfl hB rfl rfl (by omega) ?_
    repeat' first
      | refine xP_s rfl rfl rfl ?_
      | refine xP_ret rfl rfl rfl ?_
    exact kk
  have e8 : (nx s).1 = 0 ∨ (nx s).1 = 1 ∨ (nx s).1 = 2 ∨ (nx s).1 = 3 ∨ (nx s).1 = 4 ∨ (nx s).1 = 5 ∨ (nx s).1 = 6 ∨ (nx s).1 = 7 := by omega
  rcases e8 with hk | hk | hk | hk | hk | hk | hk | hk
  · -- an end
    rw [hk] at g20
    have z0 : v2 20 = 0 := g20
    have bd := bad (by
      unfold bgF
      rw [if_neg (by omega), if_neg (by omega), if_neg (by omega), if_neg (by omega), if_neg (isMk_n (by omega)), if_neg (isMk_n (by omega)), if_neg (isMk_n (by omega))])
    repeat' first
      | exact bd
      | refine xP_s rfl rfl rfl ?_
      | refine xP_zg rfl hB rfl z0 ?_
  · -- a name
    rw [hk] at g20
    have z0 : v2 20 = 4 := g20
    have eF : bgF sl s vs N Q F f = nbF sl s vs N Q F f := by
      unfold bgF
      rw [if_neg (by omega), if_neg (by omega), if_neg (by omega), if_pos hk]
    rw [eF] at k1 k0
    refine xP_s rfl rfl rfl ?_
    refine xP_zg rfl hB rfl z0 ?_
    refine xP_s rfl rfl rfl ?_
    refine xP_s rfl rfl rfl ?_
    refine xP_s rfl rfl rfl ?_
    refine xP_zg rfl hB rfl z0 ?_
    refine xP_s rfl rfl rfl ?_
    refine xP_s rfl rfl rfl ?_
    refine xP_s rfl rfl rfl ?_
    refine xP_zg rfl hB rfl z0 ?_
    refine xP_s rfl rfl rfl ?_
    refine xP_s rfl rfl rfl ?_
    refine xP_s rfl rfl rfl ?_
    refine xP_zg rfl hB rfl z0 ?_
    refine xP_s rfl rfl rfl ?_
    refine xP_s rfl rfl rfl ?_
    refine xP_s rfl rfl rfl ?_
    refine xP_s rfl rfl rfl ?_
    refine xP_cv rfl rfl rfl rfl rfl (mH_28 hB) (q_nameBegins (N0 := N0) (Q0 := Q0) hB hu1 hgd hd hp gK hk (g24 hk) (g27.trans g22.symm) g28 hrm' hN hQ (fun v' a' s' vs' N' Q' F' q1 q2 q3 q4 => ?_) (fun q1 v' a' q2 q3 q4 => ?_))
    · have kk := k1 v' a' s' vs' N' Q' F' q1 q2 (fv1.trans q3) (fa1.trans q4)
      repeat' first
        | refine xP_s rfl rfl rfl ?_
        | refine xP_ret rfl rfl rfl ?_
      exact kk
    · have kk := k0 q1 v' a' q2 (fv1.trans q3) (fa1.trans q4)
      repeat' first
        | refine xP_s rfl rfl rfl ?_
        | refine xP_ret rfl rfl rfl ?_
      exact kk
  · -- a variable
    rw [hk] at g20
    have z0 : v2 20 = 2 := g20
    have hw := gH (Or.inr (Or.inl hk))
    have hwl := (nx_nm (s := s) (Or.inr hk)).1
    obtain ⟨_, _, sl1⟩ := hsf (by omega)
    have eF : bgF sl s vs N Q F f = some ((nx s).2.2.2, vnx vs (nx s).2.2.1, nmA N (nx s).2.2.1, Q ++ [(0, (vno vs (nx s).2.2.1 : Int), [], 0)], F ++ [sL f 0]) := by
      unfold bgF
      rw [if_neg (by omega), if_pos hk]
    have hvno : vno vs (nx s).2.2.1 ≤ vs.length := by
      unfold vno
      split
      · exact Nat.le_refl _
      · cases hx : vix (nx s).2.2.1 vs 0 with
        | none => exact Nat.le_refl _
        | some i =>
          have := (List.getElem?_eq_some_iff.mp (vix_some hx).2).1
          exact Nat.le_of_lt (by omega)
    refine xP_s rfl rfl rfl ?_
    refine xP_zg rfl hB rfl z0 ?_
    refine xP_s rfl rfl rfl ?_
    refine xP_s rfl rfl rfl ?_
    refine xP_s rfl rfl rfl ?_
    refine xP_zg rfl hB rfl z0 ?_
    refine xP_s rfl rfl rfl ?_
    refine xP_s rfl rfl rfl ?_
    refine xP_s rfl rfl rfl ?_
    refine xP_s rfl rfl rfl ?_
    refine xP_s rfl rfl rfl ?_
    refine xP_cv rfl rfl rfl rfl rfl (mH_28 hB) (q_variable hB hw hu1.2.2.1 hu1.2.2.2.1 rm4 (fun _ => by omega) (fun v3 a3 x1 x2 x3 x4 => ?_))
    have hu3 : zU t sl v3 a3 o (vnx vs (nx s).2.2.1) (nmA N (nx s).2.2.1) Q (F ++ [f]) := by
      obtain ⟨b1, b2, b3, b4, b5, b6⟩ := hu1
      exact ⟨b1.same x3 x4 (by decide) (by decide), b2.same x3 x4 (by decide) (by decide) (by decide) (by decide) (by decide), x1, x2, (b5.mono (fun j u h => nmA_ext h)).same x3 x4 (by decide) (by decide) (by decide) (by decide), b6.same x3 x4 (by decide) (by decide) (by decide) (by decide) (by decide) (by decide)⟩
    refine xP_s rfl rfl rfl ?_
    refine xP_cv rfl rfl rfl rfl rfl (mH_28 hB) (q_add (p := (0, (vno vs (nx s).2.2.1 : Int), [], 0)) hB hu3.2.2.2.2.1 (by omega) ⟨by simp, rfl, fun _ => toI _ (by omega), fun h => absurd h (by simp), rfl, by simp⟩ (fun v4 a4 u1 u2 u3 => ?_))
    have hu4 := hu3.ad u2 u3 u1
    have go := xP_more [(2, .int (nI Q.length))] rfl (fin v4 a4 _ _ _ (by omega) eF hu4 (by rw [u2 27 (by decide), x3 27 (by decide)]; exact g27) (by rw [u2 28 (by decide), x3 28 (by decide)]; exact g28) ((fv1.trans (x3.wide (by decide))).trans (u2.wide (by decide))) ((fa1.trans (x4.wide (by decide))).trans (u3.wide (by decide))))
    refine xP_s rfl rfl rfl ?_
    refine xP_s rfl rfl rfl ?_
    exact go
  · -- a number
    rw [hk] at g20
    have z0 : v2 20 = 1 := g20
    have hval := nx_val gds hk
    obtain ⟨_, _, sl1⟩ := hsf (by omega)
    have eF : bgF sl s vs N Q F f = some ((nx s).2.2.2, vs, N, Q ++ [(1, ((nx s).2.1 : Int), [], 0)], F ++ [sL f 0]) := by
      unfold bgF
      rw [if_pos hk]
    refine xP_s rfl rfl rfl ?_
    refine xP_zg rfl hB rfl z0 ?_
    refine xP_s rfl rfl rfl ?_
    refine xP_s rfl rfl rfl ?_
    refine xP_s rfl rfl rfl ?_
    refine xP_s rfl rfl rfl ?_
    refine xP_s rfl rfl rfl ?_
    refine xP_zg rfl hB rfl (g23 (Or.inl hk)) ?_
    refine xP_s rfl rfl rfl ?_
    refine xP_cv rfl rfl rfl rfl rfl (mH_28 hB) (q_add (p := (1, ((nx s).2.1 : Int), [], 0)) hB hu1.2.2.2.2.1 (by omega) ⟨by simp, rfl, fun _ => toI _ (by omega), fun h => absurd h (by simp), rfl, by simp⟩ (fun v4 a4 u1 u2 u3 => ?_))
    have hu4 := hu1.ad u2 u3 u1
    have go := xP_more [(2, .int (nI Q.length))] rfl (fin v4 a4 _ _ _ (by omega) eF hu4 (by rw [u2 27 (by decide)]; exact g27) (by rw [u2 28 (by decide)]; exact g28) (fv1.trans (u2.wide (by decide))) (fa1.trans (u3.wide (by decide))))
    refine xP_s rfl rfl rfl ?_
    refine xP_s rfl rfl rfl ?_
    exact go
  · -- a string
    rw [hk] at g20
    have z0 : v2 20 = 3 := g20
    have hw := gH (Or.inr (Or.inr hk))
    obtain ⟨sw, ss1, ss2, ss3⟩ := nx_str hk
    have ss4 := congrArg List.length ss1
    rw [List.length_append] at ss4
    have eF : bgF sl s vs N Q F f = some ((nx s).2.2.2, vs, nmA (nmA N [46]) [91, 93], Q ++ strL (nx s).2.2.1, F ++ [sL f 0]) := by
      unfold bgF
      rw [if_neg (by omega), if_neg (by omega), if_pos hk]
    refine xP_s rfl rfl rfl ?_
    refine xP_zg rfl hB rfl z0 ?_
    refine xP_s rfl rfl rfl ?_
    refine xP_s rfl rfl rfl ?_
    refine xP_s rfl rfl rfl ?_
    refine xP_zg rfl hB rfl z0 ?_
    refine xP_s rfl rfl rfl ?_
    refine xP_s rfl rfl rfl ?_
    refine xP_s rfl rfl rfl ?_
    refine xP_zg rfl hB rfl z0 ?_
    refine xP_s rfl rfl rfl ?_
    refine xP_s rfl rfl rfl ?_
    refine xP_s rfl rfl rfl ?_
    refine xP_cv rfl rfl rfl rfl rfl (mH_28 hB) (q_string hB hw hu1.2.2.1 hu1.2.2.2.2.1 (by omega) ⟨by omega, by omega⟩ (fun v3 a3 x1 x2 x3 x4 => ?_))
    have hu3 : zU t sl v3 a3 o vs (nmA (nmA N [46]) [91, 93]) (Q ++ strL (nx s).2.2.1) (F ++ [f]) := by
      obtain ⟨b1, b2, b3, b4, b5, b6⟩ := hu1
      exact ⟨b1.same x3 x4 (by decide) (by decide), b2.same x3 x4 (by decide) (by decide) (by decide) (by decide) (by decide), x1, (b4.mono (fun j u h => nmA_ext (nmA_ext h))).same x3 x4 (by decide) (by decide), x2, b6.same x3 x4 (by decide) (by decide) (by decide) (by decide) (by decide) (by decide)⟩
    refine xP_s rfl rfl rfl ?_
    exact fin v3 a3 _ _ _ (by omega) eF hu3 (by rw [x3 27 (by decide)]; exact g27) (by rw [x3 28 (by decide)]; exact g28) (fv1.trans (x3.wide (by decide))) (fa1.trans (x4.wide (by decide)))
  · -- a mark
    rw [hk] at g20
    have z0 : v2 20 = 5 := g20
    obtain ⟨q1, q2, sl1⟩ := hsf (by omega)
    have z3 := g23 (Or.inr hk)
    have other : ¬ (nx s).2.1 = 40 → ¬ (nx s).2.1 = 91 → ¬ (nx s).2.1 = 123 → bgF sl s vs N Q F f = none := by
      intro n1 n2 n3
      unfold bgF
      rw [if_neg (by omega), if_neg (by omega), if_neg (by omega), if_neg (by omega), if_neg (isMk_n (fun h => n1 h.2)), if_neg (isMk_n (fun h => n2 h.2)), if_neg (isMk_n (fun h => n3 h.2))]
    rcases nx_pv hk with hv | hv | hv | hv | hv | hv | hv | hv
    · -- a bracket
      rw [hv] at z3
      have z3 : v2 23 = 40 := z3
      have eF : bgF sl s vs N Q F f = psh (F ++ [f]) (nx s).2.2.2 vs N Q (1200 : Int32).toInt 1 0 := by
        unfold bgF
        rw [if_neg (by omega), if_neg (by omega), if_neg (by omega), if_neg (by omega), if_pos (isMk_5.mpr ⟨hk, hv⟩)]
        rfl
      rw [eF] at k1 k0
      repeat' first
        | refine xP_s rfl rfl rfl ?_
        | refine xP_zg rfl hB rfl z0 ?_
        | refine xP_zg rfl hB rfl z3 ?_
      refine xP_cv rfl rfl rfl rfl rfl (mH_28 hB) (q_push (pu := 1) (ow := 0) (x1 := 1200) (s := (nx s).2.2.2) (N0 := N0) (Q0 := Q0) (v0 := v) (a0 := a) hB hu1 ⟨e, g27, q1, q2⟩ g28 hN hQ (by decide) (by decide) fv1 fa1 (fun v' a' s' vs' N' Q' F' q1 q2 q3 q4 => ?_) (fun q1 v' a' q2 q3 q4 => ?_))
      · have kk := k1 v' a' s' vs' N' Q' F' q1 q2 q3 q4
        repeat' first
          | refine xP_s rfl rfl rfl ?_
          | refine xP_ret rfl rfl rfl ?_
        exact kk
      · have kk := k0 q1 v' a' q2 q3 q4
        repeat' first
          | refine xP_s rfl rfl rfl ?_
          | refine xP_ret rfl rfl rfl ?_
        exact kk
    · rw [hv] at z3
      have z3 : v2 23 = 41 := z3
      have bd := bad (other (by omega) (by omega) (by omega))
      repeat' first
        | exact bd
        | refine xP_s rfl rfl rfl ?_
        | refine xP_zg rfl hB rfl z0 ?_
        | refine xP_zg rfl hB rfl z3 ?_
    · rw [hv] at z3
      have z3 : v2 23 = 44 := z3
      have bd := bad (other (by omega) (by omega) (by omega))
      repeat' first
        | exact bd
        | refine xP_s rfl rfl rfl ?_
        | refine xP_zg rfl hB rfl z0 ?_
        | refine xP_zg rfl hB rfl z3 ?_
    · -- a list
      rw [hv] at z3
      have z3 : v2 23 = 91 := z3
      have eF : bgF sl s vs N Q F f = psh (F ++ [f]) (nx s).2.2.2 vs (nmA N [46]) (Q ++ [dotP]) (999 : Int32).toInt 3 0 := by
        unfold bgF
        rw [if_neg (by omega), if_neg (by omega), if_neg (by omega), if_neg (by omega), if_neg (isMk_n (by omega)), if_pos (isMk_5.mpr ⟨hk, hv⟩)]
        rfl
      rw [eF] at k1 k0
      repeat' first
        | refine xP_s rfl rfl rfl ?_
        | refine xP_zg rfl hB rfl z0 ?_
        | refine xP_zg rfl hB rfl z3 ?_
      refine xP_cv rfl rfl rfl rfl rfl (mH_28 hB) (q_named1 (c := 46) hB hu1.2.2.1 (by decide) (fun _ => by omega) (fun v3 a3 j x1 x2 x3 x4 => ?_))
      have hu3 := hu1.nm x3 x4 x2
      refine xP_s rfl rfl rfl ?_
      refine xP_cv rfl rfl rfl rfl rfl (mH_28 hB) (q_add (p := dotP) hB hu3.2.2.2.2.1 (by omega) ⟨by decide, rfl, fun h => absurd h (by decide), fun _ => ⟨j, x1, rfl⟩, rfl, by decide⟩ (fun v4 a4 u1 u2 u3 => ?_))
      have hu4 := hu3.ad u2 u3 u1
      refine xP_s rfl rfl rfl ?_
      refine xP_s rfl rfl rfl ?_
      refine xP_s rfl rfl rfl ?_
      refine xP_s rfl rfl rfl ?_
      refine xP_s rfl rfl rfl ?_
      refine xP_cv rfl rfl rfl rfl rfl (mH_28 hB) (q_push (pu := 3) (ow := 0) (x1 := 999) (s := (nx s).2.2.2) (N0 := N0) (Q0 := Q0) (v0 := v) (a0 := a) hB hu4 ⟨e, by rw [u2 27 (by decide), x3 27 (by decide)]; exact g27, q1, q2⟩ (by rw [u2 28 (by decide), x3 28 (by decide)]; exact g28) (nmA_pre hN) (app_pre hQ) (by decide) (by decide) ((fv1.trans (x3.wide (by decide))).trans (u2.wide (by decide))) ((fa1.trans (x4.wide (by decide))).trans (u3.wide (by decide))) (fun v' a' s' vs' N' Q' F' q1 q2 q3 q4 => ?_) (fun q1 v' a' q2 q3 q4 => ?_))
      · have kk := k1 v' a' s' vs' N' Q' F' q1 q2 q3 q4
        repeat' first
          | refine xP_s rfl rfl rfl ?_
          | refine xP_ret rfl rfl rfl ?_
        exact kk
      · have kk := k0 q1 v' a' q2 q3 q4
        repeat' first
          | refine xP_s rfl rfl rfl ?_
          | refine xP_ret rfl rfl rfl ?_
        exact kk
    · rw [hv] at z3
      have z3 : v2 23 = 93 := z3
      have bd := bad (other (by omega) (by omega) (by omega))
      repeat' first
        | exact bd
        | refine xP_s rfl rfl rfl ?_
        | refine xP_zg rfl hB rfl z0 ?_
        | refine xP_zg rfl hB rfl z3 ?_
    · -- curly brackets
      rw [hv] at z3
      have z3 : v2 23 = 123 := z3
      have eF : bgF sl s vs N Q F f = psh (F ++ [f]) (nx s).2.2.2 vs (nmA N [123, 125]) (Q ++ [(3, 0, [123, 125], 1)]) (1200 : Int32).toInt 5 0 := by
        unfold bgF
        rw [if_neg (by omega), if_neg (by omega), if_neg (by omega), if_neg (by omega), if_neg (isMk_n (by omega)), if_neg (isMk_n (by omega)), if_pos (isMk_5.mpr ⟨hk, hv⟩)]
        rfl
      rw [eF] at k1 k0
      repeat' first
        | refine xP_s rfl rfl rfl ?_
        | refine xP_zg rfl hB rfl z0 ?_
        | refine xP_zg rfl hB rfl z3 ?_
      refine xP_cv rfl rfl rfl rfl rfl (mH_28 hB) (q_named2 (c := 123) (e := 125) hB hu1.2.2.1 (by decide) (by decide) (by decide) (fun _ => by omega) (fun v3 a3 j x1 x2 x3 x4 => ?_))
      have hu3 := hu1.nm x3 x4 x2
      refine xP_s rfl rfl rfl ?_
      refine xP_cv rfl rfl rfl rfl rfl (mH_28 hB) (q_add (p := (3, 0, [123, 125], 1)) hB hu3.2.2.2.2.1 (by omega) ⟨by decide, rfl, fun h => absurd h (by decide), fun _ => ⟨j, x1, rfl⟩, rfl, by decide⟩ (fun v4 a4 u1 u2 u3 => ?_))
      have hu4 := hu3.ad u2 u3 u1
      refine xP_s rfl rfl rfl ?_
      refine xP_s rfl rfl rfl ?_
      refine xP_s rfl rfl rfl ?_
      refine xP_s rfl rfl rfl ?_
      refine xP_s rfl rfl rfl ?_
      refine xP_cv rfl rfl rfl rfl rfl (mH_28 hB) (q_push (pu := 5) (ow := 0) (x1 := 1200) (s := (nx s).2.2.2) (N0 := N0) (Q0 := Q0) (v0 := v) (a0 := a) hB hu4 ⟨e, by rw [u2 27 (by decide), x3 27 (by decide)]; exact g27, q1, q2⟩ (by rw [u2 28 (by decide), x3 28 (by decide)]; exact g28) (nmA_pre hN) (app_pre hQ) (by decide) (by decide) ((fv1.trans (x3.wide (by decide))).trans (u2.wide (by decide))) ((fa1.trans (x4.wide (by decide))).trans (u3.wide (by decide))) (fun v' a' s' vs' N' Q' F' q1 q2 q3 q4 => ?_) (fun q1 v' a' q2 q3 q4 => ?_))
      · have kk := k1 v' a' s' vs' N' Q' F' q1 q2 q3 q4
        repeat' first
          | refine xP_s rfl rfl rfl ?_
          | refine xP_ret rfl rfl rfl ?_
        exact kk
      · have kk := k0 q1 v' a' q2 q3 q4
        repeat' first
          | refine xP_s rfl rfl rfl ?_
          | refine xP_ret rfl rfl rfl ?_
        exact kk
    · rw [hv] at z3
      have z3 : v2 23 = 124 := z3
      have bd := bad (other (by omega) (by omega) (by omega))
      repeat' first
        | exact bd
        | refine xP_s rfl rfl rfl ?_
        | refine xP_zg rfl hB rfl z0 ?_
        | refine xP_zg rfl hB rfl z3 ?_
    · rw [hv] at z3
      have z3 : v2 23 = 125 := z3
      have bd := bad (other (by omega) (by omega) (by omega))
      repeat' first
        | exact bd
        | refine xP_s rfl rfl rfl ?_
        | refine xP_zg rfl hB rfl z0 ?_
        | refine xP_zg rfl hB rfl z3 ?_
  · -- nothing
    rw [hk] at g20
    have z0 : v2 20 = 6 := g20
    have bd := bad (by
      unfold bgF
      rw [if_neg (by omega), if_neg (by omega), if_neg (by omega), if_neg (by omega), if_neg (isMk_n (by omega)), if_neg (isMk_n (by omega)), if_neg (isMk_n (by omega))])
    repeat' first
      | exact bd
      | refine xP_s rfl rfl rfl ?_
      | refine xP_zg rfl hB rfl z0 ?_
  · -- wrong
    rw [hk] at g20
    have z0 : v2 20 = 7 := g20
    have bd := bad (by
      unfold bgF
      rw [if_neg (by omega), if_neg (by omega), if_neg (by omega), if_neg (by omega), if_neg (isMk_n (by omega)), if_neg (isMk_n (by omega)), if_neg (isMk_n (by omega))])
    repeat' first
      | exact bd
      | refine xP_s rfl rfl rfl ?_
      | refine xP_zg rfl hB rfl z0 ?_
end NI
