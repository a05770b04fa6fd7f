-- the reference: goOn
section NK
variable {sc : xSc} {d g : Nat} {A B C : List xC} {o : Nat → Int64} {P : xO → xH → Prop} {N vs N0 : List (List Nat)} {t s : List Nat} {Q Q0 : List xIt} {F : List xFr} {f : xFr} {sl : List xSl} {v : Nat → Int32} {a : Nat → Nat → Int32}
def meK (s : List Nat) : Int64 := if isMk s 44 = true then 44 else if (nx s).1 = 1 then keM (nx s).2.2.1 else -1
theorem meK_B (ho : zO v a o sl) : opB sl (meK s) = opB sl (tK (nx s)) := by
  obtain ⟨_, n2, n3, n4, n5⟩ := ho.none
  unfold meK
  split
  next h =>
    have := isMk_5.mp h
    unfold tK
    rw [if_neg (by omega), if_pos this]
  next h =>
    split
    next h1 => exact (opk ho h1).2
    next h1 =>
      unfold tK
      rw [if_neg h1, if_neg (fun q => h (isMk_5.mpr q)), n3, n5]
theorem split_l {α : Type} : ∀ {l : List α}, ¬ l = [] → ∃ G x, l = G ++ [x]
  | [], h => absurd rfl h
  | [x], h => ⟨[], x, rfl⟩
  | x :: y :: r, h => by
    obtain ⟨G, z, e⟩ := split_l (l := y :: r) (by simp)
    exact ⟨x :: G, z, by rw [e]; rfl⟩
theorem popF_nil : popF s vs N Q [] f = some (s, vs, N, Q, []) := rfl
theorem popF_c {G : List xFr} {h : xFr} : popF s vs N Q (G ++ [h]) f = whF s vs N Q G h f.2.2.2.1 f.2.2.2.2 := by
  unfold popF
  rw [List.getLast?_concat, List.dropLast_concat]
theorem tk7 : ∀ k, k ≤ 7 → (tkN k = 7 ↔ k = 7) := by decide
-- the innermost frame goes
set_option maxRecDepth 100000 in
theorem q_pop {p : Nat} {v0 : Nat → Int32} {a0 : Nat → Nat → Int32} (hB : B.length = 28) (hu : zU t sl v a o vs N Q (F ++ [f])) (e27 : v 27 = nI p) (hd : t.drop p = s) (hp : p ≤ t.length) (h28 : v 28 = 0) (h20 : v 20 = nI (tkN (nx s).1)) (hk7 : (nx s).1 ≤ 7)
    (hpu : F = [] ∨ 1 ≤ f.2.2.2.1) (hpo : f.2.2.2.1 = 2 → ∃ q, Q[f.2.2.2.2]? = some q ∧ q.2.2.2 ≤ 6 ∧ Q0.length ≤ f.2.2.2.2)
    (rm1 : Q.length + 2 * s.length ≤ 900) (rm2 : N.length + 2 ≤ 1500) (rm3 : ltN N + 27 ≤ 4600) (hN : ∃ M, N = N0 ++ M) (hQ : ∃ R, Q = Q0 ++ R) (fv : vS v0 v vR) (fa : aS a0 a aR)
    (k1 : ¬ (nx s).1 = 7 → ∀ v' a' s' vs' N' Q' F', popF s vs N Q F f = some (s', vs', N', Q', F') → zS t sl v' a' o s' vs' N' Q' F' → vS v0 v' vR → aS a0 a' aR → P (.inl none) (mH B C v' a' o, g))
    (k0 : ((nx s).1 = 7 ∨ popF s vs N Q F f = none) → ∀ v' a', zBd t sl v' a' o N0 Q0 → vS v0 v' vR → aS a0 a' aR → P (.inl none) (mH B C v' a' o, g)) :
    xP sc (d + 5) 175 251 [(0, .ref 28), (1, .int (nI F.length))] [] (mH B C v a o, g) P := by
  have hfl := hu.2.2.2.2.2.top
  have h120 := hu.1.2.1
  have em : nI (F.length + 1) - 1 = nI F.length := nIm1 (n := F.length + 1) (by omega)
  have hT : (nI (tkN (nx s).1)).toInt = (tkN (nx s).1 : Int) := toI _ (by have := (tkN_4 _ hk7).2.2; omega)
  have c7 : (7 : Int32).toInt = 7 := rfl
  have c0 : (0 : Int32).toInt = 0 := rfl
  have hFl := toI F.length (by omega)
  refine xP_s rfl rfl rfl ?_
  refine xP_s rfl rfl rfl ?_
  refine xP_zg rfl hB rfl h28 ?_
  refine xP_s rfl rfl rfl ?_
  refine xP_s rfl rfl rfl ?_
  refine xP_zg rfl hB rfl h20 ?_
  refine xP_s rfl rfl rfl ?_
  refine xP_s rfl rfl rfl ?_
  refine xP_if (fun z => ?_) (fun z => ?_)
  · have q := xc_t z
    dsimp only at q
    have h7 : ¬ (nx s).1 = 7 := fun h => q (by rw [(tk7 _ hk7).mpr h]; rfl)
    have k1 := k1 h7
    refine xP_s rfl rfl rfl ?_
    refine xP_zp rfl hB rfl rfl ?_
    refine xP_s rfl rfl rfl ?_
    refine xP_s rfl rfl rfl ?_
    refine xP_zg rfl hB rfl ((upd_n (by decide)).trans hfl.1) ?_
    refine xP_s rfl rfl rfl ?_
    refine xP_s rfl rfl rfl ?_
    rw [em]
    refine xP_zp rfl hB rfl rfl ?_
    have fv2 : vS v0 (upd (upd v 28 0) 29 (nI F.length)) vR := (fv.up (by decide)).up (by decide)
    have i27 : upd (upd v 28 0) 29 (nI F.length) 27 = nI p := (upd_n (by decide)).trans ((upd_n (by decide)).trans e27)
    have i28 : upd (upd v 28 0) 29 (nI F.length) 28 = 0 := (upd_n (by decide)).trans upd_s
    have hua : zU t sl (upd v 28 0) a o vs N Q (F ++ [f]) := hu.sc ((vS.u v 28 0).wide (by decide)) (aS.refl _ _)
    have hu2 : zU t sl (upd (upd v 28 0) 29 (nI F.length)) a o vs N Q F := hua.fr (vS.u _ _ _) (aS.refl _ _) hua.2.2.2.2.2.pop
    refine xP_s rfl rfl rfl ?_
    refine xP_zg rfl hB rfl upd_s ?_
    refine xP_s rfl rfl rfl ?_
    refine xP_if (fun z2 => ?_) (fun z2 => ?_)
    · have q2 := xc_t z2
      dsimp only at q2
      have eF : F = [] := List.length_eq_zero_iff.mp (by omega)
      subst eF
      have kk := k1 (upd (upd v 28 0) 29 (nI ([] : List xFr).length)) a _ _ _ _ _ popF_nil ⟨hu2, ⟨p, i27, hd, hp⟩, i28⟩ fv2 fa
      repeat' first
        | refine xP_s rfl rfl rfl ?_
        | refine xP_ret rfl rfl rfl ?_
      exact kk
    · have q2 := xc_f z2
      dsimp only at q2
      have hne : ¬ F = [] := fun h => by
        rw [h] at q2 hFl
        have : ([] : List xFr).length = 0 := rfl
        omega
      have hz := hu.2.2.2.2.2.2.2 F.length f (by simp)
      refine xP_s rfl rfl rfl ?_
      refine xP_zg rfl hB rfl i28 ?_
      refine xP_s rfl rfl rfl ?_
      refine xP_s rfl rfl rfl ?_
      refine xP_s rfl rfl rfl ?_
      refine xP_get rfl (mH_28 hB) rfl ?_
      refine xP_s rfl rfl rfl ?_
      refine xP_zl (n := 32) rfl hB rfl rfl (by omega) hfl.2.2.2.2.2.1 ?_
      refine xP_s rfl rfl rfl ?_
      refine xP_get rfl (mH_28 hB) rfl ?_
      refine xP_s rfl rfl rfl ?_
      refine xP_zl (n := 32) rfl hB rfl rfl (by omega) hfl.2.2.2.2.2.2 ?_
      generalize upd (upd v 28 0) 29 (nI F.length) = v2 at *
      obtain ⟨G, h, eF⟩ := split_l hne
      rw [eF, popF_c] at k1 k0
      rw [eF] at hu2
      refine xP_cv rfl rfl rfl rfl rfl (mH_28 hB) (q_whole (N0 := N0) (Q0 := Q0) hB hu2 i27 hd hp i28 ⟨by
        rcases hpu with y | y
        · exact absurd y hne
        · exact y, hz.2.2.2.2.2.2.1⟩ hz.2.2.2.2.2.2.2 hpo rm1 rm2 rm3 hN hQ (fun v' a' s' vs' N' Q' F' q1 q2 q3 q4 => ?_) (fun q1 v' a' q2 q3 q4 => ?_))
      · have kk := k1 v' a' s' vs' N' Q' F' q1 q2 (fv2.trans q3) (fa.trans q4)
        repeat' first
          | refine xP_s rfl rfl rfl ?_
          | refine xP_ret rfl rfl rfl ?_
        exact kk
      · have kk := k0 (Or.inr q1) v' a' q2 (fv2.trans q3) (fa.trans q4)
        repeat' first
          | refine xP_s rfl rfl rfl ?_
          | refine xP_ret rfl rfl rfl ?_
        exact kk
  · have q := xc_f z
    dsimp only at q
    have h7 : (nx s).1 = 7 := (tk7 _ hk7).mp (by omega)
    have k0 := k0 (Or.inl h7)
    refine xP_s rfl rfl rfl ?_
    refine xP_s rfl rfl rfl ?_
    refine xP_zp rfl hB rfl rfl ?_
    refine xP_s rfl rfl rfl ?_
    refine xP_s rfl rfl rfl ?_
    refine xP_zg rfl hB rfl ((upd_n (by decide)).trans hfl.1) ?_
    refine xP_s rfl rfl rfl ?_
    refine xP_s rfl rfl rfl ?_
    rw [em]
    refine xP_zp rfl hB rfl rfl ?_
    have fv2 : vS v0 (upd (upd v 28 1) 29 (nI F.length)) vR := (fv.up (by decide)).up (by decide)
    have i27 : upd (upd v 28 1) 29 (nI F.length) 27 = nI p := (upd_n (by decide)).trans ((upd_n (by decide)).trans e27)
    have i28 : upd (upd v 28 1) 29 (nI F.length) 28 = 1 := (upd_n (by decide)).trans upd_s
    have hua : zU t sl (upd v 28 1) a o vs N Q (F ++ [f]) := hu.sc ((vS.u v 28 1).wide (by decide)) (aS.refl _ _)
    have hu2 : zU t sl (upd (upd v 28 1) 29 (nI F.length)) a o vs N Q F := hua.fr (vS.u _ _ _) (aS.refl _ _) hua.2.2.2.2.2.pop
    have kk := k0 _ a (hu2.bad i28 ⟨p, i27, by omega⟩ hN hQ) fv2 fa
    refine xP_s rfl rfl rfl ?_
    refine xP_zg rfl hB rfl upd_s ?_
    refine xP_s rfl rfl rfl ?_
    refine xP_if (fun z2 => ?_) (fun z2 => ?_)
    · repeat' first
        | refine xP_s rfl rfl rfl ?_
        | refine xP_ret rfl rfl rfl ?_
      exact kk
    · refine xP_s rfl rfl rfl ?_
      refine xP_zg rfl hB rfl i28 ?_
      repeat' first
        | refine xP_s rfl rfl rfl ?_
        | refine xP_ret rfl rfl rfl ?_
      exact kk
end NK
