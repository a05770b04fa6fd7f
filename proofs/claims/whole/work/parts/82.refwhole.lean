-- the reference: whole
section NJ
variable {sc : xSc} {d g : Nat} {A B C : List xC} {o : Nat → Int64} {P : xO → xH → Prop} {N vs N0 : List (List Nat)} {t s : List Nat} {Q Q0 : List xIt} {G : List xFr} {h : xFr} {sl : List xSl} {v : Nat → Int32} {a : Nat → Nat → Int32}
def sgn (s : List Nat) : Nat := if (nx s).1 = 5 then (nx s).2.1 else 0
theorem sgn_mk {c : Nat} (hc : ¬ c = 0) : isMk s c = true ↔ sgn s = c := by
  rw [isMk_5]
  unfold sgn
  constructor
  · intro q
    rw [if_pos q.1]
    exact q.2
  · intro q
    by_cases h5 : (nx s).1 = 5
    · rw [if_pos h5] at q
      exact ⟨h5, q⟩
    · rw [if_neg h5] at q
      omega
theorem sgn_lt : sgn s < 128 := by
  unfold sgn
  split
  next h5 =>
    have := nx_pv h5
    omega
  next => decide
theorem zQ.inc1 {ow : Nat} {p : xIt} (hq : zQ v a N Q) (ho : Q[ow]? = some p) (hp : p.2.2.2 ≤ 6) : zQ v (uA a 41 (upd (a 41) ow (nI (p.2.2.2 + 1)))) N (inc Q ow) := by
  obtain ⟨h1, h2, h3⟩ := hq
  have hl := (List.getElem?_eq_some_iff.mp ho).1
  have e : inc Q ow = Q.set ow (p.1, p.2.1, p.2.2.1, p.2.2.2 + 1) := by
    unfold inc
    rw [ho]
  rw [e]
  refine ⟨by rw [List.length_set]; exact h1, by rw [List.length_set]; exact h2, fun i r hr => ?_⟩
  rw [uA_n (by decide), uA_n (by decide), uA_s]
  by_cases hi : i = ow
  · subst hi
    rw [List.getElem?_set_self hl] at hr
    cases hr
    obtain ⟨g1, g2, g3, g4, g5, g6⟩ := h3 i p ho
    rw [upd_s]
    exact ⟨g1, g2, g3, g4, rfl, by dsimp only; omega⟩
  · rw [List.getElem?_set_ne (by omega)] at hr
    rw [upd_n hi]
    exact h3 i r hr
theorem isMk_6 {c : Nat} (hm : isMk s c = true) : (nx s).1 < 6 := by
  have := (isMk_5.mp hm).1
  omega
set_option maxHeartbeats 8000000 in
set_option maxRecDepth 100000 in
theorem q_whole {pu ow p : Nat} (hB : B.length = 28) (hu : zU t sl v a o vs N Q (G ++ [h])) (e27 : v 27 = nI p) (hd : t.drop p = s) (hp : p ≤ t.length) (h28 : v 28 = 0) (hpu : 1 ≤ pu ∧ pu ≤ 7) (how : ow ≤ 2000) (hpo : pu = 2 → ∃ q, Q[ow]? = some q ∧ q.2.2.2 ≤ 6 ∧ Q0.length ≤ ow)
    (rm1 : Q.length + 2 * s.length ≤ 900) (rm2 : N.length + 2 ≤ 1500) (rm3 : ltN N + 27 ≤ 4600) (hN : ∃ M, N = N0 ++ M) (hQ : ∃ R, Q = Q0 ++ R)
    (k1 : ∀ v' a' s' vs' N' Q' F', whF s vs N Q G h pu ow = some (s', vs', N', Q', F') → zS t sl v' a' o s' vs' N' Q' F' → vS v v' vR → aS a a' aR → P (.inl none) (mH B C v' a' o, g))
    (k0 : whF s vs N Q G h pu ow = none → ∀ v' a', zBd t sl v' a' o N0 Q0 → vS v v' vR → aS a a' aR → P (.inl none) (mH B C v' a' o, g)) : xM1 sc (d + 4) 176 [.ref 28, .int (nI pu), .int (nI ow)] (mH B C v a o, g) P := by
  have ht := hu.1
  have h120 := ht.2.1
  have hfl := hu.2.2.2.2.2.top
  have em : nI (G.length + 1) - 1 = nI G.length := nIm1 (n := G.length + 1) (by omega)
  have hOw := toI ow (by omega)
  have c5 : (5 : Int32).toInt = 5 := rfl
  have c6 : (6 : Int32).toInt = 6 := rfl
  have c7 : (7 : Int32).toInt = 7 := rfl
  have hPu := toI pu (by omega)
  unfold xM1
  refine xP_s rfl rfl rfl ?_
  refine xP_zg rfl hB rfl hfl.1 ?_
  refine xP_s rfl rfl rfl ?_
  refine xP_s rfl rfl rfl ?_
  rw [em]
  have lef : (pu = 6 ∨ pu = 7) → xP sc (d + 4) 176 19 [(0, .ref 28), (1, .int (nI pu)), (2, .int (nI ow)), (3, .int (nI G.length))] [] (mH B C v a o, g) P := by
    intro hx
    have eF : whF s vs N Q G h pu ow = some (s, vs, N, Q, G ++ [sL h ow]) := by
      unfold whF
      rw [if_pos hx]
    have hl := hu.lf (x := nI ow)
    rw [hOw] at hl
    have kk := k1 v _ _ _ _ _ _ eF ⟨hl, ⟨p, e27, hd, hp⟩, h28⟩ (vS.refl _ _) ((aS.u _ _ _).wide (by decide))
    refine xP_s rfl rfl rfl ?_
    refine xP_get rfl (mH_28 hB) rfl ?_
    refine xP_s rfl rfl rfl ?_
    refine xP_s rfl rfl rfl ?_
    refine xP_zs (n := 32) rfl hB rfl rfl (by omega) ?_
    repeat' first
      | refine xP_s rfl rfl rfl ?_
      | refine xP_ret rfl rfl rfl ?_
    exact kk
  have rest : ¬ (pu = 6 ∨ pu = 7) → xP sc (d + 4) 176 27 [(0, .ref 28), (1, .int (nI pu)), (2, .int (nI ow)), (3, .int (nI G.length))] [] (mH B C v a o, g) P := by
    intro h67
    refine xP_s rfl rfl rfl ?_
    refine xP_s rfl rfl rfl ?_
    refine xP_zg rfl hB rfl e27 ?_
    refine xP_cv rfl rfl rfl rfl rfl (mH_28 hB) (q_scan hB ht hd hp (fun v1 a1 y1 y2 y3 y4 => ?_))
    obtain ⟨e, w1, w2, w3⟩ := y1.2.2.1
    have hk7 := y1.1
    refine xP_s rfl rfl rfl ?_
    refine xP_s rfl rfl rfl ?_
    refine xP_zg rfl hB rfl w2 ?_
    refine xP_zp rfl hB rfl rfl ?_
    have hu1 : zU t sl (upd v1 27 (nI e)) a1 o vs N Q (G ++ [h]) := hu.sc ((y3.wide (by decide)).up (by decide)) y4
    have fv1 : vS v (upd v1 27 (nI e)) vR := (y3.wide (by decide)).up (by decide)
    have g28 : upd v1 27 (nI e) 28 = 0 := by rw [upd_n (by decide), y3 28 (by decide)]; exact h28
    have g27 : upd v1 27 (nI e) 27 = nI e := upd_s
    have g20 : upd v1 27 (nI e) 20 = nI (tkN (nx s).1) := (upd_n (by decide)).trans y1.2.1
    have g23 : (nx s).1 = 5 → upd v1 27 (nI e) 23 = nI (nx s).2.1 := fun h => (upd_n (by decide)).trans (y1.2.2.2.2 (Or.inr h))
    generalize upd v1 27 (nI e) = v2 at *
    have hu2 : zU t sl v2 (uA a1 45 (upd (a1 45) G.length 0)) o vs N Q (G ++ [sL h 0]) := hu1.lf (x := 0)
    have fa2 : aS a (uA a1 45 (upd (a1 45) G.length 0)) aR := (y4.wide (by decide)).trans ((aS.u _ _ _).wide (by decide))
    have hsf : (nx s).1 < 6 → t.drop e = (nx s).2.2.2 ∧ e ≤ t.length ∧ (nx s).2.2.2.length + 1 ≤ s.length := fun h => by
      obtain ⟨tw, hts, htw⟩ := nx_sfx (s := s) h
      obtain ⟨q1, q2⟩ := drop_sfx hd hp hts
      rw [w3 h]
      refine ⟨q1, by omega, ?_⟩
      have := congrArg List.length hts
      rw [List.length_append] at this
      omega
    have hsl := sgn_lt (s := s)
    have hSg := toI (sgn s) (by omega)
    -- behind the mark
    have at68 : xP sc (d + 4) 176 59 [(0, .ref 28), (1, .int (nI pu)), (2, .int (nI ow)), (3, .int (nI G.length))] [.int (nI (sgn s))] (mH B C v2 a1 o, g) P := by
      refine xP_s rfl rfl rfl ?_
      refine xP_s rfl rfl rfl ?_
      refine xP_get rfl (mH_28 hB) rfl ?_
      refine xP_s rfl rfl rfl ?_
      refine xP_s rfl rfl rfl ?_
      refine xP_zs (n := 32) rfl hB rfl rfl (by omega) ?_
      generalize uA a1 45 (upd (a1 45) G.length 0) = a2 at *
      clear y1 y2 y3 y4 w2 w3
      have one : ∀ c : Nat, ¬ c = 0 → c < 128 → whF s vs N Q G h pu ow = (if isMk s c = true then some ((nx s).2.2.2, vs, N, Q, G ++ [sL h 0]) else none) → xP sc (d + 4) 176 108 [(0, .ref 28), (1, .int (nI pu)), (2, .int (nI ow)), (3, .int (nI G.length)), (4, .int (nI (sgn s)))] [.int (nI c), .int (nI (sgn s)), .ref 28] (mH B C v2 a2 o, g) P := by
        intro c hc0 hc eF
        have hC := toI c (by omega)
        refine xP_s rfl rfl rfl ?_
        refine xP_if (fun z => ?_) (fun z => ?_)
        · have q := xc_t z
          dsimp only at q
          have hm : isMk s c = true := (sgn_mk hc0).mpr (by omega)
          rw [if_pos hm] at eF
          obtain ⟨q1, q2, _⟩ := hsf (isMk_6 hm)
          refine xP_s rfl rfl rfl ?_
          refine xP_zp rfl hB rfl rfl ?_
          have kk := k1 (upd v2 28 0) a2 _ _ _ _ _ eF ⟨hu2.sc ((vS.u v2 28 0).wide (by decide)) (aS.refl _ _), ⟨e, (upd_n (by decide)).trans g27, q1, q2⟩, upd_s⟩ (fv1.up (by decide)) fa2
          repeat' first
            | refine xP_s rfl rfl rfl ?_
            | refine xP_ret rfl rfl rfl ?_
          exact kk
        · have q := xc_f z
          dsimp only at q
          have hm : ¬ isMk s c = true := fun hm => q (by rw [(sgn_mk hc0).mp hm])
          rw [if_neg hm] at eF
          refine xP_s rfl rfl rfl ?_
          refine xP_s rfl rfl rfl ?_
          refine xP_zp rfl hB rfl rfl ?_
          have kk := k0 eF (upd v2 28 1) a2 ((hu2.sc ((vS.u v2 28 1).wide (by decide)) (aS.refl _ _)).bad upd_s ⟨e, (upd_n (by decide)).trans g27, by omega⟩ hN hQ) (fv1.up (by decide)) fa2
          repeat' first
            | refine xP_s rfl rfl rfl ?_
            | refine xP_ret rfl rfl rfl ?_
          exact kk
      have c41 : (41 : Int32).toInt = 41 := rfl
      have c44 : (44 : Int32).toInt = 44 := rfl
      have c93 : (93 : Int32).toInt = 93 := rfl
      have c124 : (124 : Int32).toInt = 124 := rfl
      have e5 : pu = 1 ∨ pu = 2 ∨ pu = 3 ∨ pu = 4 ∨ pu = 5 := by omega
      rcases e5 with e5 | e5 | e5 | e5 | e5
      · subst e5
        have go := one 41 (by decide) (by decide) (by
          unfold whF
          rw [if_neg (by decide), if_pos rfl])
        repeat' first
          | exact go
          | refine xP_s rfl rfl rfl ?_
      · -- an argument
        subst e5
        obtain ⟨q, ho1, ho2, ho3⟩ := hpo rfl
        have hol := (List.getElem?_eq_some_iff.mp ho1).1
        have hql := hu2.2.2.2.2.1.2.1
        have hm41 := (hu2.2.2.2.2.1.2.2 ow q ho1).2.2.2.2.1
        have hmn : mny Q ow = q.2.2.2 := by
          unfold mny
          rw [ho1]
        have hM := toI (q.2.2.2 + 1) (by omega)
        have hu3 : zU t sl v2 (uA a2 41 (upd (a2 41) ow (nI (q.2.2.2 + 1)))) o vs N (inc Q ow) (G ++ [sL h 0]) := hu2.ad (vS.refl _ _) ((aS.u _ _ _).wide (by decide)) (hu2.2.2.2.2.1.inc1 ho1 ho2)
        have fa3 : aS a (uA a2 41 (upd (a2 41) ow (nI (q.2.2.2 + 1)))) aR := fa2.trans ((aS.u _ _ _).wide (by decide))
        have r41 : uA a2 41 (upd (a2 41) ow (nI (q.2.2.2 + 1))) 41 ow = nI (q.2.2.2 + 1) := by rw [uA_s, upd_s]
        have eF0 : whF s vs N Q G h 2 ow = (if q.2.2.2 + 1 ≤ 6 then (if isMk s 44 = true then psh (G ++ [sL h 0]) (nx s).2.2.2 vs N (inc Q ow) 999 2 ow else if isMk s 41 = true then some ((nx s).2.2.2, vs, N, inc Q ow, G ++ [sL h 0]) else none) else none) := by
          unfold whF
          rw [if_neg (by decide), if_neg (by decide), if_neg (by decide), if_neg (by decide), if_pos rfl, hmn]
        rw [eF0] at k1 k0
        repeat' (refine xP_s rfl rfl rfl ?_)
        refine xP_get rfl (mH_28 hB) rfl ?_
        refine xP_s rfl rfl rfl ?_
        refine xP_s rfl rfl rfl ?_
        refine xP_zl (n := 1000) rfl hB rfl rfl (by omega) hm41 ?_
        refine xP_s rfl rfl rfl ?_
        refine xP_s rfl rfl rfl ?_
        rw [nI_p1]
        refine xP_zs (n := 1000) rfl hB rfl rfl (by omega) ?_
        generalize uA a2 41 (upd (a2 41) ow (nI (q.2.2.2 + 1))) = a3 at *
        -- not good
        have no : (¬ (q.2.2.2 + 1 ≤ 6) ∨ (¬ sgn s = 41 ∧ ¬ sgn s = 44)) → xP sc (d + 4) 176 163 [(0, .ref 28), (1, .int (nI 2)), (2, .int (nI ow)), (3, .int (nI G.length)), (4, .int (nI (sgn s)))] [.ref 28] (mH B C v2 a3 o, g) P := by
          intro hx
          have eF : (if q.2.2.2 + 1 ≤ 6 then (if isMk s 44 = true then psh (G ++ [sL h 0]) (nx s).2.2.2 vs N (inc Q ow) 999 2 ow else if isMk s 41 = true then some ((nx s).2.2.2, vs, N, inc Q ow, G ++ [sL h 0]) else none) else none) = none := by
            rcases hx with hx | hx
            · rw [if_neg hx]
            · split
              · rw [if_neg (fun m => hx.2 ((sgn_mk (by decide)).mp m)), if_neg (fun m => hx.1 ((sgn_mk (by decide)).mp m))]
              · rfl
          rw [eF] at k0
          have kk := k0 rfl (upd v2 28 1) a3 ((hu3.sc ((vS.u v2 28 1).wide (by decide)) (aS.refl _ _)).bad upd_s ⟨e, (upd_n (by decide)).trans g27, by omega⟩ hN (inc_pre hQ ho3)) (fv1.up (by decide)) fa3
          refine xP_s rfl rfl rfl ?_
          refine xP_s rfl rfl rfl ?_
          refine xP_zp rfl hB rfl rfl ?_
          refine xP_s rfl rfl rfl ?_
          refine xP_s rfl rfl rfl ?_
          refine xP_s rfl rfl rfl ?_
          refine xP_if (fun z => ?_) (fun z => ?_)
          · repeat' first
              | refine xP_s rfl rfl rfl ?_
              | refine xP_ret rfl rfl rfl ?_
            exact kk
          · refine xP_s rfl rfl rfl ?_
            refine xP_zg rfl hB rfl upd_s ?_
            repeat' first
              | refine xP_s rfl rfl rfl ?_
              | refine xP_ret rfl rfl rfl ?_
            exact kk
        have good : (sgn s = 41 ∨ sgn s = 44) → xP sc (d + 4) 176 152 [(0, .ref 28), (1, .int (nI 2)), (2, .int (nI ow)), (3, .int (nI G.length)), (4, .int (nI (sgn s)))] [.ref 28] (mH B C v2 a3 o, g) P := by
          intro hx
          refine xP_s rfl rfl rfl ?_
          refine xP_get rfl (mH_28 hB) rfl ?_
          refine xP_s rfl rfl rfl ?_
          refine xP_zl (n := 1000) rfl hB rfl rfl (by omega) r41 ?_
          refine xP_s rfl rfl rfl ?_
          refine xP_s rfl rfl rfl ?_
          refine xP_if (fun z => ?_) (fun z => ?_)
          · have q6 := xc_t z
            dsimp only at q6
            rw [if_pos (by omega)] at k1 k0
            refine xP_s rfl rfl rfl ?_
            refine xP_zp rfl hB rfl rfl ?_
            have hu4 : zU t sl (upd v2 28 0) a3 o vs N (inc Q ow) (G ++ [sL h 0]) := hu3.sc ((vS.u v2 28 0).wide (by decide)) (aS.refl _ _)
            refine xP_s rfl rfl rfl ?_
            refine xP_s rfl rfl rfl ?_
            refine xP_s rfl rfl rfl ?_
            refine xP_if (fun z2 => ?_) (fun z2 => ?_)
            · have q7 := xc_t z2
              dsimp only at q7
              have h41 : isMk s 41 = true := (sgn_mk (by decide)).mpr (by omega)
              rw [if_neg (fun m => q7 (by rw [(sgn_mk (by decide)).mp m]; rfl)), if_pos h41] at k1
              obtain ⟨q1, q2, _⟩ := hsf (isMk_6 h41)
              have kk := k1 (upd v2 28 0) a3 _ _ _ _ _ rfl ⟨hu4, ⟨e, (upd_n (by decide)).trans g27, q1, q2⟩, upd_s⟩ (fv1.up (by decide)) fa3
              repeat' first
                | refine xP_s rfl rfl rfl ?_
                | refine xP_ret rfl rfl rfl ?_
              exact kk
            · have q7 := xc_f z2
              dsimp only at q7
              have h44 : isMk s 44 = true := (sgn_mk (by decide)).mpr (by omega)
              rw [if_pos h44] at k1 k0
              obtain ⟨q1, q2, _⟩ := hsf (isMk_6 h44)
              refine xP_s rfl rfl rfl ?_
              refine xP_zg rfl hB rfl upd_s ?_
              refine xP_s rfl rfl rfl ?_
              refine xP_s rfl rfl rfl ?_
              refine xP_s rfl rfl rfl ?_
              refine xP_s rfl rfl rfl ?_
              refine xP_s rfl rfl rfl ?_
              refine xP_cv rfl rfl rfl rfl rfl (mH_28 hB) (q_push (pu := 2) (ow := ow) (x1 := 999) (s := (nx s).2.2.2) (N0 := N0) (Q0 := Q0) (v0 := v) (a0 := a) hB hu4 ⟨e, (upd_n (by decide)).trans g27, q1, q2⟩ upd_s hN (inc_pre hQ ho3) (by decide) how (fv1.up (by decide)) fa3 (fun v' a' s' vs' N' Q' F' q1 q2 q3 q4 => ?_) (fun q1 v' a' q2 q3 q4 => ?_))
              · have kk := k1 v' a' s' vs' N' Q' F' q1 q2 q3 q4
                repeat' first
                  | refine xP_s rfl rfl rfl ?_
                  | refine xP_ret rfl rfl rfl ?_
                exact kk
              · have kk := k0 q1 v' a' q2 q3 q4
                repeat' first
                  | refine xP_s rfl rfl rfl ?_
                  | refine xP_ret rfl rfl rfl ?_
                exact kk
          · have q6 := xc_f z
            dsimp only at q6
            exact no (Or.inl (by omega))
        refine xP_s rfl rfl rfl ?_
        refine xP_s rfl rfl rfl ?_
        refine xP_s rfl rfl rfl ?_
        refine xP_s rfl rfl rfl ?_
        refine xP_if (fun z => ?_) (fun z => ?_)
        · have q7 := xc_t z
          dsimp only at q7
          exact good (Or.inl (by omega))
        · have q7 := xc_f z
          dsimp only at q7
          refine xP_s rfl rfl rfl ?_
          refine xP_s rfl rfl rfl ?_
          refine xP_s rfl rfl rfl ?_
          refine xP_if (fun z => ?_) (fun z => ?_)
          · have q8 := xc_t z
            dsimp only at q8
            exact no (Or.inr ⟨by omega, by omega⟩)
          · have q8 := xc_f z
            dsimp only at q8
            exact good (Or.inr (by omega))
      · -- an element
        subst e5
        have eF0 : whF s vs N Q G h 3 ow = (if isMk s 44 = true then psh (G ++ [sL h 0]) (nx s).2.2.2 vs (nmA N [46]) (Q ++ [dotP]) 999 3 0
            else if isMk s 124 = true then psh (G ++ [sL h 0]) (nx s).2.2.2 vs N Q 999 4 0
            else if isMk s 93 = true then some ((nx s).2.2.2, vs, nmA N [91, 93], Q ++ [nilP], G ++ [sL h 0])
            else none) := by
          unfold whF
          rw [if_neg (by decide), if_neg (by decide), if_neg (by decide), if_neg (by decide), if_neg (by decide)]
        rw [eF0] at k1 k0
        repeat' (refine xP_s rfl rfl rfl ?_)
        refine xP_if (fun z => ?_) (fun z => ?_)
        · have q7 := xc_t z
          dsimp only at q7
          have n44 : ¬ isMk s 44 = true := fun m => q7 (by rw [(sgn_mk (by decide)).mp m]; rfl)
          rw [if_neg n44] at k1 k0
          refine xP_s rfl rfl rfl ?_
          refine xP_s rfl rfl rfl ?_
          refine xP_s rfl rfl rfl ?_
          refine xP_if (fun z => ?_) (fun z => ?_)
          · have q8 := xc_t z
            dsimp only at q8
            have n124 : ¬ isMk s 124 = true := fun m => q8 (by rw [(sgn_mk (by decide)).mp m]; rfl)
            rw [if_neg n124] at k1 k0
            refine xP_s rfl rfl rfl ?_
            refine xP_s rfl rfl rfl ?_
            refine xP_s rfl rfl rfl ?_
            refine xP_if (fun z => ?_) (fun z => ?_)
            · have q9 := xc_t z
              dsimp only at q9
              have n93 : ¬ isMk s 93 = true := fun m => q9 (by rw [(sgn_mk (by decide)).mp m]; rfl)
              rw [if_neg n93] at k0
              refine xP_s rfl rfl rfl ?_
              refine xP_s rfl rfl rfl ?_
              refine xP_zp rfl hB rfl rfl ?_
              have kk := k0 rfl (upd v2 28 1) a2 ((hu2.sc ((vS.u v2 28 1).wide (by decide)) (aS.refl _ _)).bad upd_s ⟨e, (upd_n (by decide)).trans g27, by omega⟩ hN hQ) (fv1.up (by decide)) fa2
              repeat' first
                | refine xP_s rfl rfl rfl ?_
                | refine xP_ret rfl rfl rfl ?_
              exact kk
            · have q9 := xc_f z
              dsimp only at q9
              have h93 : isMk s 93 = true := (sgn_mk (by decide)).mpr (by omega)
              rw [if_pos h93] at k1
              obtain ⟨q1, q2, q3⟩ := hsf (isMk_6 h93)
              refine xP_s rfl rfl rfl ?_
              refine xP_s rfl rfl rfl ?_
              refine xP_s rfl rfl rfl ?_
              refine xP_s rfl rfl rfl ?_
              refine xP_s rfl rfl rfl ?_
              refine xP_cv rfl rfl rfl rfl rfl (mH_28 hB) (q_named2 (c := 91) (e := 93) hB hu2.2.2.1 (by decide) (by decide) (by decide) (fun _ => by omega) (fun v3 a3 j x1 x2 x3 x4 => ?_))
              have hu3 := hu2.nm x3 x4 x2
              refine xP_s rfl rfl rfl ?_
              refine xP_cv rfl rfl rfl rfl rfl (mH_28 hB) (q_add (p := nilP) hB hu3.2.2.2.2.1 (by omega) ⟨by decide, rfl, fun h => absurd h (by decide), fun _ => ⟨j, x1, rfl⟩, rfl, by decide⟩ (fun v4 a4 u1 u2 u3 => ?_))
              have hu4 := hu3.ad u2 u3 u1
              have kk := k1 v4 a4 _ _ _ _ _ rfl ⟨hu4, ⟨e, by rw [u2 27 (by decide), x3 27 (by decide)]; exact g27, q1, q2⟩, by rw [u2 28 (by decide), x3 28 (by decide)]; exact g28⟩ ((fv1.trans (x3.wide (by decide))).trans (u2.wide (by decide))) ((fa2.trans (x4.wide (by decide))).trans (u3.wide (by decide)))
              repeat' first
                | refine xP_s rfl rfl rfl ?_
                | refine xP_ret rfl rfl rfl ?_
              exact kk
          · have q8 := xc_f z
            dsimp only at q8
            have h124 : isMk s 124 = true := (sgn_mk (by decide)).mpr (by omega)
            rw [if_pos h124] at k1 k0
            obtain ⟨q1, q2, q3⟩ := hsf (isMk_6 h124)
            refine xP_s rfl rfl rfl ?_
            refine xP_s rfl rfl rfl ?_
            refine xP_s rfl rfl rfl ?_
            refine xP_s rfl rfl rfl ?_
            refine xP_cv rfl rfl rfl rfl rfl (mH_28 hB) (q_push (pu := 4) (ow := 0) (x1 := 999) (s := (nx s).2.2.2) (N0 := N0) (Q0 := Q0) (v0 := v) (a0 := a) hB hu2 ⟨e, g27, q1, q2⟩ g28 hN hQ (by decide) (by decide) fv1 fa2 (fun v' a' s' vs' N' Q' F' q1 q2 q3 q4 => ?_) (fun q1 v' a' q2 q3 q4 => ?_))
            · have kk := k1 v' a' s' vs' N' Q' F' q1 q2 q3 q4
              repeat' first
                | refine xP_s rfl rfl rfl ?_
                | refine xP_ret rfl rfl rfl ?_
              exact kk
            · have kk := k0 q1 v' a' q2 q3 q4
              repeat' first
                | refine xP_s rfl rfl rfl ?_
                | refine xP_ret rfl rfl rfl ?_
              exact kk
        · have q7 := xc_f z
          dsimp only at q7
          have h44 : isMk s 44 = true := (sgn_mk (by decide)).mpr (by omega)
          rw [if_pos h44] at k1 k0
          obtain ⟨q1, q2, q3⟩ := hsf (isMk_6 h44)
          refine xP_s rfl rfl rfl ?_
          refine xP_s rfl rfl rfl ?_
          refine xP_s rfl rfl rfl ?_
          refine xP_s rfl rfl rfl ?_
          refine xP_s rfl rfl rfl ?_
          refine xP_cv rfl rfl rfl rfl rfl (mH_28 hB) (q_named1 (c := 46) hB hu2.2.2.1 (by decide) (fun _ => by omega) (fun v3 a3 j x1 x2 x3 x4 => ?_))
          have hu3 := hu2.nm x3 x4 x2
          refine xP_s rfl rfl rfl ?_
          refine xP_cv rfl rfl rfl rfl rfl (mH_28 hB) (q_add (p := dotP) hB hu3.2.2.2.2.1 (by omega) ⟨by decide, rfl, fun h => absurd h (by decide), fun _ => ⟨j, x1, rfl⟩, rfl, by decide⟩ (fun v4 a4 u1 u2 u3 => ?_))
          have hu4 := hu3.ad u2 u3 u1
          refine xP_s rfl rfl rfl ?_
          refine xP_s rfl rfl rfl ?_
          refine xP_s rfl rfl rfl ?_
          refine xP_s rfl rfl rfl ?_
          refine xP_s rfl rfl rfl ?_
          refine xP_cv rfl rfl rfl rfl rfl (mH_28 hB) (q_push (pu := 3) (ow := 0) (x1 := 999) (s := (nx s).2.2.2) (N0 := N0) (Q0 := Q0) (v0 := v) (a0 := a) hB hu4 ⟨e, by rw [u2 27 (by decide), x3 27 (by decide)]; exact g27, q1, q2⟩ (by rw [u2 28 (by decide), x3 28 (by decide)]; exact g28) (nmA_pre hN) (app_pre hQ) (by decide) (by decide) ((fv1.trans (x3.wide (by decide))).trans (u2.wide (by decide))) ((fa2.trans (x4.wide (by decide))).trans (u3.wide (by decide))) (fun v' a' s' vs' N' Q' F' q1 q2 q3 q4 => ?_) (fun q1 v' a' q2 q3 q4 => ?_))
          · have kk := k1 v' a' s' vs' N' Q' F' q1 q2 q3 q4
            repeat' first
              | refine xP_s rfl rfl rfl ?_
              | refine xP_ret rfl rfl rfl ?_
            exact kk
          · have kk := k0 q1 v' a' q2 q3 q4
            repeat' first
              | refine xP_s rfl rfl rfl ?_
              | refine xP_ret rfl rfl rfl ?_
            exact kk
      · subst e5
        have go := one 93 (by decide) (by decide) (by
          unfold whF
          rw [if_neg (by decide), if_neg (by decide), if_pos rfl])
        repeat' first
          | exact go
          | refine xP_s rfl rfl rfl ?_
      · subst e5
        have go := one 125 (by decide) (by decide) (by
          unfold whF
          rw [if_neg (by decide), if_neg (by decide), if_neg (by decide), if_pos rfl])
        repeat' first
          | exact go
          | refine xP_s rfl rfl rfl ?_
    obtain ⟨_, _, t7⟩ := tkN_4 (nx s).1 hk7
    have tk5 : ∀ k, k ≤ 7 → (tkN k = 5 ↔ k = 5) := by decide
    have hT := toI (tkN (nx s).1) (by omega)
    refine xP_s rfl rfl rfl ?_
    refine xP_zg rfl hB rfl g20 ?_
    refine xP_s rfl rfl rfl ?_
    refine xP_s rfl rfl rfl ?_
    refine xP_if (fun z => ?_) (fun z => ?_)
    · have q := xc_t z
      dsimp only at q
      have h5 : ¬ (nx s).1 = 5 := fun h => q (by rw [(tk5 _ hk7).mpr h]; rfl)
      have es : sgn s = 0 := if_neg h5
      rw [es] at at68
      refine xP_s rfl rfl rfl ?_
      exact at68
    · have q := xc_f z
      dsimp only at q
      have h5 : (nx s).1 = 5 := (tk5 _ hk7).mp (by omega)
      have es : sgn s = (nx s).2.1 := if_pos h5
      rw [es] at at68
      refine xP_s rfl rfl rfl ?_
      refine xP_zg rfl hB rfl (g23 h5) ?_
      refine xP_s rfl rfl rfl ?_
      exact at68
  refine xP_s rfl rfl rfl ?_
  refine xP_s rfl rfl rfl ?_
  refine xP_s rfl rfl rfl ?_
  refine xP_s rfl rfl rfl ?_
  refine xP_if (fun z => ?_) (fun z => ?_)
  · have q := xc_t z
    dsimp only at q
    exact lef (Or.inl (by omega))
  · have q := xc_f z
    dsimp only at q
    refine xP_s rfl rfl rfl ?_
    refine xP_s rfl rfl rfl ?_
    refine xP_s rfl rfl rfl ?_
    refine xP_if (fun z => ?_) (fun z => ?_)
    · have q2 := xc_t z
      dsimp only at q2
      exact rest (by omega)
    · have q2 := xc_f z
      dsimp only at q2
      exact lef (Or.inr (by omega))
end NJ
