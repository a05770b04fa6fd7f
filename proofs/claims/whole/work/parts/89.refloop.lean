-- the reference: the loop of read
section NM
variable {sc : xSc} {d g : Nat} {B C : List xC} {o : Nat → Int64} {P : xO → xH → Prop} {t : List Nat} {sl : List xSl} {al : List Nat → Prop} {N0 : List (List Nat)} {Q0 : List xIt} {K c : Nat}
set_option maxHeartbeats 4000000 in
set_option maxRecDepth 100000 in
theorem q_readLoop {x1 x2 x3 : Int32} {v0 : Nat → Int32} {a0 : Nat → Nat → Int32} {r : Option xGS} (hB : B.length = 28) (hgd : ∀ c ∈ t, 32 ≤ c ∧ c ≤ 126) (hfx : ∀ u ∈ fixL, al u) (hsl : ∀ e ∈ sl, ¬ e.1 = 0) (h44 : ∀ e ∈ sl, e.1 = 44 → e.2.2 = 1) (hroom : ∀ N : List (List Nat), N.Nodup → (∀ u ∈ N, al u) → ∀ Q s, cnN N s ≤ Q + c → Q ≤ K → N.length + 4 ≤ 1500 ∧ ltN N + 60 ≤ 4600) (hK : K ≤ 900)
    (k1 : ∀ v' a' s' vs' N' Q' F', r = some (s', vs', N', Q', F') → zS t sl v' a' o s' vs' N' Q' F' → zI al N0 Q0 K c s' vs' N' Q' F' → vS v0 v' vR → aS a0 a' aR → xP sc (d + 6) 177 49 [(0, .ref 28), (1, .int x1), (2, .int x2), (3, .int x3)] [] (mH B C v' a' o, g) P)
    (k0 : r = none → ∀ v' a', zBd t sl v' a' o N0 Q0 → vS v0 v' vR → aS a0 a' aR → xP sc (d + 6) 177 49 [(0, .ref 28), (1, .int x1), (2, .int x2), (3, .int x3)] [] (mH B C v' a' o, g) P) :
    ∀ (n : Nat) (s : List Nat) (vs N : List (List Nat)) (Q : List xIt) (F : List xFr) (v : Nat → Int32) (a : Nat → Nat → Int32), RC sl n (s, vs, N, Q, F) r → zS t sl v a o s vs N Q F → zI al N0 Q0 K c s vs N Q F → vS v0 v vR → aS a0 a aR → xP sc (d + 6) 177 49 [(0, .ref 28), (1, .int x1), (2, .int x2), (3, .int x3)] [] (mH B C v a o, g) P
  | 0, s, vs, N, Q, F, v, a, hr, hS, hI, hv, ha => k1 v a s vs N Q F hr hS hI hv ha
  | n + 1, s, vs, N, Q, F, v, a, hr, hS, hI, hv, ha => by
    have ih := q_readLoop hB hgd hfx hsl h44 hroom hK k1 k0 n
    by_cases hF : F = []
    · subst hF
      have hr' : RC sl n (s, vs, N, Q, []) r := hr
      exact ih s vs N Q [] v a hr' hS hI hv ha
    · obtain ⟨G, f, eF⟩ := split_l hF
      subst eF
      have hS' := hS
      have hI' := hI
      obtain ⟨hu, ⟨p, e27, hd, hp⟩, h28⟩ := hS
      obtain ⟨i1, i2, i3, i4, i5, i6, i7, i8, i9⟩ := hI
      have itp := i3.top
      have hrm : rmS s vs N Q := by
        obtain ⟨r1, r2⟩ := hroom N i6 i7 Q.length s i9 (by omega)
        exact ⟨by omega, r1, r2, by omega⟩
      have htop := hu.2.2.2.2.2.top
      have hql := hu.2.2.2.2.1.2.1
      have em : nI (G.length + 1) - 1 = nI G.length := nIm1 (n := G.length + 1) (by omega)
      have hGl := toI (G.length + 1) (by omega)
      have c0 : (0 : Int32).toInt = 0 := rfl
      refine xP_s rfl rfl rfl ?_
      refine xP_zg rfl hB rfl htop.1 ?_
      refine xP_s rfl rfl rfl ?_
      refine xP_if (fun z => ?_) (fun z => ?_)
      · have q := xc_t z
        dsimp only at q
        omega
      · refine xP_s rfl rfl rfl ?_
        refine xP_zg rfl hB rfl h28 ?_
        refine xP_s rfl rfl rfl ?_
        refine xP_s rfl rfl rfl ?_
        refine xP_get rfl (mH_28 hB) rfl ?_
        refine xP_s rfl rfl rfl ?_
        refine xP_zg rfl hB rfl htop.1 ?_
        refine xP_s rfl rfl rfl ?_
        refine xP_s rfl rfl rfl ?_
        rw [em]
        refine xP_zl (n := 32) rfl hB rfl rfl (by omega) rfl ?_
        refine xP_s rfl rfl rfl ?_
        refine xP_if (fun z2 => ?_) (fun z2 => ?_)
        · have q2 := xc_t z2
          dsimp only at q2
          have hst := stF_g (sl := sl) (s := s) (vs := vs) (N := N) (Q := Q) (F := G) (f := f) (by omega)
          unfold RC at hr
          rw [hst] at hr
          refine xP_s rfl rfl rfl ?_
          refine xP_cv rfl rfl rfl rfl rfl (mH_28 hB) (q_goOn (N0 := N0) (Q0 := Q0) hB hS' hgd ⟨itp.2.1, itp.1⟩ itp.2.2.1 (fun h2 => ?_) hrm i1 i2 (fun v' a' s' vs' N' Q' F' q1 q2 q3 q4 => ?_) (fun q1 v' a' q2 q3 q4 => ?_))
          · obtain ⟨g1, g2, g3⟩ := itp.2.2.2 h2
            have hl : f.2.2.2.2 < Q.length := by omega
            refine ⟨Q[f.2.2.2.2], List.getElem?_eq_getElem hl, ?_, g1⟩
            unfold mny at g3
            rw [List.getElem?_eq_getElem hl] at g3
            exact g3
          · rw [q1] at hr
            refine xP_s rfl rfl rfl ?_
            exact ih s' vs' N' Q' F' v' a' hr q2 (goF_I hfx hsl h44 hI' q1) (hv.trans q3) (ha.trans q4)
          · rw [q1] at hr
            refine xP_s rfl rfl rfl ?_
            exact k0 hr v' a' q2 (hv.trans q3) (ha.trans q4)
        · have q2 := xc_f z2
          dsimp only at q2
          have hst := stF_b (sl := sl) (s := s) (vs := vs) (N := N) (Q := Q) (F := G) (f := f) (by omega)
          unfold RC at hr
          rw [hst] at hr
          refine xP_s rfl rfl rfl ?_
          refine xP_cv rfl rfl rfl rfl rfl (mH_28 hB) (q_begin (N0 := N0) (Q0 := Q0) hB hS' hgd hrm i1 i2 (fun v' a' s' vs' N' Q' F' q1 q2 q3 q4 => ?_) (fun q1 v' a' q2 q3 q4 => ?_))
          · rw [q1] at hr
            refine xP_s rfl rfl rfl ?_
            exact ih s' vs' N' Q' F' v' a' hr q2 (bgF_I hfx hI' q1) (hv.trans q3) (ha.trans q4)
          · rw [q1] at hr
            refine xP_s rfl rfl rfl ?_
            exact k0 hr v' a' q2 (hv.trans q3) (ha.trans q4)
end NM
