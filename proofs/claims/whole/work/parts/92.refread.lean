-- the reference: read
def zM (v : Nat → Int32) (a : Nat → Nat → Int32) (Ts : List (List xIt)) : Prop := v 14 = nI Ts.length ∧ Ts.length ≤ 40 ∧ ∀ i, i ≤ Ts.length → a 38 i = nI (Ts.take i).flatten.length
theorem zM.same {v v' : Nat → Int32} {a a' : Nat → Nat → Int32} {Ts : List (List xIt)} {l m : List Nat} (h : zM v a Ts) (hv : vS v v' l) (ha : aS a a' m) (h1 : 14 ∉ l) (h2 : 38 ∉ m) : zM v' a' Ts := by
  unfold zM at h ⊢
  rw [hv 14 h1, ha 38 h2]
  exact h
/-- all the reference keeps -/
def zW (t : List Nat) (sl : List xSl) (v : Nat → Int32) (a : Nat → Nat → Int32) (o : Nat → Int64) (N : List (List Nat)) (Ts : List (List xIt)) : Prop := zT v a t ∧ zO v a o sl ∧ zN v a N ∧ zQ v a N Ts.flatten ∧ zM v a Ts
theorem nd_of : ∀ {N : List (List Nat)}, (∀ (i j : Nat) (u : List Nat), N[i]? = some u → N[j]? = some u → i = j) → N.Nodup
  | [], h => List.nodup_nil
  | w :: r, h => by
    rw [List.nodup_cons]
    refine ⟨fun hm => ?_, nd_of (fun i j u hi hj => ?_)⟩
    · obtain ⟨j, hj⟩ := List.mem_iff_getElem?.mp hm
      have := h 0 (j + 1) w rfl (by rw [List.getElem?_cons_succ]; exact hj)
      omega
    · have := h (i + 1) (j + 1) u (by rw [List.getElem?_cons_succ]; exact hi) (by rw [List.getElem?_cons_succ]; exact hj)
      omega
section NP
variable {sc : xSc} {d g : Nat} {B C : List xC} {o : Nat → Int64} {P : xO → xH → Prop} {v v' : Nat → Int32} {a a' : Nat → Nat → Int32} {N N0 : List (List Nat)} {Q Q0 : List xIt} {t : List Nat} {sl : List xSl}
theorem zN.back (h : zN v a N) (hN : ∃ M, N = N0 ++ M) (h9 : v' 9 = nI N0.length) (h12 : v' 12 = nI (ltN N0)) : zN v' a N0 := by
  obtain ⟨M, e⟩ := hN
  obtain ⟨n1, n2, n3, n4, n6, n5⟩ := h
  rw [e, List.length_append] at n3
  rw [e, ltN_app] at n4
  have up : ∀ (i : Nat) (u : List Nat), N0[i]? = some u → N[i]? = some u := fun i u hi => by
    rw [e, List.getElem?_append_left (List.getElem?_eq_some_iff.mp hi).1]
    exact hi
  refine ⟨h9, h12, by omega, by omega, fun i j u hi hj => n6 i j u (up i u hi) (up j u hj), fun i w hw => ?_⟩
  have hi := (List.getElem?_eq_some_iff.mp hw).1
  have q := n5 i w (up i w hw)
  have eo : ofN N i = ofN N0 i := by
    unfold ofN
    rw [e, List.take_append_of_le_length (by omega)]
  rw [eo] at q
  exact q
theorem zQ.back (h0 : zQ v a N0 Q0) (h : zQ v' a' N Q) (hn : zN v' a' N) (hN : ∃ M, N = N0 ++ M) (hQ : ∃ R, Q = Q0 ++ R) {v2 : Nat → Int32} (h16 : v2 16 = nI Q0.length) : zQ v2 a' N0 Q0 := by
  obtain ⟨M, e⟩ := hN
  obtain ⟨R, eQ⟩ := hQ
  refine ⟨h16, h0.2.1, fun i p hp => ?_⟩
  obtain ⟨z1, z2, z3, z4, z5, z6⟩ := h.2.2 i p (by
    rw [eQ, List.getElem?_append_left (List.getElem?_eq_some_iff.mp hp).1]
    exact hp)
  obtain ⟨_, _, _, y4, _, _⟩ := h0.2.2 i p hp
  refine ⟨z1, z2, z3, fun q => ?_, z5, z6⟩
  obtain ⟨j, g1, g2⟩ := z4 q
  obtain ⟨j0, f1, _⟩ := y4 q
  have f2 : N[j0]? = some p.2.2.1 := by
    rw [e, List.getElem?_append_left (List.getElem?_eq_some_iff.mp f1).1]
    exact f1
  have := hn.2.2.2.2.1 j j0 _ g1 f2
  subst this
  exact ⟨j, f1, g2⟩
-- what is left of the text is moved to the front
set_option maxRecDepth 100000 in
theorem q_shift {x1 x2 x3 x4 : Int32} {e : Nat} (hB : B.length = 28) (h22 : v 22 = nI e) (h1 : v 1 = nI t.length) (h120 : t.length ≤ 120) (he : 1 ≤ e) : ∀ (m k : Nat) (a' : Nat → Nat → Int32), k + m = t.length → e ≤ k → aS a a' [29] → (∀ i, i < k - e → a' 29 i = a 29 (e + i)) → (∀ i, k ≤ i → a' 29 i = a 29 i) →
    (∀ a2, aS a a2 [29] → (∀ i, i < t.length - e → a2 29 i = a 29 (e + i)) → xP sc d 177 274 [(0, .ref 28), (1, .int x1), (2, .int x2), (3, .int x3), (4, .int x4)] [] (mH B C v a2 o, g) P) →
    xP sc d 177 240 [(0, .ref 28), (1, .int x1), (2, .int x2), (3, .int x3), (4, .int x4), (5, .int (nI k))] [] (mH B C v a' o, g) P
  | 0, k, a', hm, hk, ha, hl, hr, kk => by
    have hK := toI k (by omega)
    have hL := toI t.length (by omega)
    have ek : k = t.length := by omega
    have k2 := xP_more [(5, .int (nI k))] rfl (kk a' ha (fun i hi => hl i (by omega)))
    refine xP_s rfl rfl rfl ?_
    refine xP_s rfl rfl rfl ?_
    refine xP_zg rfl hB rfl h1 ?_
    refine xP_s rfl rfl rfl ?_
    refine xP_if (fun z => ?_) (fun z => ?_)
    · exact k2
    · have q := xc_f z
      dsimp only at q
      omega
  | m + 1, k, a', hm, hk, ha, hl, hr, kk => by
    have hK := toI k (by omega)
    have hL := toI t.length (by omega)
    have es : nI k - nI e = nI (k - e) := nI_subN hk
    have go := q_shift (x1 := x1) (x2 := x2) (x3 := x3) (x4 := x4) hB h22 h1 h120 he m (k + 1) (uA a' 29 (upd (a' 29) (k - e) (a' 29 k))) (by omega) (by omega) (ha.trans (aS.u _ _ _)) (fun i hi => by
      rw [uA_s]
      by_cases h : i = k - e
      · rw [h, upd_s, hr k (Nat.le_refl _)]
        congr 1
        omega
      · rw [upd_n h]
        exact hl i (by omega)) (fun i hi => by
      rw [uA_s, upd_n (by omega)]
      exact hr i (by omega)) kk
    rw [← nI_p1 k] at go
    refine xP_s rfl rfl rfl ?_
    refine xP_s rfl rfl rfl ?_
    refine xP_zg rfl hB rfl h1 ?_
    refine xP_s rfl rfl rfl ?_
    refine xP_if (fun z => ?_) (fun z => ?_)
    · have q := xc_t z
      dsimp only at q
      omega
    · refine xP_s rfl rfl rfl ?_
      refine xP_get rfl (mH_28 hB) rfl ?_
      refine xP_s rfl rfl rfl ?_
      refine xP_s rfl rfl rfl ?_
      refine xP_zg rfl hB rfl h22 ?_
      refine xP_s rfl rfl rfl ?_
      rw [es]
      refine xP_s rfl rfl rfl ?_
      refine xP_get rfl (mH_28 hB) rfl ?_
      refine xP_s rfl rfl rfl ?_
      refine xP_zl (n := 120) rfl hB rfl rfl (by omega) rfl ?_
      refine xP_zs (n := 120) rfl hB rfl rfl (by omega) ?_
      refine xP_s rfl rfl rfl ?_
      refine xP_s rfl rfl rfl ?_
      exact go
set_option maxRecDepth 100000 in
theorem q_refuse {x : Int32} (hB : B.length = 28) (k : P (.inl (some (.int 0))) (mH B C (upd v 0 x) a o, g)) : xM1 sc d 132 [.ref 28, .int x] (mH B C v a o, g) P := by
  unfold xM1
  refine xP_s rfl rfl rfl ?_
  refine xP_s rfl rfl rfl ?_
  refine xP_zp rfl hB rfl rfl ?_
  repeat' first
    | refine xP_s rfl rfl rfl ?_
    | refine xP_ret rfl rfl rfl ?_
  exact k
end NP
