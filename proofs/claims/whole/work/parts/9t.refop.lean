-- the reference: op
theorem opX_some {sl : List xSl} {b : Bool} {key : Int64} : (opX b sl key).isSome = (fnd b key sl 0).isSome := by
  unfold opX slE
  cases hf : fnd b key sl 0 with
  | none => rfl
  | some j =>
    obtain ⟨e, h1, _⟩ := fnd_0 hf
    show (sl[j]?).isSome = true
    rw [h1]
    rfl
theorem canS_X {sl : List xSl} {ty : Nat} {key : Int64} : canS sl ty key = (match opX (isPre ty) sl key with
    | some e => isPost e.2.2 == isPost ty
    | none => decide (sl.length < 25)) := by
  unfold canS opX slE
  cases hf : fnd (isPre ty) key sl 0 with
  | none => rfl
  | some j =>
    obtain ⟨e, h1, _⟩ := fnd_0 hf
    show (match sl[j]? with
      | some e => isPost e.2.2 == isPost ty
      | none => false) = (match sl[j]? with
      | some e => isPost e.2.2 == isPost ty
      | none => decide (sl.length < 25))
    rw [h1]
section OP
variable {sc : xSc} {d g : Nat} {B C : List xC} {v : Nat → Int32} {a : Nat → Nat → Int32} {o : Nat → Int64} {sl sl' : List xSl} {P : xO → xH → Prop} {key s : Int64} {M p ty : Nat} {n kk : Int32} {pre has turns : Bool}
/-- what op leaves -/
def zOl (B C : List xC) (v : Nat → Int32) (a : Nat → Nat → Int32) (sl' : List xSl) (g : Nat) (P : xO → xH → Prop) (c : Int32) : Prop := ∀ v' a' o', zOC v' a' o' sl' → vS v v' [0, 3] → v' 0 = c → aS a a' [31, 32, 33, 34] → P (.inl none) (mH B C v' a' o', g)
set_option maxRecDepth 100000 in
theorem q_opEnd (hB : B.length = 28) (hv0 : v 0 = 0) (h : zOC v a o sl) (h44 : ¬ key = 44) (h1 : ¬ key = -1) (h0 : ¬ key = 0) (hX : ∀ b key', opX b sl' key' = opN sl p ty key b key') (hpr : ∀ e ∈ sl', 1 ≤ e.2.1 ∧ e.2.1 ≤ 1200 ∧ e.2.2 ≤ 6)
    (hlen : sl'.length + (if (opX (isPre ty) sl key).isSome = true then 1 else 0) = sl.length + (if p = 0 then 0 else 1)) (hl : sl'.length ≤ 25) (hty : ty ≤ 6) (hp : p ≤ 1200)
    (hno : p = 0 → kk.toInt < 0 → sl' = sl)
    (k : zOl B C v a sl' g P 0) : xP sc (d + 2) 151 209 [(0, .ref 28), (1, .int (nI p)), (2, .int (nI ty)), (3, .long s), (5, .int n), (6, .long key), (8, .int (xb pre)), (9, .int kk), (10, .int (xb has)), (11, .int (xb turns))] [] (mH B C v a o, g) P := by
  have z0 : (0 : Int32).toInt = 0 := rfl
  have hP := toI p (by omega)
  have tl : xP sc (d + 2) 151 218 [(0, .ref 28), (1, .int (nI p)), (2, .int (nI ty)), (3, .long s), (5, .int n), (6, .long key), (8, .int (xb pre)), (9, .int kk), (10, .int (xb has)), (11, .int (xb turns))] [] (mH B C v a o, g) P := by
    refine xP_s rfl rfl rfl ?_
    refine xP_s rfl rfl rfl ?_
    refine xP_s rfl rfl rfl ?_
    refine xP_s rfl rfl rfl ?_
    refine xP_cv rfl rfl rfl rfl rfl (mH_28 hB) (q_tell hB h h44 h1 h0 hX hpr hlen hl hty (fun v' a' o' w1 w2 w3 => ?_))
    refine xP_ret rfl rfl rfl ?_
    exact k v' a' o' w1 (w2.wide (by decide)) ((w2 0 (by decide)).trans hv0) w3
  refine xP_s rfl rfl rfl ?_
  refine xP_s rfl rfl rfl ?_
  refine xP_if (fun hq => ?_) (fun hq => ?_)
  · exact tl
  · have z := xc_f hq
    dsimp only at z
    refine xP_s rfl rfl rfl ?_
    refine xP_s rfl rfl rfl ?_
    refine xP_if (fun hq2 => ?_) (fun hq2 => ?_)
    · have z2 := xc_t hq2
      dsimp only at z2
      refine xP_ret rfl rfl rfl ?_
      exact k v a o (by rw [hno (by omega) (by omega)]; exact h) (vS.refl _ _) hv0 (aS.refl _ _)
    · exact tl
set_option maxRecDepth 100000 in
theorem q_opMid (hB : B.length = 28) (hv0 : v 0 = 0) (h : zOb M v a o sl) (hs : sumW (wtO a) M + 1 = sl.length) (hl : sl.length ≤ 25) (hty : ty ≤ 6) (hp : p ≤ 1200) (hpre : pre = isPre ty) (hhas : has = (opX pre sl key).isSome)
    (hkk : has = true → ∃ j, j < M ∧ o j = key ∧ kk = nI j)
    (kc : ¬ p = 0 → canS sl ty key = false → P (.inl none) (mH B C (upd v 0 2) a o, g))
    (k : (p = 0 ∨ canS sl ty key = true) → ∀ turns, xP sc (d + 2) 151 209 [(0, .ref 28), (1, .int (nI p)), (2, .int (nI ty)), (3, .long s), (5, .int n), (6, .long key), (8, .int (xb pre)), (9, .int kk), (10, .int (xb has)), (11, .int (xb turns))] [] (mH B C v a o, g) P) :
    xP sc (d + 2) 151 142 [(0, .ref 28), (1, .int (nI p)), (2, .int (nI ty)), (3, .long s), (5, .int n), (6, .long key), (8, .int (xb pre)), (9, .int kk), (10, .int (xb has))] [] (mH B C v a o, g) P := by
  have z0 : (0 : Int32).toInt = 0 := rfl
  have z24 : (24 : Int32).toInt = 24 := rfl
  have hP := toI p (by omega)
  have hM := h.1
  have h3 := h.2.1
  have eC : cntO a M = sl.length - 1 := by
    rw [cntO_s]
    omega
  have hC := toI (cntO a M) (by omega)
  have hcan := canS_X (sl := sl) (ty := ty) (key := key)
  rw [← hpre] at hcan
  -- behind turns
  have fail : ∀ turns, ¬ p = 0 → canS sl ty key = false → xP sc (d + 2) 151 203 [(0, .ref 28), (1, .int (nI p)), (2, .int (nI ty)), (3, .long s), (5, .int n), (6, .long key), (8, .int (xb pre)), (9, .int kk), (10, .int (xb has)), (11, .int (xb turns))] [] (mH B C v a o, g) P := fun turns q1 q2 => by
    refine xP_s rfl rfl rfl ?_
    refine xP_s rfl rfl rfl ?_
    refine xP_zp rfl hB rfl rfl ?_
    refine xP_ret rfl rfl rfl ?_
    exact kc q1 q2
  have noturn : (p = 0 ∨ has = true → p = 0 ∨ canS sl ty key = true) → xP sc (d + 2) 151 177 [(0, .ref 28), (1, .int (nI p)), (2, .int (nI ty)), (3, .long s), (5, .int n), (6, .long key), (8, .int (xb pre)), (9, .int kk), (10, .int (xb has))] [] (mH B C v a o, g) P := fun q => by
    have go := fun z => k z false
    refine xP_s rfl rfl rfl ?_
    refine xP_s rfl rfl rfl ?_
    refine xP_s rfl rfl rfl ?_
    refine xP_s rfl rfl rfl ?_
    refine xP_if (fun hq => ?_) (fun hq => ?_)
    · cases hq
    · refine xP_s rfl rfl rfl ?_
      refine xP_s rfl rfl rfl ?_
      refine xP_if (fun hq2 => ?_) (fun hq2 => ?_)
      · have y := xc_t hq2
        dsimp only at y
        exact go (Or.inl (by omega))
      · have y := xc_f hq2
        dsimp only at y
        cases hh : has with
        | true =>
          have go := go (q (Or.inr hh))
          rw [hh] at go
          refine xP_s rfl rfl rfl ?_
          refine xP_s rfl rfl rfl ?_
          exact go
        | false =>
          have en : opX pre sl key = none := by
            rw [hh] at hhas
            cases hx : opX pre sl key with
            | none => rfl
            | some e =>
              rw [hx] at hhas
              cases hhas
          rw [en] at hcan
          have hcan : canS sl ty key = decide (sl.length < 25) := hcan
          rw [hh] at go fail
          refine xP_s rfl rfl rfl ?_
          refine xP_s rfl rfl rfl ?_
          refine xP_s rfl rfl rfl ?_
          refine xP_cv rfl rfl rfl rfl rfl (mH_28 hB) (q_operators hB hM h3 ?_)
          refine xP_s rfl rfl rfl ?_
          refine xP_s rfl rfl rfl ?_
          refine xP_if (fun hq3 => ?_) (fun hq3 => ?_)
          · have y3 := xc_t hq3
            dsimp only at y3
            exact go (Or.inr (by rw [hcan]; exact decide_eq_true (by omega)))
          · have y3 := xc_f hq3
            dsimp only at y3
            exact fail false (by omega) (by rw [hcan]; exact decide_eq_false (by omega))
  refine xP_s rfl rfl rfl ?_
  refine xP_s rfl rfl rfl ?_
  refine xP_if (fun hq => ?_) (fun hq => ?_)
  · have y := xc_t hq
    dsimp only at y
    exact noturn (fun _ => Or.inl (by omega))
  · have y := xc_f hq
    dsimp only at y
    cases hpr : pre with
    | true =>
      rw [hpr] at noturn
      refine xP_s rfl rfl rfl ?_
      refine xP_s rfl rfl rfl ?_
      refine noturn (fun z => Or.inr ?_)
      have hz : has = true := z.resolve_left (by omega)
      cases hx : opX pre sl key with
      | none =>
        rw [hz, hx] at hhas
        cases hhas
      | some e =>
        have e1 : isPre e.2.2 = true := by
          have hx' : opP sl key = some e := by rw [opP_X, ← hpr]; exact hx
          exact (h.zO.eP hx').2.2.2
        rw [hx] at hcan
        have hcan : canS sl ty key = (isPost e.2.2 == isPost ty) := hcan
        have e2 : isPre ty = true := by rw [← hpre, hpr]
        have np : ∀ t, isPre t = true → isPost t = false := fun t ht => by
          rw [← Bool.not_eq_true]
          simp only [isPre, isPost, Bool.or_eq_true, decide_eq_true_eq] at ht ⊢
          omega
        rw [hcan, np _ e1, np _ e2]
        rfl
    | false =>
      cases hh : has with
      | false =>
        rw [hpr, hh] at noturn
        refine xP_s rfl rfl rfl ?_
        refine xP_s rfl rfl rfl ?_
        refine xP_s rfl rfl rfl ?_
        refine xP_s rfl rfl rfl ?_
        exact noturn (fun z => absurd z (by simp; omega))
      | true =>
        obtain ⟨j, hj, ej, ek⟩ := hkk hh
        obtain ⟨e, hx⟩ : ∃ e, opX pre sl key = some e := by
          rw [hh] at hhas
          exact Option.isSome_iff_exists.mp hhas.symm
        have hx' : opB sl key = some e := by rw [opB_X, ← hpr]; exact hx
        obtain ⟨t1, t2, t3, t4⟩ := h.zO.eB hx'
        have hT := toI e.2.2 (by omega)
        have hY := toI ty (by omega)
        obtain ⟨_, _, _, _, _, _, e34⟩ := h.2.2.2.1 j hj
        rw [ej] at e34
        have e34 := e34 e hx'
        rw [hx] at hcan
        have hcan : canS sl ty key = (isPost e.2.2 == isPost ty) := hcan
        have t5 : isPre ty = false := by rw [← hpre, hpr]
        have pst : ∀ t, t ≤ 6 → isPre t = false → isPost t = !(decide (t < 3)) := fun t ht hq => by
          have : ∀ t, t < 7 → isPre t = false → isPost t = !(decide (t < 3)) := by decide
          exact this t (by omega) hq
        rw [pst _ t3 t4, pst _ hty t5] at hcan
        rw [hpr, hh, ek] at noturn fail
        rw [ek]
        refine xP_s rfl rfl rfl ?_
        refine xP_s rfl rfl rfl ?_
        refine xP_s rfl rfl rfl ?_
        refine xP_s rfl rfl rfl ?_
        refine xP_s rfl rfl rfl ?_
        refine xP_get rfl (mH_28 hB) rfl ?_
        refine xP_s rfl rfl rfl ?_
        refine xP_zl (n := 64) rfl hB rfl rfl (by omega) e34 ?_
        refine xP_call rfl rfl rfl (q_isInf (b := decide (e.2.2 < 3)) (by rw [decide_eq_true_eq]; omega) ?_)
        refine xP_s rfl rfl rfl ?_
        refine xP_call rfl rfl rfl (q_isInf (b := decide (ty < 3)) (by rw [decide_eq_true_eq]; omega) ?_)
        refine xP_s rfl rfl rfl ?_
        refine xP_if (fun hq2 => ?_) (fun hq2 => ?_)
        · refine noturn (fun _ => Or.inr ?_)
          rw [hcan]
          revert hq2
          cases decide (e.2.2 < 3) <;> cases decide (ty < 3) <;> simp [xb, xcmp]
        · have f := fail true (by omega) (by
            rw [hcan]
            revert hq2
            cases decide (e.2.2 < 3) <;> cases decide (ty < 3) <;> simp [xb, xcmp])
          refine xP_s rfl rfl rfl ?_
          refine xP_s rfl rfl rfl ?_
          refine xP_s rfl rfl rfl ?_
          refine xP_s rfl rfl rfl ?_
          refine xP_s rfl rfl rfl ?_
          exact f
/-- keys that no operator has -/
theorem opn_key (hop : opn (txt s) = true) : ¬ trm s = 44 ∧ ¬ trm s = -1 ∧ ¬ trm s = 0 ∧ ¬ trm s = 46 ∧ ¬ trm s = 23899 ∧ ¬ trm s = 32123 := by
  have key : ∀ l : List Nat, (∀ c ∈ l, c < 256 ∧ c ≠ 0) → l.length ≤ 8 → opn l = false → ¬ trm s = lN (pn l) := fun l h1 h2 h3 q => by
    have := (trm_eq h1 h2).mp q
    rw [this, h3] at hop
    cases hop
  exact ⟨key [44] (by decide) (by decide) (by decide), key [255, 255, 255, 255, 255, 255, 255, 255] (by decide) (by decide) (by decide), key [] (by decide) (by decide) (by decide), key [46] (by decide) (by decide) (by decide), key [91, 93] (by decide) (by decide) (by decide), key [123, 125] (by decide) (by decide) (by decide)⟩
theorem xb_x {b : Bool} : xcmp .eq (xb b) 0 = !b := by cases b <;> rfl
set_option maxHeartbeats 2000000 in
set_option maxRecDepth 100000 in
theorem q_opMain (hB : B.length = 28) (hv0 : v 0 = 0) (h : zOC v a o sl) (hty : ty ≤ 6) (hp : p ≤ 1200) (h44 : ¬ key = 44) (h1 : ¬ key = -1) (h0 : ¬ key = 0) (u : uS sl)
    (kt : p = 0 → zOl B C v a (takeS sl ty key) g P 0)
    (kc : ¬ p = 0 → canS sl ty key = false → P (.inl none) (mH B C (upd v 0 2) a o, g))
    (ko : ¬ p = 0 → canS sl ty key = true → zOl B C v a (tellS sl p ty key) g P 0) : xP sc (d + 2) 151 75 [(0, .ref 28), (1, .int (nI p)), (2, .int (nI ty)), (3, .long s), (5, .int n)] [.long key] (mH B C v a o, g) P := by
  have hh := h
  obtain ⟨M, m1, m2, m3, m4⟩ := h
  have hM := m1.1
  have h3 := m1.2.1
  have z0 : (0 : Int32).toInt = 0 := rfl
  have zm : (-1 : Int32).toInt = -1 := rfl
  have n3 : (3 : Int32).toInt = 3 := rfl
  have n4 : (4 : Int32).toInt = 4 := rfl
  have hT := toI ty (by omega)
  have m7 := m1.2.2.2.2.2.2
  have main : ∀ (kk : Int32) (has : Bool), has = (opX (isPre ty) sl key).isSome → (kk.toInt < 0 → opX (isPre ty) sl key = none) → (has = true → ∃ j, j < M ∧ o j = key ∧ kk = nI j) → xP sc (d + 2) 151 142 [(0, .ref 28), (1, .int (nI p)), (2, .int (nI ty)), (3, .long s), (5, .int n), (6, .long key), (8, .int (xb (isPre ty))), (9, .int kk), (10, .int (xb has))] [] (mH B C v a o, g) P := fun kk has e1 e2 e3 => by
    refine q_opMid hB hv0 m1 m2 m4 hty hp rfl e1 e3 kc (fun hor turns => ?_)
    by_cases hp0 : p = 0
    · obtain ⟨t1, t2, t3⟩ := take_m (ty := ty) (key := key) u
      rw [← opX_some] at t3
      subst hp0
      refine q_opEnd hB hv0 hh h44 h1 h0 (sl' := takeS sl ty key) (fun b key' => take_X u b key') (fun e he => m7 e ((t2 e).mp he).1) (by rw [if_pos rfl, Nat.add_zero]; exact t3) (by omega) hty (by omega) (fun _ hk => ?_) (kt rfl)
      have := e2 hk
      unfold takeS
      have e := opX_some (b := isPre ty) (sl := sl) (key := key)
      rw [this] at e
      cases hf : fnd (isPre ty) key sl 0 with
      | none => rfl
      | some j =>
        rw [hf] at e
        cases e
    · have hcan := hor.resolve_left hp0
      obtain ⟨t1, t2, t3⟩ := tell_m (p := p) u hcan
      rw [← opX_some] at t3
      have hcx := canS_X (sl := sl) (ty := ty) (key := key)
      refine q_opEnd hB hv0 hh h44 h1 h0 (sl' := tellS sl p ty key) (fun b key' => tell_X u hcan hp0 b key') (fun e he => ?_) ?_ ?_ hty hp (fun q => absurd q hp0) (ko hp0 hcan)
      · rcases (t2 e).mp he with q | q
        · rw [q]
          exact ⟨by show 1 ≤ p; omega, hp, hty⟩
        · exact m7 e q.1
      · rw [if_neg hp0, t3]
        cases (opX (isPre ty) sl key).isSome <;> simp
      · rw [t3]
        cases hx : opX (isPre ty) sl key with
        | some e =>
          rw [if_pos (show (some e).isSome = true from rfl)]
          omega
        | none =>
          rw [hx] at hcx
          rw [hcan] at hcx
          have := of_decide_eq_true hcx.symm
          rw [if_neg (by simp)]
          omega
  have opat : ∀ st8, st8 = xb (isPre ty) → xP sc (d + 2) 151 94 [(0, .ref 28), (1, .int (nI p)), (2, .int (nI ty)), (3, .long s), (5, .int n), (6, .long key), (8, .int st8)] [] (mH B C v a o, g) P := fun st8 e8 => by
    rw [e8]
    refine xP_s rfl rfl rfl ?_
    refine xP_s rfl rfl rfl ?_
    refine xP_cv rfl rfl rfl rfl rfl (mH_28 hB) (q_opAt hB hM h3 (fun j hj he => ?_) (fun hn => ?_))
    · have hJ := toI j (by omega)
      obtain ⟨_, _, _, e31, _, e33, _⟩ := m1.2.2.2.1 j hj
      rw [he] at e31 e33
      have lp := (m1.zO.le (key := key)).1
      have lb := (m1.zO.le (key := key)).2
      have pp := (slP_pos m1.zO (key := key)).2
      have pb := (slP_pos m1.zO (key := key)).1
      have hP := toI (slP (opP sl key)) (by omega)
      have hQ := toI (slP (opB sl key)) (by omega)
      have mn : ∀ has, has = (opX (isPre ty) sl key).isSome → xP sc (d + 2) 151 142 [(0, .ref 28), (1, .int (nI p)), (2, .int (nI ty)), (3, .long s), (5, .int n), (6, .long key), (8, .int (xb (isPre ty))), (9, .int (nI j)), (10, .int (xb has))] [] (mH B C v a o, g) P := fun has q => main (nI j) has q (fun q => by omega) (fun _ => ⟨j, hj, he, rfl⟩)
      refine xP_s rfl rfl rfl ?_
      refine xP_s rfl rfl rfl ?_
      refine xP_s rfl rfl rfl ?_
      refine xP_if (fun hq => ?_) (fun hq => ?_)
      · have z := xc_t hq
        dsimp only at z
        omega
      · cases hpre : isPre ty with
        | true =>
          rw [hpre] at mn
          refine xP_s rfl rfl rfl ?_
          refine xP_s rfl rfl rfl ?_
          refine xP_s rfl rfl rfl ?_
          refine xP_get rfl (mH_28 hB) rfl ?_
          refine xP_s rfl rfl rfl ?_
          refine xP_zl (n := 64) rfl hB rfl rfl (by omega) e31 ?_
          refine xP_s rfl rfl rfl ?_
          refine xP_if (fun hq2 => ?_) (fun hq2 => ?_)
          · have z := xc_t hq2
            dsimp only at z
            have mn := mn false (by
              rw [← opP_X]
              cases hx : (opP sl key).isSome with
              | false => rfl
              | true =>
                have := pp.mpr hx
                omega)
            refine xP_s rfl rfl rfl ?_
            refine xP_s rfl rfl rfl ?_
            exact mn
          · have z := xc_f hq2
            dsimp only at z
            have mn := mn true (by
              rw [← opP_X]
              exact (pp.mp (by omega)).symm)
            refine xP_s rfl rfl rfl ?_
            refine xP_s rfl rfl rfl ?_
            refine xP_s rfl rfl rfl ?_
            refine xP_s rfl rfl rfl ?_
            exact mn
        | false =>
          rw [hpre] at mn
          refine xP_s rfl rfl rfl ?_
          refine xP_s rfl rfl rfl ?_
          refine xP_s rfl rfl rfl ?_
          refine xP_get rfl (mH_28 hB) rfl ?_
          refine xP_s rfl rfl rfl ?_
          refine xP_zl (n := 64) rfl hB rfl rfl (by omega) e33 ?_
          refine xP_s rfl rfl rfl ?_
          refine xP_if (fun hq2 => ?_) (fun hq2 => ?_)
          · have z := xc_t hq2
            dsimp only at z
            have mn := mn false (by
              rw [← opB_X]
              cases hx : (opB sl key).isSome with
              | false => rfl
              | true =>
                have := pb.mpr hx
                omega)
            refine xP_s rfl rfl rfl ?_
            refine xP_s rfl rfl rfl ?_
            exact mn
          · have z := xc_f hq2
            dsimp only at z
            have mn := mn true (by
              rw [← opB_X]
              exact (pb.mp (by omega)).symm)
            refine xP_s rfl rfl rfl ?_
            refine xP_s rfl rfl rfl ?_
            refine xP_s rfl rfl rfl ?_
            exact mn
    · have none : opX (isPre ty) sl key = none := by
        have := m1.2.2.2.2.1 key hn
        cases isPre ty with
        | true => exact this.1
        | false => exact this.2 h44
      have mn := main (-1) false (by rw [none]; rfl) (fun _ => none) (fun q => by cases q)
      refine xP_s rfl rfl rfl ?_
      refine xP_s rfl rfl rfl ?_
      refine xP_s rfl rfl rfl ?_
      refine xP_if (fun hq => ?_) (fun hq => ?_)
      · refine xP_s rfl rfl rfl ?_
        refine xP_s rfl rfl rfl ?_
        exact mn
      · have z := xc_f hq
        dsimp only at z
        omega
  refine xP_s rfl rfl rfl ?_
  refine xP_s rfl rfl rfl ?_
  refine xP_s rfl rfl rfl ?_
  refine xP_s rfl rfl rfl ?_
  refine xP_if (fun hq => ?_) (fun hq => ?_)
  · have z := xc_t hq
    dsimp only at z
    have e : isPre ty = true := by
      simp only [isPre, Bool.or_eq_true, decide_eq_true_eq]
      omega
    have op := opat 1 (by rw [e]; rfl)
    refine xP_s rfl rfl rfl ?_
    refine xP_s rfl rfl rfl ?_
    refine xP_s rfl rfl rfl ?_
    exact op
  · have z := xc_f hq
    dsimp only at z
    refine xP_s rfl rfl rfl ?_
    refine xP_s rfl rfl rfl ?_
    refine xP_s rfl rfl rfl ?_
    refine xP_if (fun hq2 => ?_) (fun hq2 => ?_)
    · have z2 := xc_t hq2
      dsimp only at z2
      have e : isPre ty = false := by
        rw [← Bool.not_eq_true]
        simp only [isPre, Bool.or_eq_true, decide_eq_true_eq]
        omega
      have op := opat 0 (by rw [e]; rfl)
      refine xP_s rfl rfl rfl ?_
      refine xP_s rfl rfl rfl ?_
      exact op
    · have z2 := xc_f hq2
      dsimp only at z2
      have e : isPre ty = true := by
        simp only [isPre, Bool.or_eq_true, decide_eq_true_eq]
        omega
      have op := opat 1 (by rw [e]; rfl)
      refine xP_s rfl rfl rfl ?_
      refine xP_s rfl rfl rfl ?_
      refine xP_s rfl rfl rfl ?_
      exact op
set_option maxHeartbeats 2000000 in
set_option maxRecDepth 100000 in
theorem q_op {x y : Int32} (hB : B.length = 28) (h : zOC v a o sl) (u : uS sl)
    (kb : opBad x y s = true → P (.inl none) (mH B C (upd v 0 1) a o, g))
    (kt : opBad x y s = false → x.toInt = 0 → zOl B C v a (takeS sl y.toInt.toNat (trm s)) g P 0)
    (kc : opBad x y s = false → ¬ x.toInt = 0 → canS sl y.toInt.toNat (trm s) = false → P (.inl none) (mH B C (upd (upd v 0 0) 0 2) a o, g))
    (ko : opBad x y s = false → ¬ x.toInt = 0 → canS sl y.toInt.toNat (trm s) = true → zOl B C v a (tellS sl x.toInt.toNat y.toInt.toNat (trm s)) g P 0) : xM1 sc (d + 2) 151 [.ref 28, .int x, .int y, .long s] (mH B C v a o, g) P := by
  have z0 : (0 : Int32).toInt = 0 := rfl
  have z1200 : (1200 : Int32).toInt = 1200 := rfl
  have z6 : (6 : Int32).toInt = 6 := rfl
  have z8 : (8 : Int32).toInt = 8 := rfl
  have hl : (txt s).length ≤ 8 := tx_len s 8 0
  have hI : (nI (txt s).length).toInt = ((txt s).length : Int) := nI_toInt (by omega)
  have bad : opBad x y s = true → xP sc (d + 2) 151 37 [(0, .ref 28), (1, .int x), (2, .int y), (3, .long s), (5, .int (nI (txt s).length))] [.ref 28] (mH B C v a o, g) P := fun q => by
    have kb := kb q
    refine xP_s rfl rfl rfl ?_
    refine xP_s rfl rfl rfl ?_
    refine xP_zp rfl hB rfl rfl ?_
    refine xP_s rfl rfl rfl ?_
    refine xP_zg rfl hB rfl upd_s ?_
    repeat' first
      | refine xP_s rfl rfl rfl ?_
      | refine xP_ret rfl rfl rfl ?_
    exact kb
  have badI : (x.toInt < 0 ∨ 1200 < x.toInt ∨ y.toInt < 0 ∨ 6 < y.toInt) → opBad x y s = true := fun h => by
    unfold opBad
    rw [decide_eq_true h, Bool.true_or]
  unfold xM1
  refine xP_s rfl rfl rfl ?_
  refine xP_call rfl rfl rfl (q_characters ?_)
  refine xP_s rfl rfl rfl ?_
  refine xP_s rfl rfl rfl ?_
  refine xP_s rfl rfl rfl ?_
  refine xP_s rfl rfl rfl ?_
  refine xP_if (fun hc => ?_) (fun hc => ?_)
  · exact bad (badI (Or.inl (xc_t hc)))
  · have r1 : (0 : Int) ≤ x.toInt := xc_f hc
    refine xP_s rfl rfl rfl ?_
    refine xP_s rfl rfl rfl ?_
    refine xP_s rfl rfl rfl ?_
    refine xP_if (fun hc => ?_) (fun hc => ?_)
    · exact bad (badI (Or.inr (Or.inl (xc_t hc))))
    · have r2 : x.toInt ≤ 1200 := xc_f hc
      refine xP_s rfl rfl rfl ?_
      refine xP_s rfl rfl rfl ?_
      refine xP_if (fun hc => ?_) (fun hc => ?_)
      · exact bad (badI (Or.inr (Or.inr (Or.inl (xc_t hc)))))
      · have r3 : (0 : Int) ≤ y.toInt := xc_f hc
        refine xP_s rfl rfl rfl ?_
        refine xP_s rfl rfl rfl ?_
        refine xP_s rfl rfl rfl ?_
        refine xP_if (fun hc => ?_) (fun hc => ?_)
        · exact bad (badI (Or.inr (Or.inr (Or.inr (xc_t hc)))))
        · have r4 : y.toInt ≤ 6 := xc_f hc
          refine xP_s rfl rfl rfl ?_
          refine xP_s rfl rfl rfl ?_
          refine xP_call rfl rfl rfl (q_canBe rfl ?_)
          cases hop : opn (txt s)
          · have bd := bad (by unfold opBad; rw [hop]; simp)
            refine xP_s rfl rfl rfl ?_
            exact bd
          · have hgood : opBad x y s = false := by
              unfold opBad
              rw [hop, decide_eq_false (by omega)]
              rfl
            have ex : x = nI x.toInt.toNat := Int32.toInt_inj.mp (by rw [nI_toInt (by omega)]; omega)
            have ey : y = nI y.toInt.toNat := Int32.toInt_inj.mp (by rw [nI_toInt (by omega)]; omega)
            obtain ⟨k44, k1, k0, _⟩ := opn_key hop
            have hC : zOC (upd v 0 0) a o sl := h
            have ht : pn (txt s) = s.toBitVec.toNat / 256 ^ 0 % 256 ^ (txt s).length := pn_tx s 8 0
            rw [Nat.pow_zero, Nat.div_one] at ht
            have conv : ∀ sl', zOl B C v a sl' g P 0 → zOl B C (upd v 0 0) a sl' g P 0 := fun sl' q v' a' o' w1 w2 w3 w4 => q v' a' o' w1 (((vS.u v 0 0).wide (by decide)).trans w2) w3 w4
            have go := q_opMain (sc := sc) (d := d) (g := g) (P := P) (B := B) (C := C) (v := upd v 0 0) (a := a) (o := o) (sl := sl) (ty := y.toInt.toNat) (p := x.toInt.toNat) (key := trm s) (s := s) (n := nI (txt s).length) hB upd_s hC (by omega) (by omega) k44 k1 k0 u (fun q => conv _ (kt hgood (by omega))) (fun q1 q2 => kc hgood (by omega) q2) (fun q1 q2 => conv _ (ko hgood (by omega) q2))
            rw [← ex, ← ey] at go
            refine xP_s rfl rfl rfl ?_
            refine xP_s rfl rfl rfl ?_
            refine xP_zp rfl hB rfl rfl ?_
            refine xP_s rfl rfl rfl ?_
            refine xP_zg rfl hB rfl upd_s ?_
            refine xP_s rfl rfl rfl ?_
            refine xP_s rfl rfl rfl ?_
            refine xP_s rfl rfl rfl ?_
            refine xP_s rfl rfl rfl ?_
            refine xP_if (fun hc => ?_) (fun hc => ?_)
            · have hz := xc_t hc
              dsimp only at hz
              have e := x_and s (i := (txt s).length) (by omega)
              unfold trm at go
              rw [ht, ← e] at go
              refine xP_s rfl rfl rfl ?_
              refine xP_s rfl rfl rfl ?_
              refine xP_s rfl rfl rfl ?_
              refine xP_s rfl rfl rfl ?_
              refine xP_s rfl rfl rfl ?_
              refine xP_s rfl rfl rfl ?_
              refine xP_s rfl rfl rfl ?_
              refine xP_s rfl rfl rfl ?_
              refine xP_s rfl rfl rfl ?_
              exact go
            · have hz := xc_f hc
              dsimp only at hz
              have e : (txt s).length = 8 := by omega
              unfold trm at go
              have ee : lN (pn (txt s)) = s := by rw [ht, e, Nat.mod_eq_of_lt (by exact s.toBitVec.isLt), lN_bvs]
              rw [ee] at go
              refine xP_s rfl rfl rfl ?_
              refine xP_s rfl rfl rfl ?_
              exact go
set_option maxRecDepth 100000 in
theorem q_thrown (hB : B.length = 28) {x : Int32} (hx : v 0 = x) (k : P (.inl (some (.int x))) (mH B C v a o, g)) : xM1 sc d 131 [.ref 28] (mH B C v a o, g) P := by
  unfold xM1
  refine xP_s rfl rfl rfl ?_
  refine xP_zg rfl hB rfl hx ?_
  refine xP_ret rfl rfl rfl ?_
  exact k
end OP
