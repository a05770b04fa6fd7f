-- the reference: op
theorem opX_some {sl : List xSl} {b : Bool} {key : Int64} : (opX b sl key).isSome = (fnd b key sl 0).isSome := by
  unfold opX slE
  cases hf : fnd b key sl 0 with
  | none => rfl
  | some j =>
    obtain ⟨e, h1, _⟩ := fnd_0 hf
    show (sl[j]?).isSome = true
    rw [h1]
    rfl
theorem canS_X {sl : List xSl} {ty : Nat} {key : Int64} : canS sl ty key = (match opX (isPre ty) sl key with
    | some e => isPost e.2.2 == isPost ty
    | none => decide (sl.length < 25)) := by
  unfold canS opX slE
  cases hf : fnd (isPre ty) key sl 0 with
  | none => rfl
  | some j =>
    obtain ⟨e, h1, _⟩ := fnd_0 hf
    show (match sl[j]? with
      | some e => isPost e.2.2 == isPost ty
      | none => false) = (match sl[j]? with
      | some e => isPost e.2.2 == isPost ty
      | none => decide (sl.length < 25))
    rw [h1]
section OP
variable {sc : xSc} {d g : Nat} {B C : List xC} {v : Nat → Int32} {a : Nat → Nat → Int32} {o : Nat → Int64} {sl sl' : List xSl} {P : xO → xH → Prop} {key s : Int64} {M p ty : Nat} {n kk : Int32} {pre has turns : Bool}
/-- what op leaves -/
def zOl (B C : List xC) (v : Nat → Int32) (a : Nat → Nat → Int32) (sl' : List xSl) (g : Nat) (P : xO → xH → Prop) (c : Int32) : Prop := ∀ v' a' o', zOC v' a' o' sl' → vS v v' [0, 3] → v' 0 = c → aS a a' [31, 32, 33, 34] → P (.inl none) (mH B C v' a' o', g)
set_option maxRecDepth 100000 in
theorem q_opEnd (hB : B.length = 28) (hv0 : v 0 = 0) (h : zOC v a o sl) (h44 : ¬ key = 44) (h1 : ¬ key = -1) (h0 : ¬ key = 0) (hX : ∀ b key', opX b sl' key' = opN sl p ty key b key') (hpr : ∀ e ∈ sl', 1 ≤ e.2.1 ∧ e.2.1 ≤ 1200 ∧ e.2.2 ≤ 6)
    (hlen : sl'.length + (if (opX (isPre ty) sl key).isSome = true then 1 else 0) = sl.length + (if p = 0 then 0 else 1)) (hl : sl'.length ≤ 25) (hty : ty ≤ 6) (hp : p ≤ 1200)
    (hno : p = 0 → kk.toInt < 0 → sl' = sl)
    (k : zOl B C v a sl' g P 0) : xP sc (d + 2) 151 209 [(0, .ref 28), (1, .int (nI p)), (2, .int (nI ty)), (3, .long s), (5, .int n), (6, .long key), (8, .int (xb pre)), (9, .int kk), (10, .int (xb has)), (11, .int (xb turns))] [] (mH B C v a o, g) P := by
  have z0 : (0 : Int32).toInt = 0 := rfl
  have hP := toI p (by omega)
  have tl : xP sc (d + 2) 151 218 [(0, .ref 28), (1, .int (nI p)), (2, .int (nI ty)), (3, .long s), (5, .int n), (6, .long key), (8, .int (xb pre)), (9, .int kk), (10, .int (xb has)), (11, .int (xb turns))] [] (mH B C v a o, g) P := by
    refine xP_s rfl rfl rfl ?_
    refine xP_s rfl rfl rfl ?_
    refine xP_s rfl rfl rfl ?_
    refine xP_s rfl rfl rfl ?_
    refine xP_cv rfl rfl rfl rfl rfl (mH_28 hB) (q_tell hB h h44 h1 h0 hX hpr hlen hl hty (fun v' a' o' w1 w2 w3 => ?_))
    refine xP_ret rfl rfl rfl ?_
    exact k v' a' o' w1 (w2.wide (by decide)) ((w2 0 (by decide)).trans hv0) w3
  refine xP_s rfl rfl rfl ?_
  refine xP_s rfl rfl rfl ?_
  refine xP_if (fun hq => ?_) (fun hq => ?_)
  · exact tl
  · have z := xc_f hq
    dsimp only at z
    refine xP_s rfl rfl rfl ?_
    refine xP_s rfl rfl rfl ?_
    refine xP_if (fun hq2 => ?_) (fun hq2 => ?_)
    · have z2 := xc_t hq2
      dsimp only at z2
      refine xP_ret rfl rfl rfl ?_
      exact k v a o (by rw [hno (by omega) (by omega)]; exact h) (vS.refl _ _) hv0 (aS.refl _ _)
    · exact tl
set_option maxRecDepth 100000 in
theorem q_opMid (hB : B.length = 28) (hv0 : v 0 = 0) (h : zOb M v a o sl) (hs : sumW (wtO a) M + 1 = sl.length) (hl : sl.length ≤ 25) (hty : ty ≤ 6) (hp : p ≤ 1200) (hpre : pre = isPre ty) (hhas : has = (opX pre sl key).isSome)
    (hkk : has = true → ∃ j, j < M ∧ o j = key ∧ kk = nI j)
    (kc : ¬ p = 0 → canS sl ty key = false → P (.inl none) (mH B C (upd v 0 2) a o, g))
    (k : (p = 0 ∨ canS sl ty key = true) → ∀ turns, xP sc (d + 2) 151 209 [(0, .ref 28), (1, .int (nI p)), (2, .int (nI ty)), (3, .long s), (5, .int n), (6, .long key), (8, .int (xb pre)), (9, .int kk), (10, .int (xb has)), (11, .int (xb turns))] [] (mH B C v a o, g) P) :
    xP sc (d + 2) 151 142 [(0, .ref 28), (1, .int (nI p)), (2, .int (nI ty)), (3, .long s), (5, .int n), (6, .long key), (8, .int (xb pre)), (9, .int kk), (10, .int (xb has))] [] (mH B C v a o, g) P := by
  have z0 : (0 : Int32).toInt = 0 := rfl
  have z24 : (24 : Int32).toInt = 24 := rfl
  have hP := toI p (by omega)
  have hM := h.1
  have h3 := h.2.1
  have eC : cntO a M = sl.length - 1 := by
    rw [cntO_s]
    omega
  have hC := toI (cntO a M) (by omega)
  have hcan := canS_X (sl := sl) (ty := ty) (key := key)
  rw [← hpre] at hcan
  -- behind turns
  have fail : ∀ turns, ¬ p = 0 → canS sl ty key = false → xP sc (d + 2) 151 203 [(0, .ref 28), (1, .int (nI p)), (2, .int (nI ty)), (3, .long s), (5, .int n), (6, .long key), (8, .int (xb pre)), (9, .int kk), (10, .int (xb has)), (11, .int (xb turns))] [] (mH B C v a o, g) P := fun turns q1 q2 => by
    refine xP_s rfl rfl rfl ?_
    refine xP_s rfl rfl rfl ?_
    refine xP_zp rfl hB rfl rfl ?_
    refine xP_ret rfl rfl rfl ?_
    exact kc q1 q2
  have noturn : (p = 0 ∨ has = true → p = 0 ∨ canS sl ty key = true) → xP sc (d + 2) 151 177 [(0, .ref 28), (1, .int (nI p)), (2, .int (nI ty)), (3, .long s), (5, .int n), (6, .long key), (8, .int (xb pre)), (9, .int kk), (10, .int (xb has))] [] (mH B C v a o, g) P := fun q => by
    have go := fun z => k z false
    refine xP_s rfl rfl rfl ?_
    refine xP_s rfl rfl rfl ?_
    refine xP_s rfl rfl rfl ?_
    refine xP_s rfl rfl rfl ?_
    refine xP_if (fun hq => ?_) (fun hq => ?_)
    · cases hq
    · refine xP_s rfl rfl rfl ?_
      refine xP_s rfl rfl rfl ?_
      refine xP_if (fun hq2 => ?_) (fun hq2 => ?_)
      · have y := xc_t hq2
        dsimp only at y
        exact go (Or.inl (by omega))
      · have y := xc_f hq2
        dsimp only at y
        cases hh : has with
        | true =>
          have go := go (q (Or.inr hh))
          rw [hh] at go
          refine xP_s rfl rfl rfl ?_
          refine xP_s rfl rfl rfl ?_
          exact go
        | false =>
          have en : opX pre sl key = none := by
            rw [hh] at hhas
            cases hx : opX pre sl key with
            | none => rfl
            | some e =>
              rw [hx] at hhas
              cases hhas
          rw [en] at hcan
          have hcan : canS sl ty key = decide (sl.length < 25) := hcan
          rw [hh] at go fail
          refine xP_s rfl rfl rfl ?_
          refine xP_s rfl rfl rfl ?_
          refine xP_s rfl rfl rfl ?_
          refine xP_cv rfl rfl rfl rfl rfl (mH_28 hB) (q_operators hB hM h3 ?_)
          refine xP_s rfl rfl rfl ?_
          refine xP_s rfl rfl rfl ?_
          refine xP_if (fun hq3 => ?_) (fun hq3 => ?_)
          · have y3 := xc_t hq3
            dsimp only at y3
            exact go (Or.inr (by rw [hcan]; exact decide_eq_true (by omega)))
          · have y3 := xc_f hq3
            dsimp only at y3
            exact fail false (by omega) (by rw [hcan]; exact decide_eq_false (by omega))
  refine xP_s rfl rfl rfl ?_
  refine xP_s rfl rfl rfl ?_
  refine xP_if (fun hq => ?_) (fun hq => ?_)
  · have y := xc_t hq
    dsimp only at y
    exact noturn (fun _ => Or.inl (by omega))
  · have y := xc_f hq
    dsimp only at y
    cases hpr : pre with
    | true =>
      rw [hpr] at noturn
      refine xP_s rfl rfl rfl ?_
      refine xP_s rfl rfl rfl ?_
      refine noturn (fun z => Or.inr ?_)
      have hz : has = true := z.resolve_left (by omega)
      cases hx : opX pre sl key with
      | none =>
        rw [hz, hx] at hhas
        cases hhas
      | some e =>
        have e1 : isPre e.2.2 = true := by
          have hx' : opP sl key = some e := by rw [opP_X, ← hpr]; exact hx
          exact (h.zO.eP hx').2.2.2
        rw [hx] at hcan
        have hcan : canS sl ty key = (isPost e.2.2 == isPost ty) := hcan
        have e2 : isPre ty = true := by rw [← hpre, hpr]
        have np : ∀ t, isPre t = true → isPost t = false := fun t ht => by
          rw [← Bool.not_eq_true]
          simp only [isPre, isPost, Bool.or_eq_true, decide_eq_true_eq] at ht ⊢
          omega
        rw [hcan, np _ e1, np _ e2]
        rfl
    | false =>
      cases hh : has with
      | false =>
        rw [hpr, hh] at noturn
        refine xP_s rfl rfl rfl ?_
        refine xP_s rfl rfl rfl ?_
        refine xP_s rfl rfl rfl ?_
        refine xP_s rfl rfl rfl ?_
        exact noturn (fun z => absurd z (by simp; omega))
      | true =>
        obtain ⟨j, hj, ej, ek⟩ := hkk hh
        obtain ⟨e, hx⟩ : ∃ e, opX pre sl key = some e := by
          rw [hh] at hhas
          exact Option.isSome_iff_exists.mp hhas.symm
        have hx' : opB sl key = some e := by rw [opB_X, ← hpr]; exact hx
        obtain ⟨t1, t2, t3, t4⟩ := h.zO.eB hx'
        have hT := toI e.2.2 (by omega)
        have hY := toI ty (by omega)
        obtain ⟨_, _, _, _, _, _, e34⟩ := h.2.2.2.1 j hj
        rw [ej] at e34
        have e34 := e34 e hx'
        rw [hx] at hcan
        have hcan : canS sl ty key = (isPost e.2.2 == isPost ty) := hcan
        have t5 : isPre ty = false := by rw [← hpre, hpr]
        have pst : ∀ t, t ≤ 6 → isPre t = false → isPost t = !(decide (t < 3)) := fun t ht hq => by
          have : ∀ t, t < 7 → isPre t = false → isPost t = !(decide (t < 3)) := by decide
          exact this t (by omega) hq
        rw [pst _ t3 t4, pst _ hty t5] at hcan
        rw [hpr, hh, ek] at noturn fail
        rw [ek]
        refine xP_s rfl rfl rfl ?_
        refine xP_s rfl rfl rfl ?_
        refine xP_s rfl rfl rfl ?_
        refine xP_s rfl rfl rfl ?_
        refine xP_s rfl rfl rfl ?_
        refine xP_get rfl (mH_28 hB) rfl ?_
        refine xP_s rfl rfl rfl ?_
        refine xP_zl (n := 64) rfl hB rfl rfl (by omega) e34 ?_
        refine xP_call rfl rfl rfl (q_isInf (b := decide (e.2.2 < 3)) (by rw [decide_eq_true_eq]; omega) ?_)
        refine xP_s rfl rfl rfl ?_
        refine xP_call rfl rfl rfl (q_isInf (b := decide (ty < 3)) (by rw [decide_eq_true_eq]; omega) ?_)
        refine xP_s rfl rfl rfl ?_
        refine xP_if (fun hq2 => ?_) (fun hq2 => ?_)
        · refine noturn (fun _ => Or.inr ?_)
          rw [hcan]
          revert hq2
          cases decide (e.2.2 < 3) <;> cases decide (ty < 3) <;> simp [xb, xcmp]
        · have f := fail true (by omega) (by
            rw [hcan]
            revert hq2
            cases decide (e.2.2 < 3) <;> cases decide (ty < 3) <;> simp [xb, xcmp])
          refine xP_s rfl rfl rfl ?_
          refine xP_s rfl rfl rfl ?_
          refine xP_s rfl rfl rfl ?_
          refine xP_s rfl rfl rfl ?_
          refine xP_s rfl rfl rfl ?_
          exact f
end OP
