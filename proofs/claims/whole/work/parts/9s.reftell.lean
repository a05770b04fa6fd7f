-- the reference: an operator told or taken back
section TL
variable {sc : xSc} {d g : Nat} {B C : List xC} {v : Nat → Int32} {a : Nat → Nat → Int32} {o : Nat → Int64} {sl sl' : List xSl} {P : xO → xH → Prop} {key : Int64} {M k p ty : Nat}
/-- what telling leaves -/
def zTl (B C : List xC) (v : Nat → Int32) (a : Nat → Nat → Int32) (sl' : List xSl) (g : Nat) (P : xO → xH → Prop) : Prop := ∀ v' a' o', zOC v' a' o' sl' → vS v v' [3] → aS a a' [31, 32, 33, 34] → P (.inl none) (mH B C v' a' o', g)
theorem zTl.to {v1 : Nat → Int32} {a1 : Nat → Nat → Int32} (h : zTl B C v a sl' g P) (hv : vS v v1 [3]) (ha : aS a a1 [31, 32, 33, 34]) : zTl B C v1 a1 sl' g P := fun v' a' o' h1 h2 h3 => h v' a' o' h1 (hv.trans h2) (ha.trans h3)
set_option maxRecDepth 100000 in
theorem q_tellC (hB : B.length = 28) (h : zOb M v a o sl') (hk : k < M) (hw : ∀ i, i < M → ¬ i = k → 1 ≤ wtO a i) (hs : sumW (wtO a) M + 1 = sl'.length) (hl : sl'.length ≤ 25) (kk : zTl B C v a sl' g P) : xP sc d 135 101 [(0, .ref 28), (1, .long key), (3, .int (nI p)), (4, .int (nI ty)), (5, .int (nI k))] [] (mH B C v a o, g) P := by
  have h0 : (0 : Int32).toInt = 0 := rfl
  have hM := h.1
  have h3 := h.2.1
  have stay : 1 ≤ wtO a k → P (.inl none) (mH B C v a o, g) := fun q => kk v a o ⟨M, h, hs, fun i hi => by
    by_cases e : i = k
    · rw [e]; exact q
    · exact hw i hi e, hl⟩ (vS.refl _ _) (aS.refl _ _)
  refine xP_s rfl rfl rfl ?_
  refine xP_get rfl (mH_28 hB) rfl ?_
  refine xP_s rfl rfl rfl ?_
  refine xP_zl (n := 64) rfl hB rfl rfl (by omega) rfl ?_
  refine xP_s rfl rfl rfl ?_
  refine xP_if (fun hq => ?_) (fun hq => ?_)
  · have z := xc_t hq
    dsimp only at z
    have kz := stay (by
      unfold wtO
      rw [if_pos (by omega)]
      omega)
    repeat' first
      | refine xP_s rfl rfl rfl ?_
      | refine xP_ret rfl rfl rfl ?_
    exact kz
  · have z := xc_f hq
    dsimp only at z
    refine xP_s rfl rfl rfl ?_
    refine xP_get rfl (mH_28 hB) rfl ?_
    refine xP_s rfl rfl rfl ?_
    refine xP_zl (n := 64) rfl hB rfl rfl (by omega) rfl ?_
    refine xP_s rfl rfl rfl ?_
    refine xP_if (fun hq2 => ?_) (fun hq2 => ?_)
    · have z2 := xc_t hq2
      dsimp only at z2
      have w0 : wtO a k = 0 := by
        unfold wtO
        rw [if_neg (by omega), if_neg (by omega)]
      have hn : opP sl' (o k) = none ∧ opB sl' (o k) = none := by
        have e := h.wt hk
        rw [w0] at e
        cases hx : opP sl' (o k) with
        | some y =>
          rw [hx] at e
          simp at e
          omega
        | none =>
          cases hy : opB sl' (o k) with
          | some y =>
            rw [hy] at e
            simp at e
          | none => exact ⟨rfl, rfl⟩
      have e1 : nI M - 1 = nI (M - 1) := nI_subN (b := 1) (by omega)
      have fin : ∀ v' a' o', v' 3 = nI (M - 1) → (∀ i, o' i = if i = k then o (M - 1) else o i) → (∀ j, (j = 31 ∨ j = 32 ∨ j = 33 ∨ j = 34) → ∀ i, a' j i = if i = k then a j (M - 1) else a j i) → zOC v' a' o' sl' := fun v' a' o' f1 f2 f3 => by
        have wx : ∀ i, wtO a' i = if i = k then wtO a (M - 1) else wtO a i := fun i => by
          unfold wtO
          rw [f3 31 (by simp), f3 33 (by simp)]
          by_cases e : i = k
          · rw [if_pos e, if_pos e, if_pos e]
          · rw [if_neg e, if_neg e, if_neg e]
        refine ⟨M - 1, h.drop hk hn f1 f2 f3, ?_, fun i hi => ?_, hl⟩
        · rw [← hs]
          have eM : sumW (wtO a) M = sumW (wtO a) (M - 1) + wtO a (M - 1) := by
            obtain ⟨m, rfl⟩ : ∃ m, M = m + 1 := ⟨M - 1, by omega⟩
            rfl
          by_cases e : k = M - 1
          · rw [sumW_ext (w := wtO a) (fun i hi => by rw [wx, if_neg (by omega)]), eM, ← e, w0]
          · have := sumW_upd (w := wtO a) (w' := wtO a') (k := k) (n := M - 1) (by omega) (fun i hi hik => by rw [wx, if_neg hik])
            rw [wx k, if_pos rfl, w0] at this
            omega
        · rw [wx]
          by_cases e : i = k
          · rw [if_pos e]
            exact hw _ (by omega) (by omega)
          · rw [if_neg e]
            exact hw i (by omega) e
      refine xP_s rfl rfl rfl ?_
      refine xP_s rfl rfl rfl ?_
      refine xP_zg rfl hB rfl h3 ?_
      refine xP_s rfl rfl rfl ?_
      refine xP_s rfl rfl rfl ?_
      rw [e1]
      refine xP_zp rfl hB rfl rfl ?_
      refine xP_s rfl rfl rfl ?_
      refine xP_get rfl (mH_28 hB) rfl ?_
      refine xP_s rfl rfl rfl ?_
      refine xP_s rfl rfl rfl ?_
      refine xP_get rfl (mH_28 hB) rfl ?_
      refine xP_s rfl rfl rfl ?_
      refine xP_zg rfl hB rfl upd_s ?_
      refine xP_zol rfl hB (by omega) rfl ?_
      refine xP_zos rfl hB (by omega) ?_
      refine xP_s rfl rfl rfl ?_
      refine xP_get rfl (mH_28 hB) rfl ?_
      refine xP_s rfl rfl rfl ?_
      refine xP_s rfl rfl rfl ?_
      refine xP_get rfl (mH_28 hB) rfl ?_
      refine xP_s rfl rfl rfl ?_
      refine xP_zg rfl hB rfl upd_s ?_
      refine xP_zl (n := 64) rfl hB rfl rfl (by omega) rfl ?_
      refine xP_zs (n := 64) rfl hB rfl rfl (by omega) ?_
      refine xP_s rfl rfl rfl ?_
      refine xP_get rfl (mH_28 hB) rfl ?_
      refine xP_s rfl rfl rfl ?_
      refine xP_s rfl rfl rfl ?_
      refine xP_get rfl (mH_28 hB) rfl ?_
      refine xP_s rfl rfl rfl ?_
      refine xP_zg rfl hB rfl upd_s ?_
      refine xP_zl (n := 64) rfl hB rfl rfl (by omega) rfl ?_
      refine xP_zs (n := 64) rfl hB rfl rfl (by omega) ?_
      refine xP_s rfl rfl rfl ?_
      refine xP_get rfl (mH_28 hB) rfl ?_
      refine xP_s rfl rfl rfl ?_
      refine xP_s rfl rfl rfl ?_
      refine xP_get rfl (mH_28 hB) rfl ?_
      refine xP_s rfl rfl rfl ?_
      refine xP_zg rfl hB rfl upd_s ?_
      refine xP_zl (n := 64) rfl hB rfl rfl (by omega) rfl ?_
      refine xP_zs (n := 64) rfl hB rfl rfl (by omega) ?_
      refine xP_s rfl rfl rfl ?_
      refine xP_get rfl (mH_28 hB) rfl ?_
      refine xP_s rfl rfl rfl ?_
      refine xP_s rfl rfl rfl ?_
      refine xP_get rfl (mH_28 hB) rfl ?_
      refine xP_s rfl rfl rfl ?_
      refine xP_zg rfl hB rfl upd_s ?_
      refine xP_zl (n := 64) rfl hB rfl rfl (by omega) rfl ?_
      refine xP_zs (n := 64) rfl hB rfl rfl (by omega) ?_
      refine xP_ret rfl rfl rfl ?_
      refine kk _ _ _ (fin _ _ _ upd_s (fun i => rfl) (fun j hj i => ?_)) (vS.u _ _ _) ((((aS.u _ _ _).wide (by decide)).trans ((aS.u _ _ _).wide (by decide))).trans (((aS.u _ _ _).wide (by decide)).trans ((aS.u _ _ _).wide (by decide))))
      rcases hj with rfl | rfl | rfl | rfl <;> rfl
    · have z2 := xc_f hq2
      dsimp only at z2
      have kz := stay (by
        unfold wtO
        rw [if_pos (show 0 < (a 33 k).toInt by omega)]
        omega)
      repeat' first
        | refine xP_s rfl rfl rfl ?_
        | refine xP_ret rfl rfl rfl ?_
      exact kz
theorem isS_x {α : Type} {p : Nat} {x : α} : (if p = 0 then none else some x : Option α).isSome = decide (¬ p = 0) := by
  by_cases e : p = 0
  · rw [if_pos e, e]
    rfl
  · rw [if_neg e, decide_eq_true e]
    rfl
/-- the entry put -/
theorem tell_put {a' : Nat → Nat → Int32} (h : zOb M v a o sl) (hk : k < M) (ek : o k = key) (hX : ∀ b key', opX b sl' key' = opN sl p ty key b key') (hpr : ∀ e ∈ sl', 1 ≤ e.2.1 ∧ e.2.1 ≤ 1200 ∧ e.2.2 ≤ 6) (hw : ∀ i, i < M → ¬ i = k → 1 ≤ wtO a i) (hs : sumW (wtO a) M + 1 = sl.length)
    (hlen : sl'.length + (if (opX (isPre ty) sl key).isSome = true then 1 else 0) = sl.length + (if p = 0 then 0 else 1))
    (h31 : ∀ i, a' 31 i = if isPre ty = true ∧ i = k then nI p else a 31 i) (h32 : ∀ i, a' 32 i = if isPre ty = true ∧ i = k then nI ty else a 32 i) (h33 : ∀ i, a' 33 i = if isPre ty = false ∧ i = k then nI p else a 33 i) (h34 : ∀ i, a' 34 i = if isPre ty = false ∧ i = k then nI ty else a 34 i) :
    zOb M v a' o sl' ∧ (∀ i, i < M → ¬ i = k → 1 ≤ wtO a' i) ∧ sumW (wtO a') M + 1 = sl'.length := by
  have h' := h.put (a' := a') hk ek hX hpr h31 h32 h33 h34
  have wx : ∀ i, i < M → ¬ i = k → wtO a' i = wtO a i := fun i hi hik => by
    have e31 : a' 31 i = a 31 i := by rw [h31]; exact if_neg (fun q => hik q.2)
    have e33 : a' 33 i = a 33 i := by rw [h33]; exact if_neg (fun q => hik q.2)
    unfold wtO
    rw [e31, e33]
  refine ⟨h', fun i hi hik => by rw [wx i hi hik]; exact hw i hi hik, ?_⟩
  have s1 := sumW_upd hk wx
  have w1 := h.wt hk
  have w2 := h'.wt hk
  rw [ek, opP_X, opB_X] at w1 w2
  rw [hX, hX] at w2
  have on : ∀ b, b = isPre ty → (opN sl p ty key b key).isSome = decide (¬ p = 0) := fun b q => by
    rw [← isS_x (x := (key, p, ty))]
    exact congrArg Option.isSome (if_pos ⟨rfl, q⟩)
  have off : ∀ b, ¬ b = isPre ty → opN sl p ty key b key = opX b sl key := fun b q => if_neg (fun z => q z.2)
  have ep : (if p = 0 then 0 else 1 : Nat) = if (decide (¬ p = 0)) = true then 1 else 0 := by
    by_cases e : p = 0
    · rw [if_pos e, if_neg (by simp [e])]
    · rw [if_neg e, if_pos (by simp [e])]
  rw [ep] at hlen
  cases ht : isPre ty with
  | true =>
    rw [ht] at hlen
    rw [on true ht.symm, off false (by rw [ht]; decide)] at w2
    omega
  | false =>
    rw [ht] at hlen
    rw [on false ht.symm, off true (by rw [ht]; decide)] at w2
    omega
set_option maxRecDepth 100000 in
theorem q_tellB (hB : B.length = 28) (h : zOb M v a o sl) (hk : k < M) (ek : o k = key) (hX : ∀ b key', opX b sl' key' = opN sl p ty key b key') (hpr : ∀ e ∈ sl', 1 ≤ e.2.1 ∧ e.2.1 ≤ 1200 ∧ e.2.2 ≤ 6) (hw : ∀ i, i < M → ¬ i = k → 1 ≤ wtO a i) (hs : sumW (wtO a) M + 1 = sl.length)
    (hlen : sl'.length + (if (opX (isPre ty) sl key).isSome = true then 1 else 0) = sl.length + (if p = 0 then 0 else 1)) (hl : sl'.length ≤ 25) (hty : ty ≤ 6)
    (kk : zTl B C v a sl' g P) : xP sc d 135 52 [(0, .ref 28), (1, .long key), (3, .int (nI p)), (4, .int (nI ty)), (5, .int (nI k))] [] (mH B C v a o, g) P := by
  have hM := h.1
  have hT := toI ty (by omega)
  have n3 : (3 : Int32).toInt = 3 := rfl
  have n4 : (4 : Int32).toInt = 4 := rfl
  have pre : isPre ty = true → xP sc d 135 64 [(0, .ref 28), (1, .long key), (3, .int (nI p)), (4, .int (nI ty)), (5, .int (nI k))] [] (mH B C v a o, g) P := fun ht => by
    refine xP_s rfl rfl rfl ?_
    refine xP_get rfl (mH_28 hB) rfl ?_
    refine xP_s rfl rfl rfl ?_
    refine xP_s rfl rfl rfl ?_
    refine xP_zs (n := 64) rfl hB rfl rfl (by omega) ?_
    refine xP_s rfl rfl rfl ?_
    refine xP_get rfl (mH_28 hB) rfl ?_
    refine xP_s rfl rfl rfl ?_
    refine xP_s rfl rfl rfl ?_
    refine xP_zs (n := 64) rfl hB rfl rfl (by omega) ?_
    refine xP_s rfl rfl rfl ?_
    obtain ⟨g1, g2, g3⟩ := tell_put (a' := uA (uA a 31 (upd (a 31) k (nI p))) 32 (upd (uA a 31 (upd (a 31) k (nI p)) 32) k (nI ty))) h hk ek hX hpr hw hs hlen
      (fun i => by rw [ht]; by_cases e : i = k <;> simp [uA, upd, e]) (fun i => by rw [ht]; by_cases e : i = k <;> simp [uA, upd, e]) (fun i => by rw [ht]; simp [uA]) (fun i => by rw [ht]; simp [uA])
    exact q_tellC hB g1 hk g2 g3 hl (kk.to (vS.refl _ _) (((aS.u _ _ _).wide (by decide)).trans ((aS.u _ _ _).wide (by decide))))
  refine xP_s rfl rfl rfl ?_
  refine xP_s rfl rfl rfl ?_
  refine xP_s rfl rfl rfl ?_
  refine xP_if (fun hq => ?_) (fun hq => ?_)
  · have z := xc_t hq
    dsimp only at z
    exact pre (by
      simp only [isPre, Bool.or_eq_true, decide_eq_true_eq]
      omega)
  · have z := xc_f hq
    dsimp only at z
    refine xP_s rfl rfl rfl ?_
    refine xP_s rfl rfl rfl ?_
    refine xP_s rfl rfl rfl ?_
    refine xP_if (fun hq2 => ?_) (fun hq2 => ?_)
    · have z2 := xc_t hq2
      dsimp only at z2
      have ht : isPre ty = false := by
        rw [← Bool.not_eq_true]
        simp only [isPre, Bool.or_eq_true, decide_eq_true_eq]
        omega
      refine xP_s rfl rfl rfl ?_
      refine xP_get rfl (mH_28 hB) rfl ?_
      refine xP_s rfl rfl rfl ?_
      refine xP_s rfl rfl rfl ?_
      refine xP_zs (n := 64) rfl hB rfl rfl (by omega) ?_
      refine xP_s rfl rfl rfl ?_
      refine xP_get rfl (mH_28 hB) rfl ?_
      refine xP_s rfl rfl rfl ?_
      refine xP_s rfl rfl rfl ?_
      refine xP_zs (n := 64) rfl hB rfl rfl (by omega) ?_
      obtain ⟨g1, g2, g3⟩ := tell_put (a' := uA (uA a 33 (upd (a 33) k (nI p))) 34 (upd (uA a 33 (upd (a 33) k (nI p)) 34) k (nI ty))) h hk ek hX hpr hw hs hlen
        (fun i => by rw [ht]; simp [uA]) (fun i => by rw [ht]; simp [uA]) (fun i => by rw [ht]; by_cases e : i = k <;> simp [uA, upd, e]) (fun i => by rw [ht]; by_cases e : i = k <;> simp [uA, upd, e])
      exact q_tellC hB g1 hk g2 g3 hl (kk.to (vS.refl _ _) (((aS.u _ _ _).wide (by decide)).trans ((aS.u _ _ _).wide (by decide))))
    · have z2 := xc_f hq2
      dsimp only at z2
      exact pre (by
        simp only [isPre, Bool.or_eq_true, decide_eq_true_eq]
        omega)
set_option maxRecDepth 100000 in
theorem q_tell (hB : B.length = 28) (h : zOC v a o sl) (h44 : ¬ key = 44) (h1 : ¬ key = -1) (h0 : ¬ key = 0) (hX : ∀ b key', opX b sl' key' = opN sl p ty key b key') (hpr : ∀ e ∈ sl', 1 ≤ e.2.1 ∧ e.2.1 ≤ 1200 ∧ e.2.2 ≤ 6)
    (hlen : sl'.length + (if (opX (isPre ty) sl key).isSome = true then 1 else 0) = sl.length + (if p = 0 then 0 else 1)) (hl : sl'.length ≤ 25) (hty : ty ≤ 6)
    (kk : zTl B C v a sl' g P) : xM1 sc (d + 1) 135 [.ref 28, .long key, .int (nI p), .int (nI ty)] (mH B C v a o, g) P := by
  obtain ⟨M, m1, m2, m3, m4⟩ := h
  have hM := m1.1
  have hv3 := m1.2.1
  have hMl := sumW_le m3
  have z0 : (0 : Int32).toInt = 0 := rfl
  have zm : (-1 : Int32).toInt = -1 := rfl
  unfold xM1
  refine xP_s rfl rfl rfl ?_
  refine xP_s rfl rfl rfl ?_
  refine xP_cv rfl rfl rfl rfl rfl (mH_28 hB) (q_opAt hB hM hv3 (fun j hj he => ?_) (fun hn => ?_))
  · have hJ := toI j (by omega)
    have go := q_tellB (sc := sc) (d := d + 1) (P := P) (g := g) (C := C) hB m1 hj he hX hpr (fun i hi _ => m3 i hi) m2 hlen hl hty kk
    refine xP_s rfl rfl rfl ?_
    refine xP_s rfl rfl rfl ?_
    refine xP_s rfl rfl rfl ?_
    refine xP_if (fun hq => ?_) (fun hq => ?_)
    · exact go
    · have z := xc_f hq
      dsimp only at z
      omega
  · refine xP_s rfl rfl rfl ?_
    refine xP_s rfl rfl rfl ?_
    refine xP_s rfl rfl rfl ?_
    refine xP_if (fun hq => ?_) (fun hq => ?_)
    · have z := xc_t hq
      dsimp only at z
      omega
    · refine xP_s rfl rfl rfl ?_
      refine xP_zg rfl hB rfl hv3 ?_
      refine xP_s rfl rfl rfl ?_
      refine xP_s rfl rfl rfl ?_
      refine xP_s rfl rfl rfl ?_
      refine xP_zg rfl hB rfl hv3 ?_
      refine xP_s rfl rfl rfl ?_
      refine xP_s rfl rfl rfl ?_
      rw [nI_p1]
      refine xP_zp rfl hB rfl rfl ?_
      refine xP_s rfl rfl rfl ?_
      refine xP_get rfl (mH_28 hB) rfl ?_
      refine xP_s rfl rfl rfl ?_
      refine xP_s rfl rfl rfl ?_
      refine xP_zos rfl hB (by omega) ?_
      refine xP_s rfl rfl rfl ?_
      refine xP_get rfl (mH_28 hB) rfl ?_
      refine xP_s rfl rfl rfl ?_
      refine xP_s rfl rfl rfl ?_
      refine xP_zs (n := 64) rfl hB rfl rfl (by omega) ?_
      refine xP_s rfl rfl rfl ?_
      refine xP_get rfl (mH_28 hB) rfl ?_
      refine xP_s rfl rfl rfl ?_
      refine xP_s rfl rfl rfl ?_
      refine xP_zs (n := 64) rfl hB rfl rfl (by omega) ?_
      have hnew := m1.new (v' := upd v 3 (nI (M + 1))) (a' := uA (uA a 31 (upd (a 31) M 0)) 33 (upd (uA a 31 (upd (a 31) M 0) 33) M 0)) (o' := vp_updL o M key) hn h44 h1 h0 (by omega) upd_s (fun i => rfl) (fun i => by simp [uA, upd]) (fun i => by simp [uA, upd]) (by simp [uA]) (by simp [uA])
      have wx : ∀ i, i < M → wtO (uA (uA a 31 (upd (a 31) M 0)) 33 (upd (uA a 31 (upd (a 31) M 0) 33) M 0)) i = wtO a i := fun i hi => by
        have e : ¬ i = M := by omega
        unfold wtO
        simp [uA, upd, e]
      have w0 : wtO (uA (uA a 31 (upd (a 31) M 0)) 33 (upd (uA a 31 (upd (a 31) M 0) 33) M 0)) M = 0 := by
        unfold wtO
        simp [uA, upd]
      exact q_tellB hB hnew (k := M) (by omega) pk_lu hX hpr (fun i hi hik => by
        rw [wx i (by omega)]
        exact m3 i (by omega)) (by
        rw [sumW, w0, sumW_ext wx]
        exact m2) hlen hl hty (kk.to (vS.u _ _ _) (((aS.u _ _ _).wide (by decide)).trans ((aS.u _ _ _).wide (by decide))))
end TL
