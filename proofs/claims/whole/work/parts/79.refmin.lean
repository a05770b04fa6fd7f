-- the reference: nameBegins
section NG
variable {sc : xSc} {d g : Nat} {A B C : List xC} {o : Nat → Int64} {P : xO → xH → Prop} {N vs : List (List Nat)} {t : List Nat} {Q : List xIt} {F : List xFr} {f : xFr} {sl : List xSl} {v : Nat → Int32} {a : Nat → Nat → Int32}
theorem isMin_1 {s : List Nat} (h : (nx s).1 = 1) : isMin s (nx s) = (decide ((nx s).2.2.1 = [45]) && (!(qd s) && dgH (nx s).2.2.2)) := by
  unfold isMin
  simp [h]
theorem one_l {w : List Nat} (h : w.length = 1) : ∃ c, w = [c] := by
  match w, h with
  | [c], _ => exact ⟨c, rfl⟩
set_option maxRecDepth 100000 in
theorem q_min1 {x1 : Int32} {q : xTok} {qq : Bool} (hB : B.length = 28) (ht : zT v a t) (hk : zK t v a q) (hq1 : q.1 = 1) (h24 : v 24 = xb qq) (hr : t.drop (t.length - q.2.2.2.length) = q.2.2.2)
    (k : xP sc (d + 1) 174 45 [(0, .ref 28), (1, .int x1)] [.int (xb (decide (q.2.2.1 = [45]) && (!qq && dgH q.2.2.2)))] (mH B C v a o, g) P) : xP sc (d + 1) 174 0 [(0, .ref 28), (1, .int x1)] [] (mH B C v a o, g) P := by
  have h120 := ht.2.1
  have hw := hk.2.2.2.1 (Or.inl hq1)
  obtain ⟨e, he1, he2, he3⟩ := hk.2.2.1
  have he3 := he3 (by omega)
  rw [← he3] at hr
  generalize hb : (decide (q.2.2.1 = [45]) && (!qq && dgH q.2.2.2)) = b at k
  have hwl := hw.2.1
  have hL := toI q.2.2.1.length (by omega)
  have c1 : (1 : Int32).toInt = 1 := rfl
  have c45 : (45 : Int32).toInt = 45 := rfl
  have no : b = false → xP sc (d + 1) 174 44 [(0, .ref 28), (1, .int x1)] [] (mH B C v a o, g) P := by
    intro h
    rw [h] at k
    refine xP_s rfl rfl rfl ?_
    exact k
  refine xP_s rfl rfl rfl ?_
  refine xP_zg rfl hB rfl h24 ?_
  refine xP_s rfl rfl rfl ?_
  rw [xb_ne0]
  refine xP_if (fun z1 => ?_) (fun z1 => ?_)
  · exact no (by rw [← hb, z1]; simp)
  · refine xP_s rfl rfl rfl ?_
    refine xP_zg rfl hB rfl hw.1 ?_
    refine xP_s rfl rfl rfl ?_
    refine xP_s rfl rfl rfl ?_
    refine xP_if (fun z2 => ?_) (fun z2 => ?_)
    · have y := xc_t z2
      dsimp only at y
      refine no ?_
      rw [← hb]
      have : ¬ q.2.2.1 = [45] := fun h => y (by rw [h]; rfl)
      simp [this]
    · have y := xc_f z2
      dsimp only at y
      obtain ⟨c, hc⟩ := one_l (w := q.2.2.1) (by omega)
      have hx := hw.2.2 0 c (by rw [hc]; rfl)
      have hC := toI c (by omega)
      refine xP_s rfl rfl rfl ?_
      refine xP_get rfl (mH_28 hB) rfl ?_
      refine xP_s rfl rfl rfl ?_
      refine xP_zl (m := 0) (n := 130) rfl hB rfl rfl (by decide) hx.2 ?_
      refine xP_s rfl rfl rfl ?_
      refine xP_s rfl rfl rfl ?_
      refine xP_if (fun z3 => ?_) (fun z3 => ?_)
      · have y3 := xc_t z3
        dsimp only at y3
        refine no ?_
        rw [← hb]
        have : ¬ q.2.2.1 = [45] := fun h => by
          rw [hc] at h
          cases h
          exact y3 rfl
        simp [this]
      · have y3 := xc_f z3
        dsimp only at y3
        have e45 : q.2.2.1 = [45] := by rw [hc, show c = 45 by omega]
        have hlt : oz q.2.2.2 0 < 128 := by
          rw [← oz_0 hr]
          exact ht.lt e
        refine xP_s rfl rfl rfl ?_
        refine xP_s rfl rfl rfl ?_
        refine xP_zg rfl hB rfl he2 ?_
        refine xP_cv rfl rfl rfl rfl rfl (mH_28 hB) (q_charAt hB ht (by omega) (oz_0 hr) ?_)
        refine xP_call rfl rfl rfl (q_isDigit hlt ?_)
        rw [dgH_oz]
        refine xP_s rfl rfl rfl ?_
        rw [xb_eq0]
        refine xP_if (fun z4 => ?_) (fun z4 => ?_)
        · refine no ?_
          rw [← hb]
          have : dgH q.2.2.2 = false := by simpa using z4
          simp [this]
        · have ebt : b = true := by
            rw [← hb]
            have : dgH q.2.2.2 = true := by simpa using z4
            simp [this, e45, z1]
          rw [ebt] at k
          refine xP_s rfl rfl rfl ?_
          refine xP_s rfl rfl rfl ?_
          exact k
-- the same of the token behind, whatever it is
set_option maxRecDepth 100000 in
theorem q_min2 {x1 x2 x3 x6 : Int32} {x4 : Int64} {q : xTok} {qq : Bool} (hB : B.length = 28) (ht : zT v a t) (hk : zK t v a q) (h24 : q.1 = 1 → v 24 = xb qq) (hr : q.1 = 1 → t.drop (t.length - q.2.2.2.length) = q.2.2.2)
    (k : ∀ b : Bool, (q.1 = 1 → b = (decide (q.2.2.1 = [45]) && (!qq && dgH q.2.2.2))) → xP sc (d + 1) 174 243 [(0, .ref 28), (1, .int x1), (2, .int x2), (3, .int x3), (4, .long x4), (6, .int x6), (7, .int (xb b))] [] (mH B C v a o, g) P) : xP sc (d + 1) 174 196 [(0, .ref 28), (1, .int x1), (2, .int x2), (3, .int x3), (4, .long x4), (6, .int x6)] [] (mH B C v a o, g) P := by
  have h120 := ht.2.1
  obtain ⟨e, he1, he2, he3⟩ := hk.2.2.1
  have c1 : (1 : Int32).toInt = 1 := rfl
  have c0 : (0 : Int32).toInt = 0 := rfl
  have c45 : (45 : Int32).toInt = 45 := rfl
  have no : (q.1 = 1 → (decide (q.2.2.1 = [45]) && (!qq && dgH q.2.2.2)) = false) → xP sc (d + 1) 174 240 [(0, .ref 28), (1, .int x1), (2, .int x2), (3, .int x3), (4, .long x4), (6, .int x6)] [] (mH B C v a o, g) P := by
    intro h
    have kk := k false (fun q => (h q).symm)
    refine xP_s rfl rfl rfl ?_
    refine xP_s rfl rfl rfl ?_
    exact kk
  have yes : (q.1 = 1 → (decide (q.2.2.1 = [45]) && (!qq && dgH q.2.2.2)) = true) → xP sc (d + 1) 174 236 [(0, .ref 28), (1, .int x1), (2, .int x2), (3, .int x3), (4, .long x4), (6, .int x6)] [] (mH B C v a o, g) P := by
    intro h
    have kk := k true (fun q => (h q).symm)
    refine xP_s rfl rfl rfl ?_
    refine xP_s rfl rfl rfl ?_
    refine xP_s rfl rfl rfl ?_
    exact kk
  refine xP_s rfl rfl rfl ?_
  refine xP_zg rfl hB rfl rfl ?_
  refine xP_s rfl rfl rfl ?_
  refine xP_if (fun z1 => ?_) (fun z1 => ?_)
  · refine no (fun h => ?_)
    rw [h24 h, xb_ne0] at z1
    rw [z1]
    simp
  · refine xP_s rfl rfl rfl ?_
    refine xP_zg rfl hB rfl rfl ?_
    refine xP_s rfl rfl rfl ?_
    refine xP_s rfl rfl rfl ?_
    refine xP_if (fun z2 => ?_) (fun z2 => ?_)
    · have y := xc_t z2
      dsimp only at y
      refine no (fun h => ?_)
      have hw := hk.2.2.2.1 (Or.inl h)
      have : ¬ q.2.2.1 = [45] := fun h2 => y (by rw [hw.1, h2]; rfl)
      simp [this]
    · have y := xc_f z2
      dsimp only at y
      refine xP_s rfl rfl rfl ?_
      refine xP_get rfl (mH_28 hB) rfl ?_
      refine xP_s rfl rfl rfl ?_
      refine xP_zl (m := 0) (n := 130) rfl hB rfl rfl (by decide) rfl ?_
      refine xP_s rfl rfl rfl ?_
      refine xP_s rfl rfl rfl ?_
      refine xP_if (fun z3 => ?_) (fun z3 => ?_)
      · have y3 := xc_t z3
        dsimp only at y3
        refine no (fun h => ?_)
        have hw := hk.2.2.2.1 (Or.inl h)
        have : ¬ q.2.2.1 = [45] := fun h2 => y3 (by rw [(hw.2.2 0 45 (by rw [h2]; rfl)).2]; rfl)
        simp [this]
      · have y3 := xc_f z3
        dsimp only at y3
        refine xP_s rfl rfl rfl ?_
        refine xP_s rfl rfl rfl ?_
        refine xP_zg rfl hB rfl he2 ?_
        refine xP_cv rfl rfl rfl rfl rfl (mH_28 hB) (q_charAt hB ht (by omega) rfl ?_)
        refine xP_call rfl rfl rfl (q_isDigit (ht.lt e) ?_)
        have ed : q.1 = 1 → isDg (oz t e) = dgH q.2.2.2 := fun h => by
          have hr := hr h
          rw [← he3 (by omega)] at hr
          rw [oz_0 hr, dgH_oz]
        refine xP_s rfl rfl rfl ?_
        rw [xb_eq0]
        refine xP_if (fun z4 => ?_) (fun z4 => ?_)
        · refine no (fun h => ?_)
          have : dgH q.2.2.2 = false := by rw [← ed h]; simpa using z4
          simp [this]
        · refine yes (fun h => ?_)
          have h5 : dgH q.2.2.2 = true := by rw [← ed h]; simpa using z4
          have hw := hk.2.2.2.1 (Or.inl h)
          have hwl := hw.2.1
          have hL := toI q.2.2.1.length (by omega)
          rw [hw.1] at y
          obtain ⟨c, hc⟩ := one_l (w := q.2.2.1) (by omega)
          have hx := hw.2.2 0 c (by rw [hc]; rfl)
          have hC := toI c (by omega)
          rw [hx.2] at y3
          rw [h24 h, xb_ne0] at z1
          rw [hc, show c = 45 by omega, z1, h5]
          rfl
theorem tkN_4 : ∀ k, k ≤ 7 → (tkN k = 4 ↔ k = 1) ∧ (tkN k = 1 ↔ k = 3) ∧ tkN k ≤ 7 := by decide
theorem opk (ho : zO v a o sl) {s : List Nat} (h : (nx s).1 = 1) : opP sl (keM (nx s).2.2.1) = opP sl (tK (nx s)) ∧ opB sl (keM (nx s).2.2.1) = opB sl (tK (nx s)) := by
  have e : tK (nx s) = kL (nx s).2.2.1 := by
    unfold tK
    rw [if_pos h]
  rw [e]
  exact ho.key _
set_option maxRecDepth 100000 in
theorem q_bare {x1 x2 x3 x6 : Int32} {x4 : Int64} {r : List Nat} {b : Bool} (hB : B.length = 28) (ht : zT v a t) (ho : zO v a o sl) (hk : zK t v a (nx r)) (hr : (nx r).1 = 1 → t.drop (t.length - (nx r).2.2.2.length) = (nx r).2.2.2) (hb : (nx r).1 = 1 → b = isMin r (nx r))
    (k : xP sc (d + 2) 174 307 [(0, .ref 28), (1, .int x1), (2, .int x2), (3, .int x3), (4, .long x4), (6, .int x6), (7, .int (xb b)), (8, .int (xb (bare sl r)))] [] (mH B C v a o, g) P) :
    xP sc (d + 2) 174 243 [(0, .ref 28), (1, .int x1), (2, .int x2), (3, .int x3), (4, .long x4), (6, .int x6), (7, .int (xb b))] [] (mH B C v a o, g) P := by
  have h120 := ht.2.1
  obtain ⟨e, he1, he2, he3⟩ := hk.2.2.1
  have hk7 := hk.1
  obtain ⟨t4, _, t7⟩ := tkN_4 (nx r).1 hk7
  have hT := toI (tkN (nx r).1) (by omega)
  have c4 : (4 : Int32).toInt = 4 := rfl
  have c0 : (0 : Int32).toInt = 0 := rfl
  have c40 : (40 : Int32).toInt = 40 := rfl
  have no : bare sl r = false → xP sc (d + 2) 174 304 [(0, .ref 28), (1, .int x1), (2, .int x2), (3, .int x3), (4, .long x4), (6, .int x6), (7, .int (xb b))] [] (mH B C v a o, g) P := by
    intro h
    rw [h] at k
    refine xP_s rfl rfl rfl ?_
    refine xP_s rfl rfl rfl ?_
    exact k
  have yes : bare sl r = true → xP sc (d + 2) 174 300 [(0, .ref 28), (1, .int x1), (2, .int x2), (3, .int x3), (4, .long x4), (6, .int x6), (7, .int (xb b))] [] (mH B C v a o, g) P := by
    intro h
    rw [h] at k
    refine xP_s rfl rfl rfl ?_
    refine xP_s rfl rfl rfl ?_
    refine xP_s rfl rfl rfl ?_
    exact k
  refine xP_s rfl rfl rfl ?_
  refine xP_zg rfl hB rfl hk.2.1 ?_
  refine xP_s rfl rfl rfl ?_
  refine xP_s rfl rfl rfl ?_
  refine xP_if (fun z1 => ?_) (fun z1 => ?_)
  · have y := xc_t z1
    dsimp only at y
    refine no ?_
    have : ¬ (nx r).1 = 1 := fun h => y (by rw [t4.mpr h]; rfl)
    unfold bare
    simp [this]
  · have y := xc_f z1
    dsimp only at y
    have h1 : (nx r).1 = 1 := t4.mp (by omega)
    have hr := hr h1
    have hb := hb h1
    rw [← he3 (by omega)] at hr
    have hw := hk.2.2.2.1 (Or.inl h1)
    obtain ⟨op1, op2⟩ := opk ho h1
    have hlt : oz (nx r).2.2.2 0 < 128 := by
      rw [← oz_0 hr]
      exact ht.lt e
    have hC := toI (oz (nx r).2.2.2 0) (by omega)
    refine xP_s rfl rfl rfl ?_
    refine xP_s rfl rfl rfl ?_
    refine xP_zg rfl hB rfl he2 ?_
    refine xP_cv rfl rfl rfl rfl rfl (mH_28 hB) (q_charAt hB ht (by omega) (oz_0 hr) ?_)
    refine xP_s rfl rfl rfl ?_
    refine xP_s rfl rfl rfl ?_
    refine xP_if (fun z2 => ?_) (fun z2 => ?_)
    · have y2 := xc_t z2
      dsimp only at y2
      refine no ?_
      have : isCal (nx r) = true := by
        unfold isCal
        have := (hd_oz (s := (nx r).2.2.2) (x := 40) (by decide)).mpr (by omega)
        simp [h1, this]
      unfold bare
      simp [this]
    · have y2 := xc_f z2
      dsimp only at y2
      have hnc : isCal (nx r) = false := by
        unfold isCal
        have : ¬ (nx r).2.2.2.head? = some 40 := fun h => by
          have := (hd_oz (by decide)).mp h
          omega
        simp [this]
      refine xP_s rfl rfl rfl ?_
      refine xP_s rfl rfl rfl ?_
      rw [xb_ne0]
      refine xP_if (fun z3 => ?_) (fun z3 => ?_)
      · refine no ?_
        rw [z3] at hb
        unfold bare
        simp [← hb]
      · rw [z3] at hb
        refine xP_s rfl rfl rfl ?_
        refine xP_s rfl rfl rfl ?_
        refine xP_cv rfl rfl rfl rfl rfl (mH_28 hB) (q_key hB hw ?_)
        refine xP_cv rfl rfl rfl rfl rfl (mH_28 hB) (q_infixOf hB ho ?_)
        refine xP_s rfl rfl rfl ?_
        refine xP_s rfl rfl rfl ?_
        refine xP_cv rfl rfl rfl rfl rfl (mH_28 hB) (q_key hB hw ?_)
        refine xP_cv rfl rfl rfl rfl rfl (mH_28 hB) (q_postfixOf hB ho ?_)
        refine xP_s rfl rfl rfl ?_
        rw [nI_add, ip_sum ho, op2]
        have hle := (ho.le (key := tK (nx r))).2
        have hS := toI (slP (opB sl (tK (nx r)))) (by omega)
        refine xP_s rfl rfl rfl ?_
        refine xP_if (fun z4 => ?_) (fun z4 => ?_)
        · have y4 := xc_t z4
          dsimp only at y4
          refine no ?_
          have : (opB sl (tK (nx r))).isSome = false := by
            cases h : (opB sl (tK (nx r))).isSome with
            | false => rfl
            | true =>
              have := (slP_pos ho).1.mpr h
              omega
          unfold bare
          simp [this]
        · have y4 := xc_f z4
          dsimp only at y4
          have hsB : (opB sl (tK (nx r))).isSome = true := (slP_pos ho).1.mp (by omega)
          refine xP_s rfl rfl rfl ?_
          refine xP_s rfl rfl rfl ?_
          refine xP_cv rfl rfl rfl rfl rfl (mH_28 hB) (q_key hB hw ?_)
          refine xP_cv rfl rfl rfl rfl rfl (mH_28 hB) (q_prefixOf hB ho ?_)
          rw [op1]
          have hle := (ho.le (key := tK (nx r))).1
          have hS := toI (slP (opP sl (tK (nx r)))) (by omega)
          refine xP_s rfl rfl rfl ?_
          refine xP_if (fun z5 => ?_) (fun z5 => ?_)
          · have y5 := xc_t z5
            dsimp only at y5
            refine no ?_
            have : (opP sl (tK (nx r))).isSome = true := (slP_pos ho).2.mp (by omega)
            unfold bare
            simp [this]
          · have y5 := xc_f z5
            dsimp only at y5
            refine yes ?_
            have : (opP sl (tK (nx r))).isSome = false := by
              cases h : (opP sl (tK (nx r))).isSome with
              | false => rfl
              | true =>
                have := (slP_pos ho).2.mpr h
                omega
            unfold bare
            simp [this, hsB, hnc, h1, ← hb]
end NG
