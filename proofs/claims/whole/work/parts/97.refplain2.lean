-- the reference: isPlain, name
section WD2
variable {sc : xSc} {d g : Nat} {B C : List xC} {o : Nat → Int64} {P : xO → xH → Prop} {v : Nat → Int32} {a : Nat → Nat → Int32} {N : List (List Nat)} {l : List Nat} {j : Nat}
theorem oz_lt {l : List Nat} (hl : ∀ i c : Nat, l[i]? = some c → c < 128) (k : Nat) : oz l k < 128 := by
  unfold oz
  cases h : l[k]? with
  | none => exact (by decide : 0 < 128)
  | some c => exact hl k c h
set_option maxRecDepth 100000 in
theorem q_plTail {x1 x3 x8 : Int32} {W S : Bool} (hl : ∀ i c : Nat, l[i]? = some c → c < 128) (hll : l.length ≤ 130) (hW : W = wdN l) (hS : S = sgN l) (k : P (.inl (some (.int (xb (plR l))))) (mH B C v a o, g)) :
    xP sc d 183 161 [(0, .ref 28), (1, .int x1), (2, .int (nI l.length)), (3, .int x3), (4, .int (nI (oz l 0))), (5, .int (nI (oz l 1))), (6, .int (xb W)), (7, .int (xb S)), (8, .int x8)] [] (mH B C v a o, g) P := by
  have hL := toI l.length (by omega)
  have l0 := oz_lt hl 0
  have l1 := oz_lt hl 1
  have h0 := toI (oz l 0) (by omega)
  have h1 := toI (oz l 1) (by omega)
  have c1 : (1 : Int32).toInt = 1 := rfl
  have c2 : (2 : Int32).toInt = 2 := rfl
  have c33 : (33 : Int32).toInt = 33 := rfl
  have c42 : (42 : Int32).toInt = 42 := rfl
  have c46 : (46 : Int32).toInt = 46 := rfl
  have c47 : (47 : Int32).toInt = 47 := rfl
  have c59 : (59 : Int32).toInt = 59 := rfl
  have c91 : (91 : Int32).toInt = 91 := rfl
  have c93 : (93 : Int32).toInt = 93 := rfl
  have c123 : (123 : Int32).toInt = 123 := rfl
  have c125 : (125 : Int32).toInt = 125 := rfl
  have yes : plR l = true → ∀ y8, xP sc d 183 261 [(0, .ref 28), (1, .int x1), (2, .int (nI l.length)), (3, .int x3), (4, .int (nI (oz l 0))), (5, .int (nI (oz l 1))), (6, .int (xb W)), (7, .int (xb S)), (8, .int y8)] [] (mH B C v a o, g) P := by
    intro h y8
    rw [h] at k
    repeat' first
      | refine xP_s rfl rfl rfl ?_
      | refine xP_ret rfl rfl rfl ?_
    exact k
  have no : plR l = false → ∀ y8, xP sc d 183 265 [(0, .ref 28), (1, .int x1), (2, .int (nI l.length)), (3, .int x3), (4, .int (nI (oz l 0))), (5, .int (nI (oz l 1))), (6, .int (xb W)), (7, .int (xb S)), (8, .int y8)] [] (mH B C v a o, g) P := by
    intro h y8
    rw [h] at k
    repeat' first
      | refine xP_s rfl rfl rfl ?_
      | refine xP_ret rfl rfl rfl ?_
    exact k
  -- two characters
  have at228 : (wdN l || ((sgN l && !oddN l) || oneN l)) = false → ∀ y8, xP sc d 183 228 [(0, .ref 28), (1, .int x1), (2, .int (nI l.length)), (3, .int x3), (4, .int (nI (oz l 0))), (5, .int (nI (oz l 1))), (6, .int (xb W)), (7, .int (xb S)), (8, .int y8)] [] (mH B C v a o, g) P := by
    intro h y8
    have e : plR l = twoN l := by
      unfold plR
      rw [Bool.or_eq_false_iff, Bool.or_eq_false_iff] at h
      rw [h.1, h.2.1, h.2.2]
      rfl
    rw [e] at yes no
    have ey : ∀ {b : Bool}, (b = true ↔ (l.length = 2 ∧ ((oz l 0 = 91 ∧ oz l 1 = 93) ∨ (oz l 0 = 123 ∧ oz l 1 = 125)))) → b = twoN l := fun hb => by
      rw [Bool.eq_iff_iff, hb]
      unfold twoN
      rw [Bool.and_eq_true, Bool.or_eq_true, Bool.and_eq_true, Bool.and_eq_true, decide_eq_true_iff, decide_eq_true_iff, decide_eq_true_iff, decide_eq_true_iff, decide_eq_true_iff]
    have n247 : ¬ (oz l 0 = 91 ∧ oz l 1 = 93) → l.length = 2 → xP sc d 183 247 [(0, .ref 28), (1, .int x1), (2, .int (nI l.length)), (3, .int x3), (4, .int (nI (oz l 0))), (5, .int (nI (oz l 1))), (6, .int (xb W)), (7, .int (xb S)), (8, .int y8)] [] (mH B C v a o, g) P := by
      intro n1 n2
      refine xP_s rfl rfl rfl ?_
      refine xP_s rfl rfl rfl ?_
      refine xP_s rfl rfl rfl ?_
      refine xP_if (fun z => ?_) (fun z => ?_)
      · have q := xc_t z
        dsimp only at q
        exact no (ey (b := false) ⟨fun t => Bool.noConfusion t, fun t => by omega⟩).symm _
      · have q := xc_f z
        dsimp only at q
        refine xP_s rfl rfl rfl ?_
        refine xP_s rfl rfl rfl ?_
        refine xP_s rfl rfl rfl ?_
        refine xP_if (fun z => ?_) (fun z => ?_)
        · have q2 := xc_t z
          dsimp only at q2
          exact no (ey (b := false) ⟨fun t => Bool.noConfusion t, fun t => by omega⟩).symm _
        · have q2 := xc_f z
          dsimp only at q2
          exact yes (ey (b := true) ⟨fun t => ⟨n2, Or.inr ⟨by omega, by omega⟩⟩, fun _ => rfl⟩).symm _
    refine xP_s rfl rfl rfl ?_
    refine xP_s rfl rfl rfl ?_
    refine xP_s rfl rfl rfl ?_
    refine xP_if (fun z => ?_) (fun z => ?_)
    · have q := xc_t z
      dsimp only at q
      exact no (ey (b := false) ⟨fun t => Bool.noConfusion t, fun t => by omega⟩).symm _
    · have q := xc_f z
      dsimp only at q
      refine xP_s rfl rfl rfl ?_
      refine xP_s rfl rfl rfl ?_
      refine xP_s rfl rfl rfl ?_
      refine xP_if (fun z => ?_) (fun z => ?_)
      · have q2 := xc_t z
        dsimp only at q2
        exact n247 (by omega) (by omega)
      · have q2 := xc_f z
        dsimp only at q2
        refine xP_s rfl rfl rfl ?_
        refine xP_s rfl rfl rfl ?_
        refine xP_s rfl rfl rfl ?_
        refine xP_if (fun z => ?_) (fun z => ?_)
        · have q3 := xc_t z
          dsimp only at q3
          exact yes (ey (b := true) ⟨fun t => ⟨by omega, Or.inl ⟨by omega, by omega⟩⟩, fun _ => rfl⟩).symm _
        · have q3 := xc_f z
          dsimp only at q3
          exact n247 (by omega) (by omega)
  -- one character
  have at209 : (wdN l || (sgN l && !oddN l)) = false → ∀ y8, xP sc d 183 209 [(0, .ref 28), (1, .int x1), (2, .int (nI l.length)), (3, .int x3), (4, .int (nI (oz l 0))), (5, .int (nI (oz l 1))), (6, .int (xb W)), (7, .int (xb S)), (8, .int y8)] [] (mH B C v a o, g) P := by
    intro h y8
    rw [Bool.or_eq_false_iff] at h
    have e1 : oneN l = true ↔ (l.length = 1 ∧ (oz l 0 = 33 ∨ oz l 0 = 59)) := by
      unfold oneN
      rw [Bool.and_eq_true, Bool.or_eq_true, decide_eq_true_iff, decide_eq_true_iff, decide_eq_true_iff]
    have yy : oneN l = true → plR l = true := fun q => by
      unfold plR
      rw [q]
      simp
    have nn : ¬ (l.length = 1 ∧ (oz l 0 = 33 ∨ oz l 0 = 59)) → (wdN l || ((sgN l && !oddN l) || oneN l)) = false := fun q => by
      have : oneN l = false := by
        cases ho : oneN l with
        | false => rfl
        | true => exact absurd (e1.mp ho) q
      rw [h.1, h.2, this]
      rfl
    refine xP_s rfl rfl rfl ?_
    refine xP_s rfl rfl rfl ?_
    refine xP_s rfl rfl rfl ?_
    refine xP_if (fun z => ?_) (fun z => ?_)
    · have q := xc_t z
      dsimp only at q
      exact at228 (nn (by omega)) _
    · have q := xc_f z
      dsimp only at q
      refine xP_s rfl rfl rfl ?_
      refine xP_s rfl rfl rfl ?_
      refine xP_s rfl rfl rfl ?_
      refine xP_if (fun z => ?_) (fun z => ?_)
      · have q2 := xc_t z
        dsimp only at q2
        exact yes (yy (e1.mpr ⟨by omega, Or.inl (by omega)⟩)) _
      · have q2 := xc_f z
        dsimp only at q2
        refine xP_s rfl rfl rfl ?_
        refine xP_s rfl rfl rfl ?_
        refine xP_s rfl rfl rfl ?_
        refine xP_if (fun z => ?_) (fun z => ?_)
        · have q3 := xc_t z
          dsimp only at q3
          exact yes (yy (e1.mpr ⟨by omega, Or.inr (by omega)⟩)) _
        · have q3 := xc_f z
          dsimp only at q3
          exact at228 (nn (by omega)) _
  -- words and signs
  have at192 : ∀ D : Bool, D = oddN l → xP sc d 183 192 [(0, .ref 28), (1, .int x1), (2, .int (nI l.length)), (3, .int x3), (4, .int (nI (oz l 0))), (5, .int (nI (oz l 1))), (6, .int (xb W)), (7, .int (xb S)), (8, .int x8)] [.int (xb D)] (mH B C v a o, g) P := by
    intro D hD
    refine xP_s rfl rfl rfl ?_
    refine xP_s rfl rfl rfl ?_
    refine xP_s rfl rfl rfl ?_
    rw [xb_ne0]
    refine xP_if (fun z => ?_) (fun z => ?_)
    · refine yes ?_ _
      unfold plR
      rw [← hW, z]
      rfl
    · refine xP_s rfl rfl rfl ?_
      refine xP_s rfl rfl rfl ?_
      rw [xb_eq0]
      refine xP_if (fun z2 => ?_) (fun z2 => ?_)
      · refine at209 ?_ _
        have h2 : S = false := by simpa using z2
        rw [← hW, ← hS, z, h2]
        rfl
      · have h2 : S = true := by simpa using z2
        refine xP_s rfl rfl rfl ?_
        refine xP_s rfl rfl rfl ?_
        rw [xb_eq0]
        refine xP_if (fun z3 => ?_) (fun z3 => ?_)
        · refine yes ?_ _
          have h3 : D = false := by simpa using z3
          unfold plR
          rw [← hS, ← hD, h2, h3]
          simp
        · refine at209 ?_ _
          have h3 : D = true := by simpa using z3
          rw [← hW, ← hS, ← hD, z, h2, h3]
          rfl
  have eo : oddN l = true ↔ ((l.length = 1 ∧ oz l 0 = 46) ∨ (oz l 0 = 47 ∧ oz l 1 = 42)) := by
    unfold oddN
    rw [Bool.or_eq_true, Bool.and_eq_true, Bool.and_eq_true, decide_eq_true_iff, decide_eq_true_iff, decide_eq_true_iff, decide_eq_true_iff]
  have od1 : ((l.length = 1 ∧ oz l 0 = 46) ∨ (oz l 0 = 47 ∧ oz l 1 = 42)) → xP sc d 183 187 [(0, .ref 28), (1, .int x1), (2, .int (nI l.length)), (3, .int x3), (4, .int (nI (oz l 0))), (5, .int (nI (oz l 1))), (6, .int (xb W)), (7, .int (xb S)), (8, .int x8)] [] (mH B C v a o, g) P := by
    intro q
    have kk := at192 true (eo.mpr q).symm
    refine xP_s rfl rfl rfl ?_
    refine xP_s rfl rfl rfl ?_
    exact kk
  have od0 : ¬ ((l.length = 1 ∧ oz l 0 = 46) ∨ (oz l 0 = 47 ∧ oz l 1 = 42)) → xP sc d 183 191 [(0, .ref 28), (1, .int x1), (2, .int (nI l.length)), (3, .int x3), (4, .int (nI (oz l 0))), (5, .int (nI (oz l 1))), (6, .int (xb W)), (7, .int (xb S)), (8, .int x8)] [] (mH B C v a o, g) P := by
    intro q
    have kk := at192 false (by
      cases ho : oddN l with
      | false => rfl
      | true => exact absurd (eo.mp ho) q)
    refine xP_s rfl rfl rfl ?_
    exact kk
  have at173 : ¬ (l.length = 1 ∧ oz l 0 = 46) → xP sc d 183 173 [(0, .ref 28), (1, .int x1), (2, .int (nI l.length)), (3, .int x3), (4, .int (nI (oz l 0))), (5, .int (nI (oz l 1))), (6, .int (xb W)), (7, .int (xb S)), (8, .int x8)] [] (mH B C v a o, g) P := by
    intro n1
    refine xP_s rfl rfl rfl ?_
    refine xP_s rfl rfl rfl ?_
    refine xP_s rfl rfl rfl ?_
    refine xP_if (fun z => ?_) (fun z => ?_)
    · have q := xc_t z
      dsimp only at q
      exact od0 (by omega)
    · have q := xc_f z
      dsimp only at q
      refine xP_s rfl rfl rfl ?_
      refine xP_s rfl rfl rfl ?_
      refine xP_s rfl rfl rfl ?_
      refine xP_if (fun z => ?_) (fun z => ?_)
      · have q2 := xc_t z
        dsimp only at q2
        exact od0 (by omega)
      · have q2 := xc_f z
        dsimp only at q2
        exact od1 (by omega)
  refine xP_s rfl rfl rfl ?_
  refine xP_s rfl rfl rfl ?_
  refine xP_s rfl rfl rfl ?_
  refine xP_if (fun z => ?_) (fun z => ?_)
  · have q := xc_t z
    dsimp only at q
    exact at173 (by omega)
  · have q := xc_f z
    dsimp only at q
    refine xP_s rfl rfl rfl ?_
    refine xP_s rfl rfl rfl ?_
    refine xP_s rfl rfl rfl ?_
    refine xP_if (fun z => ?_) (fun z => ?_)
    · have q2 := xc_t z
      dsimp only at q2
      exact od1 (by omega)
    · have q2 := xc_f z
      dsimp only at q2
      exact at173 (by omega)
set_option maxHeartbeats 4000000 in
set_option maxRecDepth 100000 in
theorem q_isPlain (hB : B.length = 28) (hn : zN v a N) (hj : N[j]? = some l) (k : P (.inl (some (.int (xb (pln l))))) (mH B C v a o, g)) : xM1 sc (d + 1) 183 [.ref 28, .int (nI j)] (mH B C v a o, g) P := by
  have hjl := (List.getElem?_eq_some_iff.mp hj).1
  have hof := ofN_le hj
  have hN := hn.2.2.1
  have hN2 := hn.2.2.2.1
  obtain ⟨m1, m2, m3, m4⟩ := hn.2.2.2.2.2 j l hj
  have hL := toI l.length (by omega)
  have hlt : ∀ i c : Nat, l[i]? = some c → c < 128 := fun i c h => (m4 i c h).1
  have hlm : ∀ c ∈ l, c < 128 := fun c hc => by
    obtain ⟨i, hi⟩ := List.mem_iff_getElem?.mp hc
    exact hlt i c hi
  rw [← plR_e hlm] at k
  have l0 := oz_lt hlt 0
  have c0 : (0 : Int32).toInt = 0 := rfl
  have c1 : (1 : Int32).toInt = 1 := rfl
  have at77 : ∀ W S : Bool, (W && l.all isWd) = wdN l → (S && l.all isSg) = sgN l → xP sc (d + 1) 183 77 [(0, .ref 28), (1, .int (nI j)), (2, .int (nI l.length)), (3, .int (nI (ofN N j))), (4, .int (nI (oz l 0))), (5, .int (nI (oz l 1))), (6, .int (xb W))] [.int (xb S)] (mH B C v a o, g) P := by
    intro W S hW hS
    have lp := q_plLoop (sc := sc) (d := d) (C := C) (o := o) (g := g) (P := P) (x1 := nI j) (x4 := nI (oz l 0)) (x5 := nI (oz l 1)) hB hn hj l.length 0 W S [] (Or.inl rfl) (by omega) (fun x8 => by
      rw [List.drop_zero, hW, hS]
      exact q_plTail hlt (by omega) rfl rfl k)
    refine xP_s rfl rfl rfl ?_
    refine xP_s rfl rfl rfl ?_
    refine xP_s rfl rfl rfl ?_
    exact lp
  have at66 : ∀ W : Bool, (W && l.all isWd) = wdN l → xP sc (d + 1) 183 66 [(0, .ref 28), (1, .int (nI j)), (2, .int (nI l.length)), (3, .int (nI (ofN N j))), (4, .int (nI (oz l 0))), (5, .int (nI (oz l 1)))] [.int (xb W)] (mH B C v a o, g) P := by
    intro W hW
    refine xP_s rfl rfl rfl ?_
    refine xP_s rfl rfl rfl ?_
    refine xP_s rfl rfl rfl ?_
    refine xP_if (fun z => ?_) (fun z => ?_)
    · have q := xc_t z
      dsimp only at q
      have kk := at77 W false hW (by
        unfold sgN
        rw [decide_eq_false (by omega)])
      refine xP_s rfl rfl rfl ?_
      exact kk
    · have q := xc_f z
      dsimp only at q
      have kk := at77 W true hW (by
        unfold sgN
        rw [decide_eq_true (by omega)])
      refine xP_s rfl rfl rfl ?_
      refine xP_s rfl rfl rfl ?_
      exact kk
  have at47 : xP sc (d + 1) 183 47 [(0, .ref 28), (1, .int (nI j)), (2, .int (nI l.length)), (3, .int (nI (ofN N j))), (4, .int (nI (oz l 0)))] [.int (nI (oz l 1))] (mH B C v a o, g) P := by
    refine xP_s rfl rfl rfl ?_
    refine xP_s rfl rfl rfl ?_
    refine xP_s rfl rfl rfl ?_
    refine xP_if (fun z => ?_) (fun z => ?_)
    · have q := xc_t z
      dsimp only at q
      have kk := at66 false (by
        unfold wdN
        rw [decide_eq_false (by omega)]
        rfl)
      refine xP_s rfl rfl rfl ?_
      exact kk
    · have q := xc_f z
      dsimp only at q
      refine xP_s rfl rfl rfl ?_
      refine xP_call rfl rfl rfl (q_isSmall l0 ?_)
      refine xP_s rfl rfl rfl ?_
      rw [xb_eq0]
      refine xP_if (fun z => ?_) (fun z => ?_)
      · have h2 : isSm (oz l 0) = false := by simpa using z
        have kk := at66 false (by
          unfold wdN
          rw [h2]
          simp)
        refine xP_s rfl rfl rfl ?_
        exact kk
      · have h2 : isSm (oz l 0) = true := by simpa using z
        have kk := at66 true (by
          unfold wdN
          rw [h2, decide_eq_true (by omega)]
          rfl)
        refine xP_s rfl rfl rfl ?_
        refine xP_s rfl rfl rfl ?_
        exact kk
  have at28 : xP sc (d + 1) 183 28 [(0, .ref 28), (1, .int (nI j)), (2, .int (nI l.length)), (3, .int (nI (ofN N j)))] [.int (nI (oz l 0))] (mH B C v a o, g) P := by
    refine xP_s rfl rfl rfl ?_
    refine xP_s rfl rfl rfl ?_
    refine xP_s rfl rfl rfl ?_
    refine xP_s rfl rfl rfl ?_
    refine xP_if (fun z => ?_) (fun z => ?_)
    · have q := xc_t z
      dsimp only at q
      have e : oz l 1 = 0 := by
        unfold oz
        rw [List.getElem?_eq_none (by omega)]
        rfl
      rw [e] at at47
      refine xP_s rfl rfl rfl ?_
      exact at47
    · have q := xc_f z
      dsimp only at q
      obtain ⟨c, hc⟩ : ∃ c, l[1]? = some c := ⟨l[1]'(by omega), List.getElem?_eq_getElem (by omega)⟩
      have e : oz l 1 = c := by
        unfold oz
        rw [hc]
        rfl
      rw [e] at at47
      refine xP_s rfl rfl rfl ?_
      refine xP_get rfl (mH_28 hB) rfl ?_
      refine xP_s rfl rfl rfl ?_
      refine xP_s rfl rfl rfl ?_
      refine xP_s rfl rfl rfl ?_
      rw [nI_p1]
      refine xP_zl (n := 4600) rfl hB rfl rfl (by omega) (m4 1 c hc).2 ?_
      refine xP_s rfl rfl rfl ?_
      exact at47
  unfold xM1
  refine xP_s rfl rfl rfl ?_
  refine xP_get rfl (mH_28 hB) rfl ?_
  refine xP_s rfl rfl rfl ?_
  refine xP_zl (n := 1500) rfl hB rfl rfl (by omega) m3 ?_
  refine xP_s rfl rfl rfl ?_
  refine xP_s rfl rfl rfl ?_
  refine xP_get rfl (mH_28 hB) rfl ?_
  refine xP_s rfl rfl rfl ?_
  refine xP_zl (n := 1500) rfl hB rfl rfl (by omega) m2 ?_
  refine xP_s rfl rfl rfl ?_
  refine xP_s rfl rfl rfl ?_
  refine xP_s rfl rfl rfl ?_
  refine xP_if (fun z => ?_) (fun z => ?_)
  · have q := xc_t z
    dsimp only at q
    have e : oz l 0 = 0 := by
      unfold oz
      rw [List.getElem?_eq_none (by omega)]
      rfl
    rw [e] at at28
    refine xP_s rfl rfl rfl ?_
    exact at28
  · have q := xc_f z
    dsimp only at q
    obtain ⟨c, hc⟩ : ∃ c, l[0]? = some c := ⟨l[0]'(by omega), List.getElem?_eq_getElem (by omega)⟩
    have e : oz l 0 = c := by
      unfold oz
      rw [hc]
      rfl
    rw [e] at at28
    refine xP_s rfl rfl rfl ?_
    refine xP_get rfl (mH_28 hB) rfl ?_
    refine xP_s rfl rfl rfl ?_
    refine xP_zl (n := 4600) rfl hB rfl rfl (by omega) (m4 0 c hc).2 ?_
    refine xP_s rfl rfl rfl ?_
    exact at28
end WD2
