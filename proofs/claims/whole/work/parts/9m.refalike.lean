-- the reference: alike, look
section WP2
variable {sc : xSc} {d g : Nat} {B C : List xC} {o : Nat → Int64} {P : xO → xH → Prop} {v : Nat → Int32} {a : Nat → Nat → Int32} {N : List (List Nat)} {Ts : List (List xIt)} {Q : List xIt} {t : List Nat} {sl : List xSl} {x y : Int32}
theorem dr_at {L R : List xIt} {s k : Nat} {p : xIt} (h : Q.drop s = L ++ R) (hk : L[k]? = some p) : Q[s + k]? = some p := by
  have := congrArg (fun l => l[k]?) h
  simp only [List.getElem?_drop] at this
  rw [this, List.getElem?_append_left (List.getElem?_eq_some_iff.mp hk).1]
  exact hk
theorem tke_s {L M : List xIt} {k : Nat} {p : xIt} (h : L.take k = M.take k) (h1 : L[k]? = some p) (h2 : M[k]? = some p) : L.take (k + 1) = M.take (k + 1) := by
  rw [List.take_add_one, List.take_add_one, h, h1, h2]
theorem tk_le (i : Nat) : (Ts.take i).flatten.length ≤ Ts.flatten.length := by
  conv => rhs; rw [← List.take_append_drop i Ts, List.flatten_append, List.length_append]
  omega
set_option maxHeartbeats 4000000 in
set_option maxRecDepth 100000 in
theorem q_alkLoop {L M R1 R2 : List xIt} {i j s1 s2 : Nat} (hB : B.length = 28) (hn : zN v a N) (hq : zQ v a N Q) (hi : i ≤ 40) (hj : j ≤ 40) (h1 : a 38 i = nI s1) (h2 : a 38 j = nI s2) (d1 : Q.drop s1 = L ++ R1) (d2 : Q.drop s2 = M ++ R2) (hl : L.length = M.length) (okL : ∀ p ∈ L, okIt p) (okM : ∀ p ∈ M, okIt p)
    (k : P (.inl (some (.int (xb (decide (L = M)))))) (mH B C v a o, g)) : ∀ (m c : Nat) (ex : xL), (ex = [] ∨ ∃ y z, ex = [(6, .int y), (7, .int z)]) → c + m = L.length → L.take c = M.take c → xP sc d 196 79 ([(0, .ref 28), (1, .int (nI i)), (2, .int (nI j)), (3, .int (nI L.length)), (4, .int 1), (5, .int (nI c))] ++ ex) [] (mH B C v a o, g) P
  | m, c, ex, hex, hm, he => by
    have hqm := hq.2.1
    have hll : L.length ≤ 1000 := by
      have := congrArg List.length d1
      rw [List.length_drop, List.length_append] at this
      omega
    have hLi := toI L.length (by omega)
    have hCi := toI c (by omega)
    have base : xP sc d 196 79 [(0, .ref 28), (1, .int (nI i)), (2, .int (nI j)), (3, .int (nI L.length)), (4, .int 1), (5, .int (nI c))] [] (mH B C v a o, g) P := by
      cases m with
      | zero =>
        have eLM : L = M := by
          rwa [List.take_of_length_le (by omega), List.take_of_length_le (by omega)] at he
        rw [decide_eq_true eLM] at k
        refine xP_s rfl rfl rfl ?_
        refine xP_s rfl rfl rfl ?_
        refine xP_s rfl rfl rfl ?_
        refine xP_if (fun z => ?_) (fun z => ?_)
        · repeat' first
            | refine xP_s rfl rfl rfl ?_
            | refine xP_ret rfl rfl rfl ?_
          exact k
        · have q := xc_f z
          dsimp only at q
          omega
      | succ m =>
        obtain ⟨p, hp⟩ : ∃ p, L[c]? = some p := ⟨L[c]'(by omega), List.getElem?_eq_getElem (by omega)⟩
        obtain ⟨q, hqq⟩ : ∃ q, M[c]? = some q := ⟨M[c]'(by omega), List.getElem?_eq_getElem (by omega)⟩
        have g1 := dr_at d1 hp
        have g2 := dr_at d2 hqq
        have gl1 := (List.getElem?_eq_some_iff.mp g1).1
        have gl2 := (List.getElem?_eq_some_iff.mp g2).1
        have z1 := hq.2.2 _ p g1
        have z2 := hq.2.2 _ q g2
        have heq := zP_eq hn.2.2.1 hn.2.2.2.2.1 z1 z2 (okL p (List.mem_of_getElem? hp)) (okM q (List.mem_of_getElem? hqq))
        have no : ¬ p = q → xP sc d 196 167 [(0, .ref 28), (1, .int (nI i)), (2, .int (nI j)), (3, .int (nI L.length)), (4, .int 1), (5, .int (nI c)), (6, .int (nI (s1 + c))), (7, .int (nI (s2 + c)))] [] (mH B C v a o, g) P := by
          intro hne
          have eLM : ¬ L = M := fun h => by
            rw [h, hqq] at hp
            exact hne (Option.some.inj hp).symm
          rw [decide_eq_false eLM] at k
          refine xP_s rfl rfl rfl ?_
          refine xP_s rfl rfl rfl ?_
          refine xP_s rfl rfl rfl ?_
          refine xP_s rfl rfl rfl ?_
          refine xP_s rfl rfl rfl ?_
          refine xP_s rfl rfl rfl ?_
          refine xP_s rfl rfl rfl ?_
          refine xP_if (fun z => ?_) (fun z => ?_)
          · repeat' first
              | refine xP_s rfl rfl rfl ?_
              | refine xP_ret rfl rfl rfl ?_
            exact k
          · repeat' first
              | refine xP_s rfl rfl rfl ?_
              | refine xP_ret rfl rfl rfl ?_
            exact k
        refine xP_s rfl rfl rfl ?_
        refine xP_s rfl rfl rfl ?_
        refine xP_s rfl rfl rfl ?_
        refine xP_if (fun z => ?_) (fun z => ?_)
        · have q := xc_t z
          dsimp only at q
          omega
        · refine xP_s rfl rfl rfl ?_
          refine xP_s rfl rfl rfl ?_
          refine xP_s rfl rfl rfl ?_
          refine xP_get rfl (mH_28 hB) rfl ?_
          refine xP_s rfl rfl rfl ?_
          refine xP_zl (n := 41) rfl hB rfl rfl (by omega) h1 ?_
          refine xP_s rfl rfl rfl ?_
          refine xP_s rfl rfl rfl ?_
          rw [nI_add]
          refine xP_s rfl rfl rfl ?_
          refine xP_s rfl rfl rfl ?_
          refine xP_get rfl (mH_28 hB) rfl ?_
          refine xP_s rfl rfl rfl ?_
          refine xP_zl (n := 41) rfl hB rfl rfl (by omega) h2 ?_
          refine xP_s rfl rfl rfl ?_
          refine xP_s rfl rfl rfl ?_
          rw [nI_add]
          refine xP_s rfl rfl rfl ?_
          refine xP_s rfl rfl rfl ?_
          refine xP_get rfl (mH_28 hB) rfl ?_
          refine xP_s rfl rfl rfl ?_
          refine xP_zl (n := 1000) rfl hB rfl rfl (by omega) rfl ?_
          refine xP_s rfl rfl rfl ?_
          refine xP_get rfl (mH_28 hB) rfl ?_
          refine xP_s rfl rfl rfl ?_
          refine xP_zl (n := 1000) rfl hB rfl rfl (by omega) rfl ?_
          refine xP_s rfl rfl rfl ?_
          refine xP_if (fun y1 => ?_) (fun y1 => ?_)
          · have w1 := xc_t y1
            dsimp only at w1
            exact no (fun h => w1 (by rw [(heq.mpr h).1]))
          · have w1 := xc_f y1
            dsimp only at w1
            refine xP_s rfl rfl rfl ?_
            refine xP_get rfl (mH_28 hB) rfl ?_
            refine xP_s rfl rfl rfl ?_
            refine xP_zl (n := 1000) rfl hB rfl rfl (by omega) rfl ?_
            refine xP_s rfl rfl rfl ?_
            refine xP_get rfl (mH_28 hB) rfl ?_
            refine xP_s rfl rfl rfl ?_
            refine xP_zl (n := 1000) rfl hB rfl rfl (by omega) rfl ?_
            refine xP_s rfl rfl rfl ?_
            refine xP_if (fun y2 => ?_) (fun y2 => ?_)
            · have w2 := xc_t y2
              dsimp only at w2
              exact no (fun h => w2 (by rw [(heq.mpr h).2.1]))
            · have w2 := xc_f y2
              dsimp only at w2
              refine xP_s rfl rfl rfl ?_
              refine xP_get rfl (mH_28 hB) rfl ?_
              refine xP_s rfl rfl rfl ?_
              refine xP_zl (n := 1000) rfl hB rfl rfl (by omega) rfl ?_
              refine xP_s rfl rfl rfl ?_
              refine xP_get rfl (mH_28 hB) rfl ?_
              refine xP_s rfl rfl rfl ?_
              refine xP_zl (n := 1000) rfl hB rfl rfl (by omega) rfl ?_
              refine xP_s rfl rfl rfl ?_
              refine xP_if (fun y3 => ?_) (fun y3 => ?_)
              · have w3 := xc_t y3
                dsimp only at w3
                exact no (fun h => w3 (by rw [(heq.mpr h).2.2]))
              · have w3 := xc_f y3
                dsimp only at w3
                have epq := heq.mp ⟨Int32.toInt_inj.mp w1, Int32.toInt_inj.mp w2, Int32.toInt_inj.mp w3⟩
                rw [← epq] at hqq
                have go := q_alkLoop hB hn hq hi hj h1 h2 d1 d2 hl okL okM k m (c + 1) [(6, .int (nI (s1 + c))), (7, .int (nI (s2 + c)))] (Or.inr ⟨_, _, rfl⟩) (by omega) (tke_s he hp hqq)
                rw [← nI_p1 c] at go
                refine xP_s rfl rfl rfl ?_
                refine xP_s rfl rfl rfl ?_
                refine xP_s rfl rfl rfl ?_
                refine xP_s rfl rfl rfl ?_
                refine xP_s rfl rfl rfl ?_
                exact go
    rcases hex with rfl | ⟨y, z, rfl⟩
    · exact base
    · exact xP_more [(6, .int y), (7, .int z)] rfl base
  termination_by m => m
set_option maxHeartbeats 4000000 in
set_option maxRecDepth 100000 in
theorem q_alike (hB : B.length = 28) (hW : zW t sl v a o N Ts) (hok : ∀ L ∈ Ts, ∀ p ∈ L, okIt p)
    (k0 : (isT Ts x && isT Ts y) = false → P (.inl (some (.int 0))) (mH B C (upd v 0 1) a o, g))
    (k1 : ∀ L M, 0 ≤ x.toInt → 0 ≤ y.toInt → Ts[x.toInt.toNat]? = some L → Ts[y.toInt.toNat]? = some M → P (.inl (some (.int (xb (decide (L = M)))))) (mH B C (upd v 0 0) a o, g)) : xM1 sc (d + 1) 196 [.ref 28, .int x, .int y] (mH B C v a o, g) P := by
  have hm := hW.2.2.2.2
  have h40 := hm.2.1
  have no : (isT Ts x && isT Ts y) = false → xP sc (d + 1) 196 21 [(0, .ref 28), (1, .int x), (2, .int y)] [.ref 28] (mH B C v a o, g) P := by
    intro h
    have k0 := k0 h
    refine xP_s rfl rfl rfl ?_
    refine xP_zp rfl hB rfl rfl ?_
    refine xP_s rfl rfl rfl ?_
    refine xP_zg rfl hB rfl upd_s ?_
    repeat' first
      | refine xP_s rfl rfl rfl ?_
      | refine xP_ret rfl rfl rfl ?_
    exact k0
  unfold xM1
  refine xP_s rfl rfl rfl ?_
  refine xP_s rfl rfl rfl ?_
  refine xP_s rfl rfl rfl ?_
  refine xP_cv rfl rfl rfl rfl rfl (mH_28 hB) (q_isTerm hB hm ?_)
  refine xP_s rfl rfl rfl ?_
  rw [xb_eq0]
  refine xP_if (fun y1 => ?_) (fun y1 => ?_)
  · exact no (by rw [show isT Ts x = false by simpa using y1]; rfl)
  · have tx : isT Ts x = true := by simpa using y1
    refine xP_s rfl rfl rfl ?_
    refine xP_s rfl rfl rfl ?_
    refine xP_cv rfl rfl rfl rfl rfl (mH_28 hB) (q_isTerm hB hm ?_)
    refine xP_s rfl rfl rfl ?_
    rw [xb_eq0]
    refine xP_if (fun y2 => ?_) (fun y2 => ?_)
    · exact no (by rw [show isT Ts y = false by simpa using y2]; simp)
    · have ty : isT Ts y = true := by simpa using y2
      have tx' : 0 ≤ x.toInt ∧ x.toInt < Ts.length := of_decide_eq_true tx
      have ty' : 0 ≤ y.toInt ∧ y.toInt < Ts.length := of_decide_eq_true ty
      have hil : x.toInt.toNat < Ts.length := by omega
      have hjl : y.toInt.toNat < Ts.length := by omega
      have ex : x = nI x.toInt.toNat := i_nat rfl tx'.1 (by omega)
      have ey : y = nI y.toInt.toNat := i_nat rfl ty'.1 (by omega)
      obtain ⟨L, hL⟩ : ∃ L, Ts[x.toInt.toNat]? = some L := ⟨Ts[x.toInt.toNat]'hil, List.getElem?_eq_getElem hil⟩
      obtain ⟨M, hM⟩ : ∃ M, Ts[y.toInt.toNat]? = some M := ⟨Ts[y.toInt.toNat]'hjl, List.getElem?_eq_getElem hjl⟩
      have kq := k1 L M tx'.1 ty'.1 hL hM
      clear k1
      obtain ⟨dL, eL⟩ := tk_fl hL
      obtain ⟨dM, eM⟩ := tk_fl hM
      have gx := hm.2.2 x.toInt.toNat (by omega)
      have gx1 := hm.2.2 (x.toInt.toNat + 1) (by omega)
      have gy := hm.2.2 y.toInt.toNat (by omega)
      have gy1 := hm.2.2 (y.toInt.toNat + 1) (by omega)
      rw [eL] at gx1
      rw [eM] at gy1
      have okL := hok L (List.mem_of_getElem? hL)
      have okM := hok M (List.mem_of_getElem? hM)
      have hW2 : zW t sl (upd v 0 0) a o N Ts := hW.same ((vS.u v 0 0).wide (by decide)) (aS.refl a _)
      have hqm := hW.2.2.2.1.2.1
      have lL : (Ts.take x.toInt.toNat).flatten.length + L.length ≤ 1000 := by
        have := congrArg List.length dL
        rw [List.length_drop, List.length_append] at this
        have h5 : (Ts.take x.toInt.toNat).flatten.length ≤ Ts.flatten.length := tk_le _
        omega
      have lM : (Ts.take y.toInt.toNat).flatten.length + M.length ≤ 1000 := by
        have := congrArg List.length dM
        rw [List.length_drop, List.length_append] at this
        have h5 : (Ts.take y.toInt.toNat).flatten.length ≤ Ts.flatten.length := tk_le _
        omega
      have hLi := toI L.length (by omega)
      have hMi := toI M.length (by omega)
      generalize x.toInt.toNat = i at *
      generalize y.toInt.toNat = j at *
      generalize (Ts.take i).flatten.length = s1 at *
      generalize (Ts.take j).flatten.length = s2 at *
      have eL2 : nI (s1 + L.length) - nI s1 = nI L.length := by
        rw [nI_subN (by omega)]
        congr 1
        omega
      have eM2 : nI (s2 + M.length) - nI s2 = nI M.length := by
        rw [nI_subN (by omega)]
        congr 1
        omega
      rw [ex, ey]
      refine xP_s rfl rfl rfl ?_
      refine xP_s rfl rfl rfl ?_
      refine xP_zp rfl hB rfl rfl ?_
      refine xP_s rfl rfl rfl ?_
      refine xP_zg rfl hB rfl upd_s ?_
      refine xP_s rfl rfl rfl ?_
      refine xP_s rfl rfl rfl ?_
      refine xP_get rfl (mH_28 hB) rfl ?_
      refine xP_s rfl rfl rfl ?_
      refine xP_s rfl rfl rfl ?_
      refine xP_s rfl rfl rfl ?_
      rw [nI_p1]
      refine xP_zl (n := 41) rfl hB rfl rfl (by omega) gx1 ?_
      refine xP_s rfl rfl rfl ?_
      refine xP_get rfl (mH_28 hB) rfl ?_
      refine xP_s rfl rfl rfl ?_
      refine xP_zl (n := 41) rfl hB rfl rfl (by omega) gx ?_
      refine xP_s rfl rfl rfl ?_
      rw [eL2]
      refine xP_s rfl rfl rfl ?_
      refine xP_s rfl rfl rfl ?_
      refine xP_s rfl rfl rfl ?_
      refine xP_get rfl (mH_28 hB) rfl ?_
      refine xP_s rfl rfl rfl ?_
      refine xP_s rfl rfl rfl ?_
      refine xP_s rfl rfl rfl ?_
      rw [nI_p1]
      refine xP_zl (n := 41) rfl hB rfl rfl (by omega) gy1 ?_
      refine xP_s rfl rfl rfl ?_
      refine xP_get rfl (mH_28 hB) rfl ?_
      refine xP_s rfl rfl rfl ?_
      refine xP_zl (n := 41) rfl hB rfl rfl (by omega) gy ?_
      refine xP_s rfl rfl rfl ?_
      rw [eM2]
      refine xP_s rfl rfl rfl ?_
      refine xP_if (fun y3 => ?_) (fun y3 => ?_)
      · have q3 := xc_t y3
        dsimp only at q3
        have eLM : ¬ L = M := fun h => q3 (by rw [h])
        rw [decide_eq_false eLM] at kq
        refine xP_s rfl rfl rfl ?_
        refine xP_s rfl rfl rfl ?_
        refine xP_s rfl rfl rfl ?_
        refine xP_s rfl rfl rfl ?_
        refine xP_s rfl rfl rfl ?_
        refine xP_s rfl rfl rfl ?_
        refine xP_s rfl rfl rfl ?_
        refine xP_if (fun z => ?_) (fun z => ?_)
        · repeat' first
            | refine xP_s rfl rfl rfl ?_
            | refine xP_ret rfl rfl rfl ?_
          exact kq
        · repeat' first
            | refine xP_s rfl rfl rfl ?_
            | refine xP_ret rfl rfl rfl ?_
          exact kq
      · have q3 := xc_f y3
        dsimp only at q3
        have go := q_alkLoop (sc := sc) (d := d + 1) (C := C) (o := o) (g := g) (P := P) (i := i) (j := j) hB hW2.2.2.1 hW2.2.2.2.1 (by omega) (by omega) gx gy dL dM (by omega) okL okM kq L.length 0 [] (Or.inl rfl) (by omega) rfl
        refine xP_s rfl rfl rfl ?_
        refine xP_s rfl rfl rfl ?_
        refine xP_s rfl rfl rfl ?_
        refine xP_s rfl rfl rfl ?_
        refine xP_s rfl rfl rfl ?_
        exact go
end WP2
