-- the reference: name
theorem pln_910 {l : List Nat} (hl : ∀ c ∈ l, c < 128) (h : pln l = true) : ∀ c ∈ l, ¬ c = 10 ∧ ¬ c = 9 := by
  rw [← plR_e hl] at h
  unfold plR at h
  rw [Bool.or_eq_true, Bool.or_eq_true, Bool.or_eq_true] at h
  intro c hc
  rcases h with h | h | h | h
  · unfold wdN at h
    rw [Bool.and_eq_true] at h
    have q := List.all_eq_true.mp h.2 c hc
    constructor
    · intro e
      rw [e] at q
      exact absurd q (by decide)
    · intro e
      rw [e] at q
      exact absurd q (by decide)
  · unfold sgN at h
    rw [Bool.and_eq_true, Bool.and_eq_true] at h
    have q := List.all_eq_true.mp h.1.2 c hc
    constructor
    · intro e
      rw [e] at q
      exact absurd q (by decide)
    · intro e
      rw [e] at q
      exact absurd q (by decide)
  · unfold oneN at h
    rw [Bool.and_eq_true, Bool.or_eq_true, decide_eq_true_iff, decide_eq_true_iff, decide_eq_true_iff] at h
    obtain ⟨x, hx⟩ := one_l h.1
    rw [hx] at hc h
    rw [List.mem_singleton] at hc
    rw [oz_c] at h
    omega
  · unfold twoN at h
    rw [Bool.and_eq_true, Bool.or_eq_true, Bool.and_eq_true, Bool.and_eq_true, decide_eq_true_iff, decide_eq_true_iff, decide_eq_true_iff, decide_eq_true_iff, decide_eq_true_iff] at h
    match l, h, hc with
    | [x, y], h, hc =>
      have e1 : oz [x, y] 0 = x := rfl
      have e2 : oz [x, y] 1 = y := rfl
      rw [e1, e2] at h
      rw [List.mem_cons, List.mem_singleton] at hc
      omega
def esW (c : Nat) : Nat := if c = 10 then 110 else if c = 9 then 116 else c
theorem esW_lt {c : Nat} (h : c < 128) : esW c < 128 := by
  unfold esW
  split
  · decide
  · split
    · decide
    · exact h
theorem ecb_t10 {b : Bool} {l : List Nat} {c : Nat} (hb : b = true → ∀ c ∈ l, ¬ c = 10 ∧ ¬ c = 9) (hc : c ∈ l) (h : c = 10) : ecb (!b) c = [92, esW c] := by
  cases b with
  | true => exact absurd h (hb rfl c hc).1
  | false =>
    rw [h]
    decide
theorem ecb_t9 {b : Bool} {l : List Nat} {c : Nat} (hb : b = true → ∀ c ∈ l, ¬ c = 10 ∧ ¬ c = 9) (hc : c ∈ l) (h : c = 9) : ecb (!b) c = [92, esW c] := by
  cases b with
  | true => exact absurd h (hb rfl c hc).2
  | false =>
    rw [h]
    decide
section WE2
variable {sc : xSc} {d g : Nat} {B C : List xC} {o : Nat → Int64} {P : xO → xH → Prop} {N : List (List Nat)} {l : List Nat} {j : Nat}
set_option maxHeartbeats 4000000 in
set_option maxRecDepth 100000 in
theorem q_nmLoop {b : Bool} (hB : B.length = 28) (hj : N[j]? = some l) (hb : b = true → ∀ c ∈ l, ¬ c = 10 ∧ ¬ c = 9) : ∀ (m i : Nat) (v : Nat → Int32) (a : Nat → Nat → Int32) (w : List Nat) (ex : xL), (ex = [] ∨ ∃ y z, ex = [(4, .int y), (5, .int z)]) → i + m = l.length → zN v a N → zX v a w → w.length + ((l.drop i).flatMap (ecb (!b))).length ≤ 2599 →
    (∀ v' a' x3, zX v' a' (w ++ (l.drop i).flatMap (ecb (!b))) → vS v v' [40] → aS a a' [51] → xP sc (d + 1) 184 129 [(0, .ref 28), (1, .int (nI j)), (2, .int (xb b)), (3, .int x3)] [] (mH B C v' a' o, g) P) →
    xP sc (d + 1) 184 18 ([(0, .ref 28), (1, .int (nI j)), (2, .int (xb b)), (3, .int (nI i))] ++ ex) [] (mH B C v a o, g) P
  | 0, i, v, a, w, ex, hex, hm, hn, hx, hr, k => by
    have hjl := (List.getElem?_eq_some_iff.mp hj).1
    have hN := hn.2.2.1
    obtain ⟨m1, m2, m3, m4⟩ := hn.2.2.2.2.2 j l hj
    have hI := toI i (by omega)
    have hL := toI l.length (by omega)
    have ed : l.drop i = [] := List.drop_eq_nil_of_le (by omega)
    rw [ed] at k
    have kk := k v a (nI i) (by rw [List.flatMap_nil, List.append_nil]; exact hx) (vS.refl _ _) (aS.refl _ _)
    have base : xP sc (d + 1) 184 18 [(0, .ref 28), (1, .int (nI j)), (2, .int (xb b)), (3, .int (nI i))] [] (mH B C v a o, g) P := by
      refine xP_s rfl rfl rfl ?_
      refine xP_s rfl rfl rfl ?_
      refine xP_get rfl (mH_28 hB) rfl ?_
      refine xP_s rfl rfl rfl ?_
      refine xP_zl (n := 1500) rfl hB rfl rfl (by omega) m3 ?_
      refine xP_s rfl rfl rfl ?_
      refine xP_if (fun z => ?_) (fun z => ?_)
      · exact kk
      · have q := xc_f z
        dsimp only at q
        omega
    rcases hex with rfl | ⟨y, z, rfl⟩
    · exact base
    · exact xP_more [(4, .int y), (5, .int z)] rfl base
  | m + 1, i, v, a, w, ex, hex, hm, hn, hx, hr, k => by
    have hjl := (List.getElem?_eq_some_iff.mp hj).1
    have hof := ofN_le hj
    have hN := hn.2.2.1
    have hN2 := hn.2.2.2.1
    obtain ⟨m1, m2, m3, m4⟩ := hn.2.2.2.2.2 j l hj
    have hI := toI i (by omega)
    have hL := toI l.length (by omega)
    obtain ⟨c, hc⟩ : ∃ c, l[i]? = some c := ⟨l[i]'(by omega), List.getElem?_eq_getElem (by omega)⟩
    obtain ⟨hc1, hc2⟩ := m4 i c hc
    have hcm := List.mem_of_getElem? hc
    have hC := toI c (by omega)
    have ed : l.drop i = c :: l.drop (i + 1) := by
      have e : l[i]'(by omega) = c := by
        have := List.getElem?_eq_getElem (l := l) (i := i) (by omega)
        rw [hc] at this
        exact (Option.some.inj this).symm
      rw [List.drop_eq_getElem_cons (by omega), e]
    rw [ed, List.flatMap_cons] at k hr
    rw [List.length_append] at hr
    have c9 : (9 : Int32).toInt = 9 := rfl
    have c10 : (10 : Int32).toInt = 10 := rfl
    have c92 : (92 : Int32).toInt = 92 := rfl
    have c39 : (39 : Int32).toInt = 39 := rfl
    -- what is written of this character
    have fin : ∀ (v1 : Nat → Int32) (a1 : Nat → Nat → Int32) (w1 : List Nat) (x5 : Int32), w1 ++ [esW c] = w ++ ecb (!b) c → zN v1 a1 N → zX v1 a1 w1 → vS v v1 [40] → aS a a1 [51] → xP sc (d + 1) 184 93 [(0, .ref 28), (1, .int (nI j)), (2, .int (xb b)), (3, .int (nI i)), (4, .int (nI c)), (5, .int x5)] [] (mH B C v1 a1 o, g) P := by
      intro v1 a1 w1 x5 ew hn1 hx1 fv fa
      have hwl := congrArg List.length ew
      rw [List.length_append, List.length_append, List.length_singleton] at hwl
      have keep : xP sc (d + 1) 184 120 [(0, .ref 28), (1, .int (nI j)), (2, .int (xb b)), (3, .int (nI i)), (4, .int (nI c)), (5, .int x5)] [.int (nI (esW c)), .ref 28] (mH B C v1 a1 o, g) P := by
        refine xP_cv rfl rfl rfl rfl rfl (mH_28 hB) (q_out hB hx1 (by omega) (esW_lt hc1) (fun v2 a2 y1 y2 y3 => ?_))
        rw [ew] at y1
        have go := q_nmLoop hB hj hb m (i + 1) v2 a2 (w ++ ecb (!b) c) [(4, .int (nI c)), (5, .int x5)] (Or.inr ⟨_, _, rfl⟩) (by omega) (hn1.same y2 y3 (by decide) (by decide) (by decide) (by decide) (by decide)) y1 (by rw [List.length_append]; omega) (fun v3 a3 x3 u1 u2 u3 => k v3 a3 x3 (by rw [List.append_assoc] at u1; exact u1) ((fv.trans y2).trans u2) ((fa.trans y3).trans u3))
        rw [← nI_p1 i] at go
        refine xP_s rfl rfl rfl ?_
        refine xP_s rfl rfl rfl ?_
        exact go
      refine xP_s rfl rfl rfl ?_
      refine xP_s rfl rfl rfl ?_
      refine xP_s rfl rfl rfl ?_
      refine xP_s rfl rfl rfl ?_
      refine xP_if (fun z => ?_) (fun z => ?_)
      · have q := xc_t z
        dsimp only at q
        refine xP_s rfl rfl rfl ?_
        refine xP_s rfl rfl rfl ?_
        refine xP_s rfl rfl rfl ?_
        refine xP_if (fun z => ?_) (fun z => ?_)
        · have q2 := xc_t z
          dsimp only at q2
          have e : esW c = c := by
            unfold esW
            rw [if_neg (by omega), if_neg (by omega)]
          rw [e] at keep
          refine xP_s rfl rfl rfl ?_
          exact keep
        · have q2 := xc_f z
          dsimp only at q2
          have e : c = 9 := by omega
          subst e
          refine xP_s rfl rfl rfl ?_
          refine xP_s rfl rfl rfl ?_
          exact keep
      · have q := xc_f z
        dsimp only at q
        have e : c = 10 := by omega
        subst e
        refine xP_s rfl rfl rfl ?_
        refine xP_s rfl rfl rfl ?_
        exact keep
    have turn : ecb (!b) c = [92, esW c] → xP sc (d + 1) 184 75 [(0, .ref 28), (1, .int (nI j)), (2, .int (xb b)), (3, .int (nI i)), (4, .int (nI c))] [] (mH B C v a o, g) P := by
      intro e
      have el := congrArg List.length e
      rw [List.length_cons, List.length_singleton] at el
      refine xP_s rfl rfl rfl ?_
      refine xP_s rfl rfl rfl ?_
      refine xP_s rfl rfl rfl ?_
      refine xP_s rfl rfl rfl ?_
      refine xP_s rfl rfl rfl ?_
      refine xP_s rfl rfl rfl ?_
      refine xP_s rfl rfl rfl ?_
      refine xP_cv rfl rfl rfl rfl rfl (mH_28 hB) (q_out (c := 92) hB hx (by omega) (by decide) (fun v1 a1 y1 y2 y3 => ?_))
      exact fin v1 a1 _ _ (by rw [e, List.append_assoc]; rfl) (hn.same y2 y3 (by decide) (by decide) (by decide) (by decide) (by decide)) y1 y2 y3
    have plain : ecb (!b) c = [esW c] → xP sc (d + 1) 184 79 [(0, .ref 28), (1, .int (nI j)), (2, .int (xb b)), (3, .int (nI i)), (4, .int (nI c))] [] (mH B C v a o, g) P := by
      intro e
      have kk := fin v a w 0 (by rw [e]) hn hx (vS.refl _ _) (aS.refl _ _)
      refine xP_s rfl rfl rfl ?_
      refine xP_s rfl rfl rfl ?_
      refine xP_s rfl rfl rfl ?_
      refine xP_s rfl rfl rfl ?_
      exact kk
    have base : xP sc (d + 1) 184 18 [(0, .ref 28), (1, .int (nI j)), (2, .int (xb b)), (3, .int (nI i))] [] (mH B C v a o, g) P := by
      refine xP_s rfl rfl rfl ?_
      refine xP_s rfl rfl rfl ?_
      refine xP_get rfl (mH_28 hB) rfl ?_
      refine xP_s rfl rfl rfl ?_
      refine xP_zl (n := 1500) rfl hB rfl rfl (by omega) m3 ?_
      refine xP_s rfl rfl rfl ?_
      refine xP_if (fun z => ?_) (fun z => ?_)
      · have q := xc_t z
        dsimp only at q
        omega
      · refine xP_s rfl rfl rfl ?_
        refine xP_get rfl (mH_28 hB) rfl ?_
        refine xP_s rfl rfl rfl ?_
        refine xP_get rfl (mH_28 hB) rfl ?_
        refine xP_s rfl rfl rfl ?_
        refine xP_zl (n := 1500) rfl hB rfl rfl (by omega) m2 ?_
        refine xP_s rfl rfl rfl ?_
        refine xP_s rfl rfl rfl ?_
        rw [nI_add]
        refine xP_zl (n := 4600) rfl hB rfl rfl (by omega) hc2 ?_
        refine xP_s rfl rfl rfl ?_
        refine xP_s rfl rfl rfl ?_
        refine xP_s rfl rfl rfl ?_
        refine xP_s rfl rfl rfl ?_
        refine xP_if (fun z => ?_) (fun z => ?_)
        · have q := xc_t z
          dsimp only at q
          refine turn (ecb_t10 hb hcm (by omega))
        · have q := xc_f z
          dsimp only at q
          refine xP_s rfl rfl rfl ?_
          refine xP_s rfl rfl rfl ?_
          refine xP_s rfl rfl rfl ?_
          refine xP_if (fun z => ?_) (fun z => ?_)
          · have q2 := xc_t z
            dsimp only at q2
            exact turn (ecb_t9 hb hcm (by omega))
          · have q2 := xc_f z
            dsimp only at q2
            have e : esW c = c := by
              unfold esW
              rw [if_neg (by omega), if_neg (by omega)]
            refine xP_s rfl rfl rfl ?_
            refine xP_s rfl rfl rfl ?_
            rw [xb_ne0]
            refine xP_if (fun z => ?_) (fun z => ?_)
            · exact plain (by rw [e, z]; rfl)
            · refine xP_s rfl rfl rfl ?_
              refine xP_s rfl rfl rfl ?_
              refine xP_s rfl rfl rfl ?_
              refine xP_if (fun z2 => ?_) (fun z2 => ?_)
              · have q3 := xc_t z2
                dsimp only at q3
                refine turn ?_
                rw [e, z, show c = 92 by omega]
                decide
              · have q3 := xc_f z2
                dsimp only at q3
                refine xP_s rfl rfl rfl ?_
                refine xP_s rfl rfl rfl ?_
                refine xP_s rfl rfl rfl ?_
                refine xP_if (fun z3 => ?_) (fun z3 => ?_)
                · have q4 := xc_t z3
                  dsimp only at q4
                  refine plain ?_
                  rw [e, z]
                  unfold ecb ecs eO
                  rw [if_pos (by decide), if_neg (by omega), if_neg (by omega), if_neg (by omega)]
                · have q4 := xc_f z3
                  dsimp only at q4
                  refine turn ?_
                  rw [e, z, show c = 39 by omega]
                  decide
    rcases hex with rfl | ⟨y, z, rfl⟩
    · exact base
    · exact xP_more [(4, .int y), (5, .int z)] rfl base
set_option maxHeartbeats 4000000 in
set_option maxRecDepth 100000 in
theorem q_name {v : Nat → Int32} {a : Nat → Nat → Int32} {w : List Nat} (hB : B.length = 28) (hn : zN v a N) (hj : N[j]? = some l) (hx : zX v a w) (hr : w.length + (nmW l).length ≤ 2590)
    (k : ∀ v' a', zX v' a' (w ++ nmW l) → vS v v' [40] → aS a a' [51] → P (.inl none) (mH B C v' a' o, g)) : xM1 sc (d + 2) 184 [.ref 28, .int (nI j)] (mH B C v a o, g) P := by
  obtain ⟨m1, m2, m3, m4⟩ := hn.2.2.2.2.2 j l hj
  have hlm : ∀ c ∈ l, c < 128 := fun c hc => by
    obtain ⟨i, hi⟩ := List.mem_iff_getElem?.mp hc
    exact (m4 i c hi).1
  have ew : ∀ c : Nat, ecb false c = [c] := fun c => by
    unfold ecb
    rw [if_neg (by decide)]
  have ee : ecb true = ecs := by
    funext c
    unfold ecb
    rw [if_pos rfl]
  unfold xM1
  refine xP_s rfl rfl rfl ?_
  refine xP_s rfl rfl rfl ?_
  refine xP_cv rfl rfl rfl rfl rfl (mH_28 hB) (q_isPlain hB hn hj ?_)
  cases hp : pln l with
  | true =>
    have e : nmW l = l := by
      unfold nmW
      rw [if_pos hp]
    have ef : l.flatMap (ecb false) = l := by
      rw [show ecb false = fun c => [c] from funext ew]
      simp
    rw [e] at hr k
    have go := q_nmLoop (sc := sc) (d := d + 1) (C := C) (o := o) (g := g) (P := P) (b := true) hB hj (fun _ => pln_910 hlm hp) l.length 0 v a w [] (Or.inl rfl) (by omega) hn hx (by
      rw [List.drop_zero]
      show w.length + (l.flatMap (ecb false)).length ≤ 2599
      rw [ef]
      omega) (fun v' a' x3 y1 y2 y3 => by
      rw [List.drop_zero] at y1
      have y1 : zX v' a' (w ++ l.flatMap (ecb false)) := y1
      rw [ef] at y1
      have kk := k v' a' y1 y2 y3
      repeat' first
        | refine xP_s rfl rfl rfl ?_
        | refine xP_ret rfl rfl rfl ?_
      exact kk)
    refine xP_s rfl rfl rfl ?_
    refine xP_s rfl rfl rfl ?_
    refine xP_s rfl rfl rfl ?_
    refine xP_s rfl rfl rfl ?_
    refine xP_s rfl rfl rfl ?_
    exact go
  | false =>
    have e : nmW l = 39 :: (l.flatMap ecs ++ [39]) := by
      unfold nmW
      rw [if_neg (by simp [hp])]
    rw [e] at hr k
    rw [List.length_cons, List.length_append, List.length_singleton] at hr
    refine xP_s rfl rfl rfl ?_
    refine xP_s rfl rfl rfl ?_
    refine xP_s rfl rfl rfl ?_
    refine xP_s rfl rfl rfl ?_
    refine xP_s rfl rfl rfl ?_
    refine xP_cv rfl rfl rfl rfl rfl (mH_28 hB) (q_out (c := 39) hB hx (by omega) (by decide) (fun v1 a1 u1 u2 u3 => ?_))
    have go := q_nmLoop (sc := sc) (d := d + 1) (C := C) (o := o) (g := g) (P := P) (b := false) hB hj (fun h => Bool.noConfusion h) l.length 0 v1 a1 (w ++ [39]) [] (Or.inl rfl) (by omega) (hn.same u2 u3 (by decide) (by decide) (by decide) (by decide) (by decide)) u1 (by
      rw [List.drop_zero, List.length_append, List.length_singleton]
      show w.length + 1 + (l.flatMap (ecb true)).length ≤ 2599
      rw [ee]
      omega) (fun v' a' x3 y1 y2 y3 => by
      rw [List.drop_zero] at y1
      have y1 : zX v' a' (w ++ [39] ++ l.flatMap (ecb true)) := y1
      rw [ee] at y1
      refine xP_s rfl rfl rfl ?_
      refine xP_s rfl rfl rfl ?_
      refine xP_s rfl rfl rfl ?_
      refine xP_s rfl rfl rfl ?_
      refine xP_cv rfl rfl rfl rfl rfl (mH_28 hB) (q_out (c := 39) hB y1 (by rw [List.length_append, List.length_append, List.length_singleton]; omega) (by decide) (fun v2 a2 s1 s2 s3 => ?_))
      have es : w ++ [39] ++ l.flatMap ecs ++ [39] = w ++ 39 :: (l.flatMap ecs ++ [39]) := by simp
      rw [es] at s1
      have kk := k v2 a2 s1 ((u2.trans y2).trans s2) ((u3.trans y3).trans s3)
      repeat' first
        | refine xP_s rfl rfl rfl ?_
        | refine xP_ret rfl rfl rfl ?_
      exact kk)
    refine xP_s rfl rfl rfl ?_
    refine xP_s rfl rfl rfl ?_
    exact go
end WE2
