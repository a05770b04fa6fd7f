-- the reference: isNamed, priorityOf, isOperator, takesOn, skip
def nmL (c e : Nat) : List Nat := if e = 0 then [c] else [c, e]
def nmd (p : xIt) (c e n : Nat) : Bool := decide (p.2.2.2 = n) && (decide (2 ≤ p.1) && decide (p.2.2.1 = nmL c e))
theorem okN_c {l : List Nat} (h : okN l) : ∀ c ∈ l, c < 256 ∧ ¬ c = 0 := fun c hc => by
  have := h.2 c hc
  unfold gdC at this
  omega
theorem kL_nm {l k : List Nat} (h : okN l) (hk : ∀ c ∈ k, c < 256 ∧ ¬ c = 0) (h1 : 1 ≤ k.length) (h8 : k.length ≤ 8) : kL l = lN (pn k) ↔ l = k := kL_eq (okN_c h) hk h1 h8
theorem nmd_dot {p : xIt} (hp : okP p) (hi : okIt p) (h3 : p.1 ≤ 3) : nmd p 46 0 2 = isDotP p := by
  have hk : kL p.2.2.1 = 46 ↔ p.2.2.1 = [46] := kL_nm (k := [46]) hp.1 (by decide) (by decide) (by decide)
  rw [Bool.eq_iff_iff]
  unfold nmd isDotP
  simp only [Bool.and_eq_true, decide_eq_true_eq]
  have e1 : nmL 46 0 = [46] := rfl
  rw [e1]
  constructor
  · intro q
    have h3' : p.1 = 3 := by
      have := hi.1
      omega
    refine ⟨h3', ?_, q.1⟩
    unfold kP
    rw [if_neg (by omega)]
    exact hk.mpr q.2.2
  · intro q
    refine ⟨q.2.2, by omega, ?_⟩
    have := q.2.1
    unfold kP at this
    rw [if_neg (by omega)] at this
    exact hk.mp this
theorem nmd_brc {p : xIt} (hp : okP p) (hi : okIt p) (h3 : p.1 ≤ 3) : nmd p 123 125 1 = isBrcP p := by
  have hk : kL p.2.2.1 = 32123 ↔ p.2.2.1 = [123, 125] := kL_nm (k := [123, 125]) hp.1 (by decide) (by decide) (by decide)
  rw [Bool.eq_iff_iff]
  unfold nmd isBrcP
  simp only [Bool.and_eq_true, decide_eq_true_eq]
  have e1 : nmL 123 125 = [123, 125] := rfl
  rw [e1]
  constructor
  · intro q
    have h3' : p.1 = 3 := by
      have := hi.1
      omega
    refine ⟨h3', ?_, q.1⟩
    unfold kP
    rw [if_neg (by omega)]
    exact hk.mpr q.2.2
  · intro q
    refine ⟨q.2.2, by omega, ?_⟩
    have := q.2.1
    unfold kP at this
    rw [if_neg (by omega)] at this
    exact hk.mp this
theorem nmd_nil {p : xIt} (hp : okP p) (hi : okIt p) (h3 : p.1 ≤ 3) : nmd p 91 93 0 = isNilP p := by
  have hk : kL p.2.2.1 = 23899 ↔ p.2.2.1 = [91, 93] := kL_nm (k := [91, 93]) hp.1 (by decide) (by decide) (by decide)
  rw [Bool.eq_iff_iff]
  unfold nmd isNilP
  simp only [Bool.and_eq_true, decide_eq_true_eq]
  have e1 : nmL 91 93 = [91, 93] := rfl
  rw [e1]
  constructor
  · intro q
    have h3' : p.1 = 2 := by
      have := hi.2.1
      omega
    refine ⟨h3', ?_⟩
    unfold kP
    rw [if_neg (by omega)]
    exact hk.mpr q.2.2
  · intro q
    have := hi.1
    refine ⟨by omega, by omega, ?_⟩
    have := q.2
    unfold kP at this
    rw [if_neg (by omega)] at this
    exact hk.mp this
section WF2
variable {sc : xSc} {d g : Nat} {B C : List xC} {o : Nat → Int64} {P : xO → xH → Prop} {v : Nat → Int32} {a : Nat → Nat → Int32} {N : List (List Nat)} {Q : List xIt} {sl : List xSl} {p : xIt} {r : Nat}
set_option maxHeartbeats 4000000 in
set_option maxRecDepth 100000 in
theorem q_isNamed {c e n : Nat} (hB : B.length = 28) (hn : zN v a N) (hq : zQ v a N Q) (hr : Q[r]? = some p) (hc : c < 128) (he : e < 128) (hn7 : n ≤ 7) (k : P (.inl (some (.int (xb (nmd p c e n))))) (mH B C v a o, g)) : xM1 sc d 185 [.ref 28, .int (nI r), .int (nI c), .int (nI e), .int (nI n)] (mH B C v a o, g) P := by
  have hrl := (List.getElem?_eq_some_iff.mp hr).1
  have hql := hq.2.1
  have hN := hn.2.2.1
  have hN2 := hn.2.2.2.1
  obtain ⟨z1, z2, z3, z4, z5, z6⟩ := hq.2.2 r p hr
  have hC := toI c (by omega)
  have hE := toI e (by omega)
  have hNn := toI n (by omega)
  have hAr := toI p.2.2.2 (by omega)
  have hKd := toI p.1 (by omega)
  have c0 : (0 : Int32).toInt = 0 := rfl
  have c1 : (1 : Int32).toInt = 1 := rfl
  have c2 : (2 : Int32).toInt = 2 := rfl
  have c3 : (3 : Int32).toInt = 3 := rfl
  have no : nmd p c e n = false → ∀ y, xP sc d 185 100 [(0, .ref 28), (1, .int (nI r)), (2, .int (nI c)), (3, .int (nI e)), (4, .int (nI n)), (5, .int y)] [] (mH B C v a o, g) P := by
    intro h y
    rw [h] at k
    repeat' first
      | refine xP_s rfl rfl rfl ?_
      | refine xP_ret rfl rfl rfl ?_
    exact k
  unfold xM1
  refine xP_s rfl rfl rfl ?_
  refine xP_get rfl (mH_28 hB) rfl ?_
  refine xP_s rfl rfl rfl ?_
  refine xP_zl (n := 1000) rfl hB rfl rfl (by omega) rfl ?_
  refine xP_s rfl rfl rfl ?_
  refine xP_s rfl rfl rfl ?_
  refine xP_get rfl (mH_28 hB) rfl ?_
  refine xP_s rfl rfl rfl ?_
  refine xP_zl (n := 1000) rfl hB rfl rfl (by omega) z5 ?_
  refine xP_s rfl rfl rfl ?_
  refine xP_s rfl rfl rfl ?_
  refine xP_if (fun y1 => ?_) (fun y1 => ?_)
  · have q := xc_t y1
    dsimp only at q
    refine no ?_ _
    unfold nmd
    rw [decide_eq_false (by omega)]
    rfl
  · have q := xc_f y1
    dsimp only at q
    have at39 : 2 ≤ p.1 → xP sc d 185 39 [(0, .ref 28), (1, .int (nI r)), (2, .int (nI c)), (3, .int (nI e)), (4, .int (nI n)), (5, .int (a 40 r))] [] (mH B C v a o, g) P := by
      intro h2
      obtain ⟨j, hj, hv⟩ := z4 h2
      rw [hv]
      have hjl := (List.getElem?_eq_some_iff.mp hj).1
      have hof := ofN_le hj
      obtain ⟨m1, m2, m3, m4⟩ := hn.2.2.2.2.2 j _ hj
      have hL := toI p.2.2.1.length (by omega)
      have em : nmd p c e n = decide (p.2.2.1 = nmL c e) := by
        unfold nmd
        rw [decide_eq_true (by omega), decide_eq_true h2]
        rfl
      rw [em] at no k
      have yes : p.2.2.1 = nmL c e → xP sc d 185 96 [(0, .ref 28), (1, .int (nI r)), (2, .int (nI c)), (3, .int (nI e)), (4, .int (nI n)), (5, .int (nI j))] [] (mH B C v a o, g) P := by
        intro h
        rw [decide_eq_true h] at k
        repeat' first
          | refine xP_s rfl rfl rfl ?_
          | refine xP_ret rfl rfl rfl ?_
        exact k
      have no2 : ¬ p.2.2.1 = nmL c e → xP sc d 185 100 [(0, .ref 28), (1, .int (nI r)), (2, .int (nI c)), (3, .int (nI e)), (4, .int (nI n)), (5, .int (nI j))] [] (mH B C v a o, g) P := fun h => no (decide_eq_false h) _
      refine xP_s rfl rfl rfl ?_
      refine xP_get rfl (mH_28 hB) rfl ?_
      refine xP_s rfl rfl rfl ?_
      refine xP_zl (n := 1500) rfl hB rfl rfl (by omega) m3 ?_
      refine xP_s rfl rfl rfl ?_
      refine xP_s rfl rfl rfl ?_
      refine xP_if (fun y2 => ?_) (fun y2 => ?_)
      · have q2 := xc_t y2
        dsimp only at q2
        have e0 : e = 0 := by omega
        have en : nmL c e = [c] := if_pos e0
        rw [en] at yes no2
        refine xP_s rfl rfl rfl ?_
        refine xP_s rfl rfl rfl ?_
        refine xP_if (fun y3 => ?_) (fun y3 => ?_)
        · have q3 := xc_t y3
          dsimp only at q3
          exact no2 (fun h => by rw [h] at hL q3; exact q3 (hL.trans c1.symm))
        · have q3 := xc_f y3
          dsimp only at q3
          obtain ⟨x, hx⟩ := one_l (w := p.2.2.1) (by omega)
          obtain ⟨x1, x2⟩ := m4 0 x (by rw [hx]; rfl)
          have hX := toI x (by omega)
          have hl1 : p.2.2.1.length = 1 := by rw [hx]; rfl
          refine xP_s rfl rfl rfl ?_
          refine xP_get rfl (mH_28 hB) rfl ?_
          refine xP_s rfl rfl rfl ?_
          refine xP_get rfl (mH_28 hB) rfl ?_
          refine xP_s rfl rfl rfl ?_
          refine xP_zl (n := 1500) rfl hB rfl rfl (by omega) m2 ?_
          refine xP_zl (n := 4600) rfl hB rfl rfl (by omega) x2 ?_
          refine xP_s rfl rfl rfl ?_
          refine xP_s rfl rfl rfl ?_
          refine xP_if (fun y4 => ?_) (fun y4 => ?_)
          · have q4 := xc_t y4
            dsimp only at q4
            exact no2 (fun h => by rw [hx] at h; cases h; exact q4 rfl)
          · have q4 := xc_f y4
            dsimp only at q4
            have yy := yes (by rw [hx, show x = c by omega])
            refine xP_s rfl rfl rfl ?_
            refine xP_s rfl rfl rfl ?_
            refine xP_if (fun y5 => ?_) (fun y5 => ?_)
            · exact yy
            · have q5 := xc_f y5
              dsimp only at q5
              omega
      · have q2 := xc_f y2
        dsimp only at q2
        have e0 : ¬ e = 0 := by omega
        have en : nmL c e = [c, e] := if_neg e0
        rw [en] at yes no2
        refine xP_s rfl rfl rfl ?_
        refine xP_s rfl rfl rfl ?_
        refine xP_s rfl rfl rfl ?_
        refine xP_if (fun y3 => ?_) (fun y3 => ?_)
        · have q3 := xc_t y3
          dsimp only at q3
          exact no2 (fun h => by rw [h] at hL q3; exact q3 (hL.trans c2.symm))
        · have q3 := xc_f y3
          dsimp only at q3
          obtain ⟨x, y, hx⟩ : ∃ x y, p.2.2.1 = [x, y] := by
            match hp : p.2.2.1, (show p.2.2.1.length = 2 by omega) with
            | [x, y], _ => exact ⟨x, y, rfl⟩
          obtain ⟨x1, x2⟩ := m4 0 x (by rw [hx]; rfl)
          obtain ⟨w1, w2⟩ := m4 1 y (by rw [hx]; rfl)
          have hX := toI x (by omega)
          have hY := toI y (by omega)
          have hl1 : p.2.2.1.length = 2 := by rw [hx]; rfl
          refine xP_s rfl rfl rfl ?_
          refine xP_get rfl (mH_28 hB) rfl ?_
          refine xP_s rfl rfl rfl ?_
          refine xP_get rfl (mH_28 hB) rfl ?_
          refine xP_s rfl rfl rfl ?_
          refine xP_zl (n := 1500) rfl hB rfl rfl (by omega) m2 ?_
          refine xP_zl (n := 4600) rfl hB rfl rfl (by omega) x2 ?_
          refine xP_s rfl rfl rfl ?_
          refine xP_s rfl rfl rfl ?_
          refine xP_if (fun y4 => ?_) (fun y4 => ?_)
          · have q4 := xc_t y4
            dsimp only at q4
            exact no2 (fun h => by rw [hx] at h; cases h; exact q4 rfl)
          · have q4 := xc_f y4
            dsimp only at q4
            refine xP_s rfl rfl rfl ?_
            refine xP_s rfl rfl rfl ?_
            refine xP_if (fun y5 => ?_) (fun y5 => ?_)
            · have q5 := xc_t y5
              dsimp only at q5
              omega
            · refine xP_s rfl rfl rfl ?_
              refine xP_get rfl (mH_28 hB) rfl ?_
              refine xP_s rfl rfl rfl ?_
              refine xP_get rfl (mH_28 hB) rfl ?_
              refine xP_s rfl rfl rfl ?_
              refine xP_zl (n := 1500) rfl hB rfl rfl (by omega) m2 ?_
              refine xP_s rfl rfl rfl ?_
              refine xP_s rfl rfl rfl ?_
              rw [nI_p1]
              refine xP_zl (n := 4600) rfl hB rfl rfl (by omega) w2 ?_
              refine xP_s rfl rfl rfl ?_
              refine xP_s rfl rfl rfl ?_
              refine xP_if (fun y6 => ?_) (fun y6 => ?_)
              · have q6 := xc_t y6
                dsimp only at q6
                exact no2 (fun h => by rw [hx] at h; cases h; exact q6 rfl)
              · have q6 := xc_f y6
                dsimp only at q6
                exact yes (by rw [hx, show x = c by omega, show y = e by omega])
    refine xP_s rfl rfl rfl ?_
    refine xP_get rfl (mH_28 hB) rfl ?_
    refine xP_s rfl rfl rfl ?_
    refine xP_zl (n := 1000) rfl hB rfl rfl (by omega) z2 ?_
    refine xP_s rfl rfl rfl ?_
    refine xP_s rfl rfl rfl ?_
    refine xP_if (fun y2 => ?_) (fun y2 => ?_)
    · have q2 := xc_t y2
      dsimp only at q2
      exact at39 (by omega)
    · have q2 := xc_f y2
      dsimp only at q2
      refine xP_s rfl rfl rfl ?_
      refine xP_get rfl (mH_28 hB) rfl ?_
      refine xP_s rfl rfl rfl ?_
      refine xP_zl (n := 1000) rfl hB rfl rfl (by omega) z2 ?_
      refine xP_s rfl rfl rfl ?_
      refine xP_s rfl rfl rfl ?_
      refine xP_if (fun y3 => ?_) (fun y3 => ?_)
      · have q3 := xc_t y3
        dsimp only at q3
        refine no ?_ _
        unfold nmd
        rw [decide_eq_false (show ¬ 2 ≤ p.1 by omega)]
        simp
      · have q3 := xc_f y3
        dsimp only at q3
        exact at39 (by omega)
end WF2
