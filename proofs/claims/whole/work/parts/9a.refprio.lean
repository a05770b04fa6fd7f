-- the reference: priorityOf, isOperator, takesOn, skip
theorem opP_s {sl : List xSl} {k : Int64} : (opP sl k).isSome = (fnd true k sl 0).isSome := by
  unfold opP slE
  cases hf : fnd true k sl 0 with
  | none => rfl
  | some i =>
    obtain ⟨_, e, he, _⟩ := fnd_some hf
    rw [Nat.sub_zero] at he
    show (sl[i]?).isSome = true
    rw [he]
    rfl
theorem opB_s {sl : List xSl} {k : Int64} : (opB sl k).isSome = (fnd false k sl 0).isSome := by
  unfold opB slE
  cases hf : fnd false k sl 0 with
  | none => rfl
  | some i =>
    obtain ⟨_, e, he, _⟩ := fnd_some hf
    rw [Nat.sub_zero] at he
    show (sl[i]?).isSome = true
    rw [he]
    rfl
def opn2 (sl : List xSl) (p : xIt) : Bool := decide (p.1 = 2) && ((opP sl (kP p)).isSome || (opB sl (kP p)).isSome)
def tko (sl : List xSl) (p : xIt) (n : Nat) : Bool := decide (slP (slF sl p) = n) && oOpen (slF sl p)
theorem oPost_n {e : xSl} (h6 : e.2.2 ≤ 6) (hp : isPre e.2.2 = false) : oPost (some e) = !(oInf (some e)) := by
  obtain ⟨k, q, t⟩ := e
  dsimp only at h6 hp
  have : ∀ t, t ≤ 6 → isPre t = false → (decide ((t : Int) = 5) || decide ((t : Int) = 6)) = !(decide ((t : Int) = 0) || (decide ((t : Int) = 1) || decide ((t : Int) = 2))) := by decide
  exact this t h6 hp
theorem i_skip (x y : Int32) : x + 1 + (y - 1) = x + y := by
  rw [Int32.sub_eq_add_neg, Int32.add_assoc, ← Int32.add_assoc 1 y, Int32.add_comm 1 y, Int32.add_assoc y 1]
  show x + (y + 0) = x + y
  rw [Int32.add_zero]
/-- n terms, one behind another -/
def sq (n : Nat) (L : List xIt) : Prop := ∀ m R, sk (L ++ R) (m + n) = sk R m
theorem chP_sq {T : List xIt → Prop} (hT : ∀ L, T L → isTm L) : ∀ {k : Nat} {L : List xIt}, chP T k L → sq k L
  | 0, L, h => by
    rw [show L = [] from h]
    intro m R
    rfl
  | k + 1, L, h => by
    obtain ⟨L1, L2, h1, h2, h3⟩ := h
    intro m R
    rw [h2, List.append_assoc, show m + (k + 1) = (m + k) + 1 by omega, hT L1 h1 (m + k) (L2 ++ R)]
    exact chP_sq hT h3 m R
theorem trP_tm : ∀ {D : Nat} {L : List xIt}, trP D L → isTm L
  | 0, L, h => by cases h
  | D + 1, L, h => by
    obtain ⟨p, L1, h1, _, _, h3⟩ := h
    intro n R
    rw [h1, List.cons_append]
    exact chP_sq (fun L h => trP_tm h) h3 n R
theorem sq_nil {n : Nat} (h : sq n []) : n = 0 := by
  cases n with
  | zero => rfl
  | succ n =>
    have q := h 0 [(1, 0, [], 0)]
    rw [List.nil_append, Nat.zero_add, sk_0] at q
    have e : sk [((1, 0, [], 0) : xIt)] (n + 1) = sk [] (n + 0) := rfl
    rw [e] at q
    have e2 : ∀ m, sk [] m = [] := fun m => by cases m <;> rfl
    rw [e2] at q
    cases q
theorem sq_cons {n : Nat} {p : xIt} {L : List xIt} (h : sq n (p :: L)) : ∃ m, n = m + 1 ∧ sq (m + p.2.2.2) L := by
  cases n with
  | zero =>
    have q := h 0 []
    rw [List.append_nil, Nat.zero_add, sk_0, sk_0] at q
    cases q
  | succ n =>
    refine ⟨n, rfl, fun m R => ?_⟩
    have q := h m R
    rw [List.cons_append, show m + (n + 1) = (m + n) + 1 by omega] at q
    have e : sk (p :: (L ++ R)) (m + n + 1) = sk (L ++ R) (m + n + p.2.2.2) := rfl
    rw [e] at q
    rw [show m + (n + p.2.2.2) = m + n + p.2.2.2 by omega]
    exact q
theorem sq_len : ∀ {L : List xIt} {n : Nat}, sq n L → n ≤ L.length
  | [], n, h => by
    have := sq_nil h
    omega
  | p :: L, n, h => by
    obtain ⟨m, em, h2⟩ := sq_cons h
    have := sq_len h2
    rw [List.length_cons]
    omega
section WG2
variable {sc : xSc} {d g : Nat} {B C : List xC} {o : Nat → Int64} {P : xO → xH → Prop} {v : Nat → Int32} {a : Nat → Nat → Int32} {N : List (List Nat)} {Q : List xIt} {sl : List xSl} {p : xIt} {r : Nat}
theorem kP_2 (h : 2 ≤ p.1) : kP p = kL p.2.2.1 := by
  unfold kP
  rw [if_neg (by omega)]
theorem slF_3 (h : ¬ p.1 = 3) : slF sl p = none := by
  unfold slF
  rw [if_neg h]
theorem slF_2 (h3 : p.1 = 3) (h2 : p.2.2.2 = 2) : slP (slF sl p) = inV sl (kP p) := by
  unfold slF inV
  rw [if_pos h3, if_neg (by omega)]
  by_cases hi : oInf (opB sl (kP p)) = true
  · rw [if_pos (Or.inr ⟨h2, hi⟩), if_pos hi]
  · rw [if_neg (fun q => q.elim (fun q => by omega) (fun q => hi q.2)), if_neg hi]
    rfl
theorem slF_1 (ho : zO v a o sl) (h3 : p.1 = 3) (h1 : p.2.2.2 = 1) : slP (slF sl p) = (if (opP sl (kP p)).isSome = true then slP (opP sl (kP p)) else poV sl (kP p)) := by
  unfold slF poV
  rw [if_pos h3]
  by_cases hp : (opP sl (kP p)).isSome = true
  · rw [if_pos ⟨h1, hp⟩, if_pos hp]
  · rw [if_neg (fun q => hp q.2), if_neg hp]
    cases hx : opB sl (kP p) with
    | none =>
      have e : oPost (none : Option xSl) = false := by decide
      have e2 : oInf (none : Option xSl) = false := by decide
      rw [if_neg (fun q => q.elim (fun q => (by rw [e] at q; cases q.2)) (fun q => by omega)), e2, if_neg (by decide)]
    | some e =>
      have he := ho.eB hx
      have hpn := oPost_n he.2.2.1 he.2.2.2
      by_cases hi : oInf (some e) = true
      · rw [if_pos hi, if_neg (fun q => by
          rcases q with q | q
          · rw [hpn, hi] at q
            cases q.2
          · omega)]
        rfl
      · rw [if_neg hi, if_pos (Or.inl ⟨h1, by
          rw [hpn]
          simpa using hi⟩)]
theorem slF_n (h1 : ¬ p.2.2.2 = 1) (h2 : ¬ p.2.2.2 = 2) : slF sl p = none := by
  unfold slF
  split
  · rw [if_neg (fun q => h1 q.1), if_neg (fun q => q.elim (fun q => h1 q.1) (fun q => h2 q.1))]
  · rfl
theorem slF_dot (h46 : ∀ e ∈ sl, ¬ e.1 = 46) (h : isDotP p = true) : slF sl p = none := by
  unfold isDotP at h
  simp only [Bool.and_eq_true, decide_eq_true_eq] at h
  have e : opB sl (kP p) = none := by
    cases hx : opB sl (kP p) with
    | none => rfl
    | some e =>
      have := opB_e hx
      exact absurd (this.2.1.trans h.2.1) (h46 e this.1)
  unfold slF
  rw [if_pos h.1, if_neg (by omega), e, if_neg (fun q => q.elim (fun q => by omega) (fun q => absurd q.2 (by decide)))]
theorem slF_brc (h32 : ∀ e ∈ sl, ¬ e.1 = 32123) (h : isBrcP p = true) : slF sl p = none := by
  unfold isBrcP at h
  simp only [Bool.and_eq_true, decide_eq_true_eq] at h
  have e : opB sl (kP p) = none := by
    cases hx : opB sl (kP p) with
    | none => rfl
    | some e =>
      have := opB_e hx
      exact absurd (this.2.1.trans h.2.1) (h32 e this.1)
  have e2 : opP sl (kP p) = none := by
    cases hx : opP sl (kP p) with
    | none => rfl
    | some e =>
      have := opP_e hx
      exact absurd (this.2.1.trans h.2.1) (h32 e this.1)
  unfold slF
  rw [if_pos h.1, e, e2, if_neg (fun q => by cases q.2), if_neg (fun q => q.elim (fun q => absurd q.2 (by decide)) (fun q => absurd q.2 (by decide)))]
set_option maxHeartbeats 4000000 in
set_option maxRecDepth 100000 in
theorem q_priorityOf (hB : B.length = 28) (ho : zO v a o sl) (hn : zN v a N) (hq : zQ v a N Q) (hr : Q[r]? = some p) (hp : okP p) (hi : okIt p) (h46 : ∀ e ∈ sl, ¬ e.1 = 46) (h32 : ∀ e ∈ sl, ¬ e.1 = 32123) (k : P (.inl (some (.int (nI (slP (slF sl p)))))) (mH B C v a o, g)) : xM1 sc (d + 2) 186 [.ref 28, .int (nI r)] (mH B C v a o, g) P := by
  have hrl := (List.getElem?_eq_some_iff.mp hr).1
  have hql := hq.2.1
  obtain ⟨z1, z2, z3, z4, z5, z6⟩ := hq.2.2 r p hr
  have hAr := toI p.2.2.2 (by omega)
  have hKd := toI p.1 (by omega)
  have c0 : (0 : Int32).toInt = 0 := rfl
  have c1 : (1 : Int32).toInt = 1 := rfl
  have c2 : (2 : Int32).toInt = 2 := rfl
  have c3 : (3 : Int32).toInt = 3 := rfl
  have zero : slF sl p = none → xP sc (d + 2) 186 35 [(0, .ref 28), (1, .int (nI r))] [] (mH B C v a o, g) P := by
    intro h
    rw [h] at k
    have kk : P (.inl (some (.int 0))) (mH B C v a o, g) := k
    repeat' first
      | refine xP_s rfl rfl rfl ?_
      | refine xP_ret rfl rfl rfl ?_
    exact kk
  unfold xM1
  refine xP_s rfl rfl rfl ?_
  refine xP_get rfl (mH_28 hB) rfl ?_
  refine xP_s rfl rfl rfl ?_
  refine xP_zl (n := 1000) rfl hB rfl rfl (by omega) z2 ?_
  refine xP_s rfl rfl rfl ?_
  refine xP_s rfl rfl rfl ?_
  refine xP_if (fun y1 => ?_) (fun y1 => ?_)
  · have q := xc_t y1
    dsimp only at q
    exact zero (slF_3 (by omega))
  · have q := xc_f y1
    dsimp only at q
    have k3 : p.1 = 3 := by omega
    refine xP_s rfl rfl rfl ?_
    refine xP_s rfl rfl rfl ?_
    refine xP_s rfl rfl rfl ?_
    refine xP_s rfl rfl rfl ?_
    refine xP_s rfl rfl rfl ?_
    refine xP_cv rfl rfl rfl rfl rfl (mH_28 hB) (q_isNamed (c := 46) (e := 0) (n := 2) hB hn hq hr (by decide) (by decide) (by decide) ?_)
    rw [nmd_dot hp hi z1]
    refine xP_s rfl rfl rfl ?_
    rw [xb_ne0]
    refine xP_if (fun y2 => ?_) (fun y2 => ?_)
    · exact zero (slF_dot h46 y2)
    · refine xP_s rfl rfl rfl ?_
      refine xP_s rfl rfl rfl ?_
      refine xP_s rfl rfl rfl ?_
      refine xP_s rfl rfl rfl ?_
      refine xP_s rfl rfl rfl ?_
      refine xP_cv rfl rfl rfl rfl rfl (mH_28 hB) (q_isNamed (c := 123) (e := 125) (n := 1) hB hn hq hr (by decide) (by decide) (by decide) ?_)
      rw [nmd_brc hp hi z1]
      refine xP_s rfl rfl rfl ?_
      rw [xb_eq0]
      refine xP_if (fun y3 => ?_) (fun y3 => ?_)
      · obtain ⟨j, hj, hv⟩ := z4 (by omega)
        obtain ⟨kk1, kk2⟩ := ho.key p.2.2.1
        rw [← kP_2 (p := p) (by omega)] at kk1 kk2
        have ei : inV sl (keM p.2.2.1) = inV sl (kP p) := by
          unfold inV
          rw [kk2]
        have ep : poV sl (keM p.2.2.1) = poV sl (kP p) := by
          unfold poV
          rw [kk2]
        refine xP_s rfl rfl rfl ?_
        refine xP_s rfl rfl rfl ?_
        refine xP_get rfl (mH_28 hB) rfl ?_
        refine xP_s rfl rfl rfl ?_
        refine xP_zl (n := 1000) rfl hB rfl rfl (by omega) hv ?_
        refine xP_cv rfl rfl rfl rfl rfl (mH_28 hB) (q_keyOf hB hn hj ?_)
        refine xP_s rfl rfl rfl ?_
        refine xP_s rfl rfl rfl ?_
        refine xP_get rfl (mH_28 hB) rfl ?_
        refine xP_s rfl rfl rfl ?_
        refine xP_zl (n := 1000) rfl hB rfl rfl (by omega) z5 ?_
        refine xP_s rfl rfl rfl ?_
        refine xP_s rfl rfl rfl ?_
        refine xP_if (fun y4 => ?_) (fun y4 => ?_)
        · have q4 := xc_t y4
          dsimp only at q4
          refine xP_s rfl rfl rfl ?_
          refine xP_get rfl (mH_28 hB) rfl ?_
          refine xP_s rfl rfl rfl ?_
          refine xP_zl (n := 1000) rfl hB rfl rfl (by omega) z5 ?_
          refine xP_s rfl rfl rfl ?_
          refine xP_s rfl rfl rfl ?_
          refine xP_if (fun y5 => ?_) (fun y5 => ?_)
          · have q5 := xc_t y5
            dsimp only at q5
            have h1 : p.2.2.2 = 1 := by omega
            rw [slF_1 ho k3 h1] at k
            have hle := (ho.le (key := kP p)).1
            have hS := toI (slP (opP sl (kP p))) (by omega)
            refine xP_s rfl rfl rfl ?_
            refine xP_s rfl rfl rfl ?_
            refine xP_cv rfl rfl rfl rfl rfl (mH_28 hB) (q_prefixOf hB ho ?_)
            rw [kk1]
            refine xP_s rfl rfl rfl ?_
            refine xP_if (fun y6 => ?_) (fun y6 => ?_)
            · have q6 := xc_t y6
              dsimp only at q6
              rw [if_neg (fun h => by have := (slP_pos ho).2.mpr h; omega)] at k
              refine xP_s rfl rfl rfl ?_
              refine xP_s rfl rfl rfl ?_
              refine xP_cv rfl rfl rfl rfl rfl (mH_28 hB) (q_postfixOf hB ho ?_)
              rw [ep]
              repeat' first
                | refine xP_s rfl rfl rfl ?_
                | refine xP_ret rfl rfl rfl ?_
              exact k
            · have q6 := xc_f y6
              dsimp only at q6
              rw [if_pos ((slP_pos ho).2.mp (by omega))] at k
              refine xP_s rfl rfl rfl ?_
              refine xP_s rfl rfl rfl ?_
              refine xP_cv rfl rfl rfl rfl rfl (mH_28 hB) (q_prefixOf hB ho ?_)
              rw [kk1]
              repeat' first
                | refine xP_s rfl rfl rfl ?_
                | refine xP_ret rfl rfl rfl ?_
              exact k
          · have q5 := xc_f y5
            dsimp only at q5
            rw [slF_n (by omega) (by omega)] at k
            have kk : P (.inl (some (.int 0))) (mH B C v a o, g) := k
            repeat' first
              | refine xP_s rfl rfl rfl ?_
              | refine xP_ret rfl rfl rfl ?_
            exact kk
        · have q4 := xc_f y4
          dsimp only at q4
          rw [slF_2 k3 (by omega)] at k
          refine xP_s rfl rfl rfl ?_
          refine xP_s rfl rfl rfl ?_
          refine xP_cv rfl rfl rfl rfl rfl (mH_28 hB) (q_infixOf hB ho ?_)
          rw [ei]
          repeat' first
            | refine xP_s rfl rfl rfl ?_
            | refine xP_ret rfl rfl rfl ?_
          exact k
      · have hb : isBrcP p = true := by simpa using y3
        exact zero (slF_brc h32 hb)
set_option maxRecDepth 100000 in
theorem q_isOperator (hB : B.length = 28) (ho : zO v a o sl) (hn : zN v a N) (hq : zQ v a N Q) (hr : Q[r]? = some p) (k : P (.inl (some (.int (xb (opn2 sl p))))) (mH B C v a o, g)) : xM1 sc (d + 2) 187 [.ref 28, .int (nI r)] (mH B C v a o, g) P := by
  have hrl := (List.getElem?_eq_some_iff.mp hr).1
  have hql := hq.2.1
  obtain ⟨z1, z2, z3, z4, z5, z6⟩ := hq.2.2 r p hr
  have hKd := toI p.1 (by omega)
  have c0 : (0 : Int32).toInt = 0 := rfl
  have c2 : (2 : Int32).toInt = 2 := rfl
  unfold xM1
  refine xP_s rfl rfl rfl ?_
  refine xP_get rfl (mH_28 hB) rfl ?_
  refine xP_s rfl rfl rfl ?_
  refine xP_zl (n := 1000) rfl hB rfl rfl (by omega) z2 ?_
  refine xP_s rfl rfl rfl ?_
  refine xP_s rfl rfl rfl ?_
  refine xP_if (fun y1 => ?_) (fun y1 => ?_)
  · have q := xc_t y1
    dsimp only at q
    have k2 : p.1 = 2 := by omega
    obtain ⟨j, hj, hv⟩ := z4 (by omega)
    obtain ⟨kk1, kk2⟩ := ho.key p.2.2.1
    rw [← kP_2 (p := p) (by omega)] at kk1 kk2
    have ei : inV sl (keM p.2.2.1) = inV sl (kP p) := by
      unfold inV
      rw [kk2]
    have ep : poV sl (keM p.2.2.1) = poV sl (kP p) := by
      unfold poV
      rw [kk2]
    have es := ip_sum (key := kP p) ho
    have hle := ho.le (key := kP p)
    have eo : opn2 sl p = ((opP sl (kP p)).isSome || (opB sl (kP p)).isSome) := by
      unfold opn2
      rw [decide_eq_true k2]
      rfl
    rw [eo] at k
    refine xP_s rfl rfl rfl ?_
    refine xP_s rfl rfl rfl ?_
    refine xP_get rfl (mH_28 hB) rfl ?_
    refine xP_s rfl rfl rfl ?_
    refine xP_zl (n := 1000) rfl hB rfl rfl (by omega) hv ?_
    refine xP_cv rfl rfl rfl rfl rfl (mH_28 hB) (q_keyOf hB hn hj ?_)
    refine xP_s rfl rfl rfl ?_
    refine xP_s rfl rfl rfl ?_
    refine xP_s rfl rfl rfl ?_
    refine xP_cv rfl rfl rfl rfl rfl (mH_28 hB) (q_prefixOf hB ho ?_)
    rw [kk1]
    refine xP_s rfl rfl rfl ?_
    refine xP_s rfl rfl rfl ?_
    refine xP_cv rfl rfl rfl rfl rfl (mH_28 hB) (q_infixOf hB ho ?_)
    rw [ei]
    refine xP_s rfl rfl rfl ?_
    rw [nI_add]
    refine xP_s rfl rfl rfl ?_
    refine xP_s rfl rfl rfl ?_
    refine xP_cv rfl rfl rfl rfl rfl (mH_28 hB) (q_postfixOf hB ho ?_)
    rw [ep]
    refine xP_s rfl rfl rfl ?_
    rw [nI_add]
    have hS := toI (slP (opP sl (kP p)) + inV sl (kP p) + poV sl (kP p)) (by omega)
    refine xP_s rfl rfl rfl ?_
    refine xP_if (fun y2 => ?_) (fun y2 => ?_)
    · have q2 := xc_t y2
      dsimp only at q2
      have e1 : (opP sl (kP p)).isSome = false := by
        cases h : (opP sl (kP p)).isSome with
        | false => rfl
        | true =>
          have := (slP_pos ho).2.mpr h
          omega
      have e2 : (opB sl (kP p)).isSome = false := by
        cases h : (opB sl (kP p)).isSome with
        | false => rfl
        | true =>
          have := (slP_pos ho).1.mpr h
          omega
      rw [e1, e2] at k
      repeat' first
        | refine xP_s rfl rfl rfl ?_
        | refine xP_ret rfl rfl rfl ?_
      exact k
    · have q2 := xc_f y2
      dsimp only at q2
      have e3 : ((opP sl (kP p)).isSome || (opB sl (kP p)).isSome) = true := by
        rw [Bool.or_eq_true]
        rcases Nat.lt_or_ge 0 (slP (opP sl (kP p))) with y | y
        · exact Or.inl ((slP_pos ho).2.mp y)
        · exact Or.inr ((slP_pos ho).1.mp (by omega))
      rw [e3] at k
      repeat' first
        | refine xP_s rfl rfl rfl ?_
        | refine xP_ret rfl rfl rfl ?_
      exact k
  · have q := xc_f y1
    dsimp only at q
    have eo : opn2 sl p = false := by
      unfold opn2
      rw [decide_eq_false (by omega)]
      rfl
    rw [eo] at k
    repeat' first
      | refine xP_s rfl rfl rfl ?_
      | refine xP_ret rfl rfl rfl ?_
    exact k
-- behind a term
set_option maxRecDepth 100000 in
theorem q_skLoop {x1 : Int32} {R : List xIt} (hB : B.length = 28) (hq : zQ v a N Q) : ∀ (L : List xIt) (n k : Nat), sq n L → Q.drop k = L ++ R → n ≤ 10000 → k + L.length ≤ Q.length → P (.inl (some (.int (nI (k + L.length))))) (mH B C v a o, g) → xP sc d 179 4 [(0, .ref 28), (1, .int x1), (2, .int (nI n)), (3, .int (nI k))] [] (mH B C v a o, g) P
  | [], n, k, hs, hd, hn, hl, kk => by
    have e0 := sq_nil hs
    subst e0
    repeat' first
      | refine xP_s rfl rfl rfl ?_
      | refine xP_ret rfl rfl rfl ?_
    exact kk
  | p :: L, n, k, hs, hd, hn, hl, kk => by
    obtain ⟨m, em, hs2⟩ := sq_cons hs
    subst em
    rw [List.length_cons] at hl kk
    have hql := hq.2.1
    have hpk : Q[k]? = some p := by
      have := congrArg (fun l => l[0]?) hd
      simpa [List.getElem?_drop] using this
    have hd1 : Q.drop (k + 1) = L ++ R := by
      have := congrArg List.tail hd
      rwa [List.tail_drop] at this
    obtain ⟨z1, z2, z3, z4, z5, z6⟩ := hq.2.2 k p hpk
    have hM := toI (m + 1) (by omega)
    have c0 : (0 : Int32).toInt = 0 := rfl
    by_cases hbig : m + p.2.2.2 ≤ 10000
    · have go := q_skLoop (x1 := x1) hB hq L (m + p.2.2.2) (k + 1) hs2 hd1 hbig (by omega) (by rw [show k + 1 + L.length = k + (L.length + 1) by omega]; exact kk)
      rw [← nI_p1 k] at go
      have ea : nI (m + 1) + (nI p.2.2.2 - 1) = nI (m + p.2.2.2) := by
        rw [← nI_p1, i_skip, nI_add]
      refine xP_s rfl rfl rfl ?_
      refine xP_s rfl rfl rfl ?_
      refine xP_if (fun y1 => ?_) (fun y1 => ?_)
      · have q := xc_t y1
        dsimp only at q
        omega
      · refine xP_s rfl rfl rfl ?_
        refine xP_s rfl rfl rfl ?_
        refine xP_get rfl (mH_28 hB) rfl ?_
        refine xP_s rfl rfl rfl ?_
        refine xP_zl (n := 1000) rfl hB rfl rfl (by omega) z5 ?_
        refine xP_s rfl rfl rfl ?_
        refine xP_s rfl rfl rfl ?_
        refine xP_s rfl rfl rfl ?_
        rw [ea]
        refine xP_s rfl rfl rfl ?_
        refine xP_s rfl rfl rfl ?_
        refine xP_s rfl rfl rfl ?_
        exact go
    · have := sq_len hs2
      omega
set_option maxRecDepth 100000 in
theorem q_skip {L R : List xIt} (hB : B.length = 28) (hq : zQ v a N Q) (hs : isTm L) (hd : Q.drop r = L ++ R) (hl : r + L.length ≤ Q.length) (k : P (.inl (some (.int (nI (r + L.length))))) (mH B C v a o, g)) : xM1 sc d 179 [.ref 28, .int (nI r)] (mH B C v a o, g) P := by
  have go := q_skLoop (sc := sc) (d := d) (x1 := nI r) hB hq L 1 r (fun m R => hs m R) hd (by decide) hl k
  unfold xM1
  refine xP_s rfl rfl rfl ?_
  refine xP_s rfl rfl rfl ?_
  refine xP_s rfl rfl rfl ?_
  refine xP_s rfl rfl rfl ?_
  exact go
end WG2
