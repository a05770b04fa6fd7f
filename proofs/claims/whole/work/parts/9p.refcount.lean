-- the reference: canBe, operators, count
theorem x_b0 (s : Int64) : s &&& 255 = lN (bN s 0) := by
  have h := x_and s (i := 1) (by decide)
  have e : ((1 : Int64) <<< ((8 * nI 1).toInt64 &&& 63) - 1) = 255 := by decide
  rw [e] at h
  rw [h]
  unfold bN
  simp
theorem x_b1 (s : Int64) : (s.toUInt64 >>> ((8 : Int32).toInt64.toUInt64 &&& Int64.toUInt64 63)).toInt64 &&& 255 = lN (bN s 1) := by
  have h := x_byteL s 1 (by decide)
  have e : (8 * nI 1 : Int32) = 8 := by decide
  rw [e] at h
  exact h
section WS2
variable {sc : xSc} {d g : Nat} {A B C : List xC} {o : Nat → Int64} {P : xO → xH → Prop} {v : Nat → Int32} {a : Nat → Nat → Int32} {t : List Nat} {s : Int64} {N : List (List Nat)} {Ts : List (List xIt)} {sl : List xSl} {x : Int32}
set_option maxRecDepth 100000 in
theorem q_isSmall2 {c : Nat} (hc : c < 256) (k : P (.inl (some (.int (xb (isSm c))))) (A, g)) : xM1 sc d 146 [.int (nI c)] (A, g) P := by
  have h1 : (97 : Int32).toInt = 97 := rfl
  have h2 : (122 : Int32).toInt = 122 := rfl
  have h3 : (nI c).toInt = (c : Int) := nI_toInt (by omega)
  have hb : isSm c = true ↔ 97 ≤ c ∧ c ≤ 122 := by simp [isSm]
  unfold xM1
  repeat' first
    | refine xP_s rfl rfl rfl ?_
    | refine xP_if (fun hc => ?_) (fun hc => ?_)
    | refine xP_ret rfl rfl rfl ?_
  all_goals
    (try simp only [xc_i, decide_eq_true_eq, decide_eq_false_iff_not] at *)
  all_goals first
    | (rw [show (isSm c) = true from hb.mpr (by omega)] at k; exact k)
    | (rw [show (isSm c) = false from Bool.not_eq_true _ ▸ fun q => absurd (hb.mp q) (by omega)] at k; exact k)
set_option maxRecDepth 100000 in
theorem q_isSign2 {c : Nat} (hc : c < 256) (k : P (.inl (some (.int (xb (isSg c))))) (A, g)) : xM1 sc d 145 [.int (nI c)] (A, g) P := by
  rw [← sgI_nI2 c hc] at k
  generalize nI c = x at k ⊢
  unfold xM1
  repeat' first
    | refine xP_s rfl rfl rfl ?_
    | refine xP_if (fun hc => ?_) (fun hc => ?_)
    | refine xP_ret rfl rfl rfl ?_
  all_goals
    simp only [xc_eq, xc_ne, decide_eq_true_eq, decide_eq_false_iff_not, Decidable.not_not] at *
  all_goals first
    | (rw [show sgI x = true by simp [sgI, *]] at k; exact k)
    | (rw [show sgI x = false by simp [sgI, *]] at k; exact k)
set_option maxHeartbeats 4000000 in
set_option maxRecDepth 100000 in
theorem q_cbLoop {l : List Nat} (hl : l = txt s) : ∀ (m i : Nat) (W S : Bool) (ex : xL), (ex = [] ∨ ∃ y, ex = [(6, .int y)]) → i + m = l.length →
    (∀ x5, xP sc (d + 1) 150 88 [(0, .long s), (2, .int (nI l.length)), (3, .int (xb (W && (l.drop i).all isSm))), (4, .int (xb (S && (l.drop i).all isSg))), (5, .int x5)] [] (A, g) P) →
    xP sc (d + 1) 150 24 ([(0, .long s), (2, .int (nI l.length)), (3, .int (xb W)), (4, .int (xb S)), (5, .int (nI i))] ++ ex) [] (A, g) P
  | 0, i, W, S, ex, hex, hm, k => by
    have h8 : l.length ≤ 8 := by rw [hl]; exact tx_len s 8 0
    have hI := toI i (by omega)
    have hL := toI l.length (by omega)
    have ed : l.drop i = [] := List.drop_eq_nil_of_le (by omega)
    have kk := k (nI i)
    rw [ed] at kk
    have e1 : (W && ([] : List Nat).all isSm) = W := by simp
    have e2 : (S && ([] : List Nat).all isSg) = S := by simp
    rw [e1, e2] at kk
    have base : xP sc (d + 1) 150 24 [(0, .long s), (2, .int (nI l.length)), (3, .int (xb W)), (4, .int (xb S)), (5, .int (nI i))] [] (A, g) P := by
      refine xP_s rfl rfl rfl ?_
      refine xP_s rfl rfl rfl ?_
      refine xP_s rfl rfl rfl ?_
      refine xP_if (fun y1 => ?_) (fun y1 => ?_)
      · exact kk
      · have q := xc_f y1
        dsimp only at q
        omega
    rcases hex with rfl | ⟨y, rfl⟩
    · exact base
    · exact xP_more [(6, .int y)] rfl base
  | m + 1, i, W, S, ex, hex, hm, k => by
    have h8 : l.length ≤ 8 := by rw [hl]; exact tx_len s 8 0
    have hI := toI i (by omega)
    have hL := toI l.length (by omega)
    obtain ⟨c, hc⟩ : ∃ c, l[i]? = some c := ⟨l[i]'(by omega), List.getElem?_eq_getElem (by omega)⟩
    have hbn : bN s i = c := by
      have := tx_get s 8 0 i c (by rw [hl] at hc; exact hc)
      rw [Nat.zero_add] at this
      exact this.1
    have hb := bN_lt s i
    have eb := x_byteL s i (by omega)
    rw [hbn] at eb hb
    have ed : l.drop i = c :: l.drop (i + 1) := by
      have e : l[i]'(by omega) = c := by
        have := List.getElem?_eq_getElem (l := l) (i := i) (by omega)
        rw [hc] at this
        exact (Option.some.inj this).symm
      rw [List.drop_eq_getElem_cons (by omega), e]
    have base : xP sc (d + 1) 150 24 [(0, .long s), (2, .int (nI l.length)), (3, .int (xb W)), (4, .int (xb S)), (5, .int (nI i))] [] (A, g) P := by
      have go : ∀ (W' S' : Bool), W' = (W && isSm c) → S' = (S && isSg c) → xP sc (d + 1) 150 24 [(0, .long s), (2, .int (nI l.length)), (3, .int (xb W')), (4, .int (xb S')), (5, .int (nI (i + 1))), (6, .int (nI c))] [] (A, g) P := fun W' S' e1 e2 => q_cbLoop hl m (i + 1) W' S' [(6, .int (nI c))] (Or.inr ⟨_, rfl⟩) (by omega) (fun x5 => by
        have kk := k x5
        rw [ed, List.all_cons, List.all_cons, ← Bool.and_assoc, ← Bool.and_assoc, ← e1, ← e2] at kk
        exact kk)
      have at61 : ∀ W' : Bool, W' = (W && isSm c) → xP sc (d + 1) 150 61 [(0, .long s), (2, .int (nI l.length)), (3, .int (xb W)), (4, .int (xb S)), (5, .int (nI i)), (6, .int (nI c))] [.int (xb W')] (A, g) P := by
        intro W' e1
        have fin : ∀ S' : Bool, S' = (S && isSg c) → xP sc (d + 1) 150 80 [(0, .long s), (2, .int (nI l.length)), (3, .int (xb W')), (4, .int (xb S)), (5, .int (nI i)), (6, .int (nI c))] [.int (xb S')] (A, g) P := by
          intro S' e2
          have kk := go W' S' e1 e2
          rw [← nI_p1 i] at kk
          refine xP_s rfl rfl rfl ?_
          refine xP_s rfl rfl rfl ?_
          refine xP_s rfl rfl rfl ?_
          exact kk
        refine xP_s rfl rfl rfl ?_
        refine xP_s rfl rfl rfl ?_
        refine xP_s rfl rfl rfl ?_
        rw [xb_eq0]
        refine xP_if (fun z => ?_) (fun z => ?_)
        · have hS : S = false := by simpa using z
          refine xP_s rfl rfl rfl ?_
          exact fin false (by rw [hS]; rfl)
        · have hS : S = true := by simpa using z
          refine xP_s rfl rfl rfl ?_
          refine xP_call rfl rfl rfl (q_isSign2 hb ?_)
          refine xP_s rfl rfl rfl ?_
          rw [xb_eq0]
          refine xP_if (fun z2 => ?_) (fun z2 => ?_)
          · have h2 : isSg c = false := by simpa using z2
            refine xP_s rfl rfl rfl ?_
            exact fin false (by rw [h2]; simp)
          · have h2 : isSg c = true := by simpa using z2
            refine xP_s rfl rfl rfl ?_
            refine xP_s rfl rfl rfl ?_
            exact fin true (by rw [hS, h2]; rfl)
      refine xP_s rfl rfl rfl ?_
      refine xP_s rfl rfl rfl ?_
      refine xP_s rfl rfl rfl ?_
      refine xP_if (fun y1 => ?_) (fun y1 => ?_)
      · have q := xc_t y1
        dsimp only at q
        omega
      · refine xP_s rfl rfl rfl ?_
        refine xP_s rfl rfl rfl ?_
        refine xP_s rfl rfl rfl ?_
        refine xP_s rfl rfl rfl ?_
        refine xP_s rfl rfl rfl ?_
        refine xP_s rfl rfl rfl ?_
        refine xP_s rfl rfl rfl ?_
        rw [eb]
        refine xP_s rfl rfl rfl ?_
        rw [lN_i]
        refine xP_s rfl rfl rfl ?_
        refine xP_s rfl rfl rfl ?_
        refine xP_s rfl rfl rfl ?_
        rw [xb_eq0]
        refine xP_if (fun z => ?_) (fun z => ?_)
        · have hW : W = false := by simpa using z
          refine xP_s rfl rfl rfl ?_
          exact at61 false (by rw [hW]; rfl)
        · have hW : W = true := by simpa using z
          refine xP_s rfl rfl rfl ?_
          refine xP_call rfl rfl rfl (q_isSmall2 hb ?_)
          refine xP_s rfl rfl rfl ?_
          rw [xb_eq0]
          refine xP_if (fun z2 => ?_) (fun z2 => ?_)
          · have h2 : isSm c = false := by simpa using z2
            refine xP_s rfl rfl rfl ?_
            exact at61 false (by rw [h2]; simp)
          · have h2 : isSm c = true := by simpa using z2
            refine xP_s rfl rfl rfl ?_
            refine xP_s rfl rfl rfl ?_
            exact at61 true (by rw [hW, h2]; rfl)
    rcases hex with rfl | ⟨y, rfl⟩
    · exact base
    · exact xP_more [(6, .int y)] rfl base
def odB (l : List Nat) : Bool := (decide (l.length = 1) && decide (oz l 0 = 46)) || (decide (1 < l.length) && (decide (oz l 0 = 47) && decide (oz l 1 = 42)))
theorem sm_46 : ∀ c, isSm c = true → ¬ c = 46 ∧ ¬ c = 47 := fun c h => by
  simp [isSm] at h
  omega
theorem opn_e (l : List Nat) : ((decide (0 < l.length) && l.all isSm) || ((decide (0 < l.length) && l.all isSg) && !odB l)) = opn l := by
  cases l with
  | nil => decide
  | cons c r =>
    have e1 : decide (0 < (c :: r).length) = true := decide_eq_true (Nat.zero_lt_succ _)
    have e2 : ((c :: r) == [46] || (c :: r).take 2 == [47, 42]) = odB (c :: r) := by
      unfold odB
      rw [oz_c]
      cases r with
      | nil =>
        have h1 : decide (1 < [c].length) = false := by simp
        have h2 : decide ([c].length = 1) = true := by simp
        rw [h1, h2]
        rw [Bool.eq_iff_iff]
        simp
      | cons b r =>
        have h1 : decide (1 < (c :: b :: r).length) = true := by simp
        have h2 : decide ((c :: b :: r).length = 1) = false := by simp
        rw [h1, h2, show oz (c :: b :: r) 1 = b from rfl]
        rw [Bool.eq_iff_iff]
        simp
    unfold opn
    rw [e1, e2, show (c :: r).isEmpty = false from rfl, Bool.true_and, Bool.true_and, Bool.false_or]
    cases h1 : (c :: r).all isSm with
    | false =>
      rw [Bool.false_or, Bool.false_or]
    | true =>
      have hc := List.all_eq_true.mp h1 c List.mem_cons_self
      have ho : odB (c :: r) = false := by
        unfold odB
        rw [oz_c, decide_eq_false (sm_46 c hc).1, decide_eq_false (sm_46 c hc).2]
        simp
      rw [ho]
      simp
set_option maxHeartbeats 4000000 in
set_option maxRecDepth 100000 in
theorem q_canBe {l : List Nat} (hl : l = txt s) (k : P (.inl (some (.int (xb (opn l))))) (A, g)) : xM1 sc (d + 1) 150 [.long s, .int (nI l.length)] (A, g) P := by
  have h8 : l.length ≤ 8 := by rw [hl]; exact tx_len s 8 0
  have hL := toI l.length (by omega)
  have c0 : (0 : Int32).toInt = 0 := rfl
  have c1 : (1 : Int32).toInt = 1 := rfl
  have hb0 : bN s 0 = oz l 0 := by
    unfold oz
    cases hx : l[0]? with
    | none =>
      have : l.length = 0 := by
        have := List.getElem?_eq_none_iff.mp hx
        omega
      rw [hl] at this
      have e0 : (tx s 8 0).length = 0 := this
      have h2 := tx_end s 8 0 (by omega)
      rw [e0] at h2
      exact h2
    | some c =>
      have := tx_get s 8 0 0 c (by rw [hl] at hx; exact hx)
      exact this.1
  have hb1 : 1 < l.length → bN s 1 = oz l 1 := fun h => by
    unfold oz
    cases hx : l[1]? with
    | none =>
      have := List.getElem?_eq_none_iff.mp hx
      omega
    | some c =>
      have := tx_get s 8 0 1 c (by rw [hl] at hx; exact hx)
      exact this.1
  have hq0 := bN_lt s 0
  have hq1 := bN_lt s 1
  rw [← opn_e] at k
  -- behind the loop
  have tail : ∀ (W S : Bool) (x5 : Int32), W = (decide (0 < l.length) && l.all isSm) → S = (decide (0 < l.length) && l.all isSg) → xP sc (d + 1) 150 88 [(0, .long s), (2, .int (nI l.length)), (3, .int (xb W)), (4, .int (xb S)), (5, .int x5)] [] (A, g) P := by
    intro W S x5 hW hS
    rw [← hW, ← hS] at k
    have at142 : ∀ D : Bool, D = odB l → xP sc (d + 1) 150 142 [(0, .long s), (2, .int (nI l.length)), (3, .int (xb W)), (4, .int (xb S)), (5, .int x5)] [.int (xb D)] (A, g) P := by
      intro D hD
      rw [← hD] at k
      cases W with
      | true =>
        repeat' first
          | refine xP_s rfl rfl rfl ?_
          | refine xP_ret rfl rfl rfl ?_
        exact k
      | false =>
        cases S with
        | false =>
          repeat' first
            | refine xP_s rfl rfl rfl ?_
            | refine xP_ret rfl rfl rfl ?_
          exact k
        | true =>
          cases D with
          | false =>
            repeat' first
              | refine xP_s rfl rfl rfl ?_
              | refine xP_ret rfl rfl rfl ?_
            exact k
          | true =>
            repeat' first
              | refine xP_s rfl rfl rfl ?_
              | refine xP_ret rfl rfl rfl ?_
            exact k
    have ho : odB l = true ↔ ((l.length = 1 ∧ oz l 0 = 46) ∨ (1 < l.length ∧ oz l 0 = 47 ∧ oz l 1 = 42)) := by
      unfold odB
      rw [Bool.or_eq_true, Bool.and_eq_true, Bool.and_eq_true, Bool.and_eq_true, decide_eq_true_iff, decide_eq_true_iff, decide_eq_true_iff, decide_eq_true_iff, decide_eq_true_iff]
    have yes : odB l = true → xP sc (d + 1) 150 137 [(0, .long s), (2, .int (nI l.length)), (3, .int (xb W)), (4, .int (xb S)), (5, .int x5)] [] (A, g) P := by
      intro h
      have kk := at142 true h.symm
      refine xP_s rfl rfl rfl ?_
      refine xP_s rfl rfl rfl ?_
      exact kk
    have no : ¬ odB l = true → xP sc (d + 1) 150 141 [(0, .long s), (2, .int (nI l.length)), (3, .int (xb W)), (4, .int (xb S)), (5, .int x5)] [] (A, g) P := by
      intro h
      have kk := at142 false (by simpa using h)
      refine xP_s rfl rfl rfl ?_
      exact kk
    have at105 : ¬ (l.length = 1 ∧ oz l 0 = 46) → xP sc (d + 1) 150 105 [(0, .long s), (2, .int (nI l.length)), (3, .int (xb W)), (4, .int (xb S)), (5, .int x5)] [] (A, g) P := by
      intro n1
      refine xP_s rfl rfl rfl ?_
      refine xP_s rfl rfl rfl ?_
      refine xP_s rfl rfl rfl ?_
      refine xP_if (fun y1 => ?_) (fun y1 => ?_)
      · have q := xc_t y1
        dsimp only at q
        exact no (fun h => by rcases ho.mp h with z | z <;> omega)
      · have q := xc_f y1
        dsimp only at q
        have hb1 := hb1 (by omega)
        refine xP_s rfl rfl rfl ?_
        refine xP_s rfl rfl rfl ?_
        refine xP_s rfl rfl rfl ?_
        rw [x_b0, hb0]
        refine xP_s rfl rfl rfl ?_
        refine xP_s rfl rfl rfl ?_
        refine xP_s rfl rfl rfl ?_
        refine xP_if (fun y2 => ?_) (fun y2 => ?_)
        · have q2 := xc_t y2
          dsimp only at q2
          refine no (fun h => ?_)
          rcases ho.mp h with z | z
          · omega
          · exact q2 (((lgc0 (lN (oz l 0)) 47).mpr (by rw [z.2.1]; rfl)).trans c0.symm)
        · have q2 := xc_f y2
          dsimp only at q2
          have e47 : oz l 0 = 47 := by
            have := (lgc0 (lN (oz l 0)) 47).mp (q2.trans c0)
            exact lN_inj (a := oz l 0) (b := 47) (by omega) (by omega) this
          refine xP_s rfl rfl rfl ?_
          refine xP_s rfl rfl rfl ?_
          refine xP_s rfl rfl rfl ?_
          refine xP_s rfl rfl rfl ?_
          refine xP_s rfl rfl rfl ?_
          rw [x_b1, hb1]
          refine xP_s rfl rfl rfl ?_
          refine xP_s rfl rfl rfl ?_
          refine xP_s rfl rfl rfl ?_
          refine xP_if (fun y3 => ?_) (fun y3 => ?_)
          · have q3 := xc_t y3
            dsimp only at q3
            refine no (fun h => ?_)
            rcases ho.mp h with z | z
            · omega
            · exact q3 (((lgc0 (lN (oz l 1)) 42).mpr (by rw [z.2.2]; rfl)).trans c0.symm)
          · have q3 := xc_f y3
            dsimp only at q3
            have e42 : oz l 1 = 42 := by
              have := (lgc0 (lN (oz l 1)) 42).mp (q3.trans c0)
              exact lN_inj (a := oz l 1) (b := 42) (by omega) (by omega) this
            exact yes (ho.mpr (Or.inr ⟨by omega, e47, e42⟩))
    refine xP_s rfl rfl rfl ?_
    refine xP_s rfl rfl rfl ?_
    refine xP_s rfl rfl rfl ?_
    refine xP_if (fun y1 => ?_) (fun y1 => ?_)
    · have q := xc_t y1
      dsimp only at q
      exact at105 (by omega)
    · have q := xc_f y1
      dsimp only at q
      refine xP_s rfl rfl rfl ?_
      refine xP_s rfl rfl rfl ?_
      refine xP_s rfl rfl rfl ?_
      rw [x_b0, hb0]
      refine xP_s rfl rfl rfl ?_
      refine xP_s rfl rfl rfl ?_
      refine xP_s rfl rfl rfl ?_
      refine xP_if (fun y2 => ?_) (fun y2 => ?_)
      · have q2 := xc_t y2
        dsimp only at q2
        have e46 : oz l 0 = 46 := by
          have := (lgc0 (lN (oz l 0)) 46).mp (q2.trans c0)
          exact lN_inj (a := oz l 0) (b := 46) (by omega) (by omega) this
        exact yes (ho.mpr (Or.inl ⟨by omega, e46⟩))
      · have q2 := xc_f y2
        dsimp only at q2
        refine at105 (fun h => ?_)
        exact q2 (((lgc0 (lN (oz l 0)) 46).mpr (by rw [h.2]; rfl)).trans c0.symm)
  have start : ∀ b : Bool, b = decide (0 < l.length) → xP sc (d + 1) 150 19 [(0, .long s), (2, .int (nI l.length)), (3, .int (xb b))] [.int (xb b)] (A, g) P := by
    intro b hb
    have lp := q_cbLoop (sc := sc) (d := d) (A := A) (g := g) (P := P) hl l.length 0 b b [] (Or.inl rfl) (by omega) (fun x5 => by
      rw [List.drop_zero]
      exact tail _ _ x5 (by rw [hb]) (by rw [hb]))
    refine xP_s rfl rfl rfl ?_
    refine xP_s rfl rfl rfl ?_
    refine xP_s rfl rfl rfl ?_
    exact lp
  unfold xM1
  refine xP_s rfl rfl rfl ?_
  refine xP_s rfl rfl rfl ?_
  refine xP_if (fun y1 => ?_) (fun y1 => ?_)
  · have q := xc_t y1
    dsimp only at q
    have kk := start false (decide_eq_false (by omega)).symm
    refine xP_s rfl rfl rfl ?_
    refine xP_s rfl rfl rfl ?_
    refine xP_s rfl rfl rfl ?_
    refine xP_s rfl rfl rfl ?_
    refine xP_if (fun y2 => ?_) (fun y2 => ?_)
    · refine xP_s rfl rfl rfl ?_
      exact kk
    · have q2 := xc_f y2
      dsimp only at q2
      omega
  · have q := xc_f y1
    dsimp only at q
    have kk := start true (decide_eq_true (by omega)).symm
    refine xP_s rfl rfl rfl ?_
    refine xP_s rfl rfl rfl ?_
    refine xP_s rfl rfl rfl ?_
    refine xP_s rfl rfl rfl ?_
    refine xP_s rfl rfl rfl ?_
    refine xP_if (fun y2 => ?_) (fun y2 => ?_)
    · have q2 := xc_t y2
      dsimp only at q2
      omega
    · refine xP_s rfl rfl rfl ?_
      refine xP_s rfl rfl rfl ?_
      exact kk
/-- how many operators the table holds -/
def cntO (a : Nat → Nat → Int32) : Nat → Nat
  | 0 => 0
  | n + 1 => cntO a n + (if 0 < (a 31 n).toInt then 1 else 0) + (if 0 < (a 33 n).toInt then 1 else 0)
theorem cntO_le (a : Nat → Nat → Int32) : ∀ n, cntO a n ≤ 2 * n
  | 0 => Nat.le_refl _
  | n + 1 => by
    have := cntO_le a n
    unfold cntO
    split <;> split <;> omega
set_option maxRecDepth 100000 in
theorem q_opsLoop {M : Nat} (hB : B.length = 28) (hM : M ≤ 64) (h3 : v 3 = nI M) (k : P (.inl (some (.int (nI (cntO a M))))) (mH B C v a o, g)) : ∀ (m i : Nat), i + m = M → xP sc d 136 4 [(0, .ref 28), (1, .int (nI (cntO a i))), (2, .int (nI i))] [] (mH B C v a o, g) P
  | 0, i, hm => by
    have hI := toI i (by omega)
    have hMi := toI M (by omega)
    have ei : i = M := by omega
    subst ei
    refine xP_s rfl rfl rfl ?_
    refine xP_s rfl rfl rfl ?_
    refine xP_zg rfl hB rfl h3 ?_
    refine xP_s rfl rfl rfl ?_
    refine xP_if (fun y1 => ?_) (fun y1 => ?_)
    · repeat' first
        | refine xP_s rfl rfl rfl ?_
        | refine xP_ret rfl rfl rfl ?_
      exact k
    · have q := xc_f y1
      dsimp only at q
      omega
  | m + 1, i, hm => by
    have hI := toI i (by omega)
    have hMi := toI M (by omega)
    have c0 : (0 : Int32).toInt = 0 := rfl
    have hc := cntO_le a i
    have go := q_opsLoop hB hM h3 k m (i + 1) (by omega)
    have fin : ∀ p q : Nat, p ≤ 1 → q ≤ 1 → cntO a (i + 1) = cntO a i + p + q → xP sc d 136 41 [(0, .ref 28), (1, .int (nI (cntO a i))), (2, .int (nI i))] [.int (nI q), .int (nI p), .int (nI (cntO a i))] (mH B C v a o, g) P := by
      intro p q hp hq e
      rw [e, ← nI_p1 i, Nat.add_assoc, ← nI_add, ← nI_add] at go
      refine xP_s rfl rfl rfl ?_
      refine xP_s rfl rfl rfl ?_
      refine xP_s rfl rfl rfl ?_
      refine xP_s rfl rfl rfl ?_
      refine xP_s rfl rfl rfl ?_
      exact go
    have second : ∀ p : Nat, p ≤ 1 → p = (if 0 < (a 31 i).toInt then 1 else 0) → xP sc d 136 27 [(0, .ref 28), (1, .int (nI (cntO a i))), (2, .int (nI i))] [.int (nI p), .int (nI (cntO a i))] (mH B C v a o, g) P := by
      intro p hp ep
      refine xP_s rfl rfl rfl ?_
      refine xP_get rfl (mH_28 hB) rfl ?_
      refine xP_s rfl rfl rfl ?_
      refine xP_zl (n := 64) rfl hB rfl rfl (by omega) rfl ?_
      refine xP_s rfl rfl rfl ?_
      refine xP_if (fun y1 => ?_) (fun y1 => ?_)
      · have q := xc_t y1
        dsimp only at q
        have kk := fin p 0 hp (by decide) (by
          show cntO a i + _ + _ = _
          rw [← ep, if_neg (by omega)])
        refine xP_s rfl rfl rfl ?_
        exact kk
      · have q := xc_f y1
        dsimp only at q
        have kk := fin p 1 hp (by decide) (by
          show cntO a i + _ + _ = _
          rw [← ep, if_pos (by omega)])
        refine xP_s rfl rfl rfl ?_
        refine xP_s rfl rfl rfl ?_
        exact kk
    refine xP_s rfl rfl rfl ?_
    refine xP_s rfl rfl rfl ?_
    refine xP_zg rfl hB rfl h3 ?_
    refine xP_s rfl rfl rfl ?_
    refine xP_if (fun y1 => ?_) (fun y1 => ?_)
    · have q := xc_t y1
      dsimp only at q
      omega
    · refine xP_s rfl rfl rfl ?_
      refine xP_s rfl rfl rfl ?_
      refine xP_get rfl (mH_28 hB) rfl ?_
      refine xP_s rfl rfl rfl ?_
      refine xP_zl (n := 64) rfl hB rfl rfl (by omega) rfl ?_
      refine xP_s rfl rfl rfl ?_
      refine xP_if (fun y2 => ?_) (fun y2 => ?_)
      · have q := xc_t y2
        dsimp only at q
        have kk := second 0 (by decide) (by rw [if_neg (by omega)])
        refine xP_s rfl rfl rfl ?_
        exact kk
      · have q := xc_f y2
        dsimp only at q
        have kk := second 1 (by decide) (by rw [if_pos (by omega)])
        refine xP_s rfl rfl rfl ?_
        refine xP_s rfl rfl rfl ?_
        exact kk
set_option maxRecDepth 100000 in
theorem q_operators {M : Nat} (hB : B.length = 28) (hM : M ≤ 64) (h3 : v 3 = nI M) (k : P (.inl (some (.int (nI (cntO a M))))) (mH B C v a o, g)) : xM1 sc d 136 [.ref 28] (mH B C v a o, g) P := by
  have go := q_opsLoop (sc := sc) (d := d) hB hM h3 k M 0 (by omega)
  unfold xM1
  refine xP_s rfl rfl rfl ?_
  refine xP_s rfl rfl rfl ?_
  refine xP_s rfl rfl rfl ?_
  refine xP_s rfl rfl rfl ?_
  exact go
set_option maxRecDepth 100000 in
theorem q_count {M : Nat} (hB : B.length = 28) (hW : zW t sl v a o N Ts) (hM : M ≤ 64) (h3 : v 3 = nI M)
    (kb : ¬ (0 ≤ x.toInt ∧ x.toInt ≤ 3) → P (.inl (some (.int 0))) (mH B C (upd v 0 1) a o, g))
    (k0 : x.toInt = 0 → P (.inl (some (.int (nI t.length)))) (mH B C (upd v 0 0) a o, g)) (k1 : x.toInt = 1 → P (.inl (some (.int (nI Ts.length)))) (mH B C (upd v 0 0) a o, g)) (k2 : x.toInt = 2 → P (.inl (some (.int (nI Ts.flatten.length)))) (mH B C (upd v 0 0) a o, g)) (k3 : x.toInt = 3 → P (.inl (some (.int (nI (cntO a M))))) (mH B C (upd v 0 0) a o, g)) : xM1 sc (d + 1) 199 [.ref 28, .int x] (mH B C v a o, g) P := by
  have c0 : (0 : Int32).toInt = 0 := rfl
  have c1 : (1 : Int32).toInt = 1 := rfl
  have c2 : (2 : Int32).toInt = 2 := rfl
  have c3 : (3 : Int32).toInt = 3 := rfl
  have bad : ¬ (0 ≤ x.toInt ∧ x.toInt ≤ 3) → xP sc (d + 1) 199 10 [(0, .ref 28), (1, .int x)] [.ref 28] (mH B C v a o, g) P := by
    intro h
    have kb := kb h
    refine xP_s rfl rfl rfl ?_
    refine xP_s rfl rfl rfl ?_
    refine xP_zp rfl hB rfl rfl ?_
    refine xP_s rfl rfl rfl ?_
    refine xP_zg rfl hB rfl upd_s ?_
    repeat' first
      | refine xP_s rfl rfl rfl ?_
      | refine xP_ret rfl rfl rfl ?_
    exact kb
  unfold xM1
  refine xP_s rfl rfl rfl ?_
  refine xP_s rfl rfl rfl ?_
  refine xP_s rfl rfl rfl ?_
  refine xP_if (fun y1 => ?_) (fun y1 => ?_)
  · have q := xc_t y1
    dsimp only at q
    exact bad (by omega)
  · have q := xc_f y1
    dsimp only at q
    refine xP_s rfl rfl rfl ?_
    refine xP_s rfl rfl rfl ?_
    refine xP_s rfl rfl rfl ?_
    refine xP_if (fun y2 => ?_) (fun y2 => ?_)
    · have q2 := xc_t y2
      dsimp only at q2
      refine xP_s rfl rfl rfl ?_
      refine xP_zp rfl hB rfl rfl ?_
      refine xP_s rfl rfl rfl ?_
      refine xP_zg rfl hB rfl upd_s ?_
      refine xP_s rfl rfl rfl ?_
      refine xP_s rfl rfl rfl ?_
      refine xP_s rfl rfl rfl ?_
      refine xP_if (fun y3 => ?_) (fun y3 => ?_)
      · have q3 := xc_t y3
        dsimp only at q3
        refine xP_s rfl rfl rfl ?_
        refine xP_s rfl rfl rfl ?_
        refine xP_s rfl rfl rfl ?_
        refine xP_if (fun y4 => ?_) (fun y4 => ?_)
        · have q4 := xc_t y4
          dsimp only at q4
          refine xP_s rfl rfl rfl ?_
          refine xP_s rfl rfl rfl ?_
          refine xP_s rfl rfl rfl ?_
          refine xP_if (fun y5 => ?_) (fun y5 => ?_)
          · have q5 := xc_t y5
            dsimp only at q5
            have kk := k3 (by omega)
            refine xP_s rfl rfl rfl ?_
            refine xP_cv rfl rfl rfl rfl rfl (mH_28 hB) (q_operators hB hM ((upd_n (by decide)).trans h3) ?_)
            repeat' first
              | refine xP_s rfl rfl rfl ?_
              | refine xP_ret rfl rfl rfl ?_
            exact kk
          · have q5 := xc_f y5
            dsimp only at q5
            have kk := k2 (by omega)
            refine xP_s rfl rfl rfl ?_
            refine xP_zg rfl hB rfl ((upd_n (by decide)).trans hW.2.2.2.1.1) ?_
            repeat' first
              | refine xP_s rfl rfl rfl ?_
              | refine xP_ret rfl rfl rfl ?_
            exact kk
        · have q4 := xc_f y4
          dsimp only at q4
          have kk := k1 (by omega)
          refine xP_s rfl rfl rfl ?_
          refine xP_zg rfl hB rfl ((upd_n (by decide)).trans hW.2.2.2.2.1) ?_
          repeat' first
            | refine xP_s rfl rfl rfl ?_
            | refine xP_ret rfl rfl rfl ?_
          exact kk
      · have q3 := xc_f y3
        dsimp only at q3
        have kk := k0 (by omega)
        refine xP_s rfl rfl rfl ?_
        refine xP_zg rfl hB rfl ((upd_n (by decide)).trans hW.1.1) ?_
        repeat' first
          | refine xP_s rfl rfl rfl ?_
          | refine xP_ret rfl rfl rfl ?_
        exact kk
    · have q2 := xc_f y2
      dsimp only at q2
      exact bad (by omega)
end WS2
