-- Tokens: rows of kinds, starts, ends, values, sizes, keys
abbrev xG : Type := (Nat → Int32) × (Nat → Int32) × (Nat → Int32) × (Nat → Int32) × (Nat → Int32) × (Nat → Int64)
def xTk (A : List xC) (u p v : Nat) (G : xG) : Prop := u ≤ 120 ∧ A[18]? = some (.inr (5, [.ref 1, .ref 5, .ref 19, .ref 20, .ref 21, .ref 22, .ref 23, .ref 24, .int (nI u), .int (nI p), .int (nI v)])) ∧ A[19]? = some (.inl (.int, 120, .inl G.1)) ∧ A[20]? = some (.inl (.int, 120, .inl G.2.1)) ∧ A[21]? = some (.inl (.int, 120, .inl G.2.2.1)) ∧ A[22]? = some (.inl (.int, 120, .inl G.2.2.2.1)) ∧ A[23]? = some (.inl (.int, 120, .inl G.2.2.2.2.1)) ∧ A[24]? = some (.inl (.long, 120, .inr (.inl G.2.2.2.2.2)))
theorem xTk.same {A A' : List xC} {u p v : Nat} {G : xG} {l : List Nat} (h : xTk A u p v G) (hs : xSame A A' l) (hl : (l.all fun k => decide (k < 18) || decide (24 < k)) = true) : xTk A' u p v G := by
  have q : ∀ k, 18 ≤ k → k ≤ 24 → k ∉ l := fun k h1 h2 hk => by
    have := List.all_eq_true.mp hl k hk
    simp at this
    omega
  exact ⟨h.1, (hs.2 _ (q 18 (by omega) (by omega))).trans h.2.1, (hs.2 _ (q 19 (by omega) (by omega))).trans h.2.2.1, (hs.2 _ (q 20 (by omega) (by omega))).trans h.2.2.2.1, (hs.2 _ (q 21 (by omega) (by omega))).trans h.2.2.2.2.1, (hs.2 _ (q 22 (by omega) (by omega))).trans h.2.2.2.2.2.1, (hs.2 _ (q 23 (by omega) (by omega))).trans h.2.2.2.2.2.2.1, (hs.2 _ (q 24 (by omega) (by omega))).trans h.2.2.2.2.2.2.2⟩
theorem xTk.setK {A : List xC} {u p v : Nat} {G : xG} (h : xTk A u p v G) (f : Nat → Int32) : xTk (A.set 19 (.inl (.int, 120, .inl f))) u p v (f, G.2.1, G.2.2.1, G.2.2.2.1, G.2.2.2.2.1, G.2.2.2.2.2) :=
  ⟨h.1, xset_n7 (by decide) h.2.1, xset_eq h.2.2.1, xset_n7 (by decide) h.2.2.2.1, xset_n7 (by decide) h.2.2.2.2.1, xset_n7 (by decide) h.2.2.2.2.2.1, xset_n7 (by decide) h.2.2.2.2.2.2.1, xset_n7 (by decide) h.2.2.2.2.2.2.2⟩
theorem xTk.setB {A : List xC} {u p v : Nat} {G : xG} (h : xTk A u p v G) (f : Nat → Int32) : xTk (A.set 20 (.inl (.int, 120, .inl f))) u p v (G.1, f, G.2.2.1, G.2.2.2.1, G.2.2.2.2.1, G.2.2.2.2.2) :=
  ⟨h.1, xset_n7 (by decide) h.2.1, xset_n7 (by decide) h.2.2.1, xset_eq h.2.2.2.1, xset_n7 (by decide) h.2.2.2.2.1, xset_n7 (by decide) h.2.2.2.2.2.1, xset_n7 (by decide) h.2.2.2.2.2.2.1, xset_n7 (by decide) h.2.2.2.2.2.2.2⟩
theorem xTk.setE {A : List xC} {u p v : Nat} {G : xG} (h : xTk A u p v G) (f : Nat → Int32) : xTk (A.set 21 (.inl (.int, 120, .inl f))) u p v (G.1, G.2.1, f, G.2.2.2.1, G.2.2.2.2.1, G.2.2.2.2.2) :=
  ⟨h.1, xset_n7 (by decide) h.2.1, xset_n7 (by decide) h.2.2.1, xset_n7 (by decide) h.2.2.2.1, xset_eq h.2.2.2.2.1, xset_n7 (by decide) h.2.2.2.2.2.1, xset_n7 (by decide) h.2.2.2.2.2.2.1, xset_n7 (by decide) h.2.2.2.2.2.2.2⟩
theorem xTk.setV {A : List xC} {u p v : Nat} {G : xG} (h : xTk A u p v G) (f : Nat → Int32) : xTk (A.set 22 (.inl (.int, 120, .inl f))) u p v (G.1, G.2.1, G.2.2.1, f, G.2.2.2.2.1, G.2.2.2.2.2) :=
  ⟨h.1, xset_n7 (by decide) h.2.1, xset_n7 (by decide) h.2.2.1, xset_n7 (by decide) h.2.2.2.1, xset_n7 (by decide) h.2.2.2.2.1, xset_eq h.2.2.2.2.2.1, xset_n7 (by decide) h.2.2.2.2.2.2.1, xset_n7 (by decide) h.2.2.2.2.2.2.2⟩
theorem xTk.setS {A : List xC} {u p v : Nat} {G : xG} (h : xTk A u p v G) (f : Nat → Int32) : xTk (A.set 23 (.inl (.int, 120, .inl f))) u p v (G.1, G.2.1, G.2.2.1, G.2.2.2.1, f, G.2.2.2.2.2) :=
  ⟨h.1, xset_n7 (by decide) h.2.1, xset_n7 (by decide) h.2.2.1, xset_n7 (by decide) h.2.2.2.1, xset_n7 (by decide) h.2.2.2.2.1, xset_n7 (by decide) h.2.2.2.2.2.1, xset_eq h.2.2.2.2.2.2.1, xset_n7 (by decide) h.2.2.2.2.2.2.2⟩
theorem xTk.setY {A : List xC} {u p v : Nat} {G : xG} (h : xTk A u p v G) (f : Nat → Int64) : xTk (A.set 24 (.inl (.long, 120, .inr (.inl f)))) u p v (G.1, G.2.1, G.2.2.1, G.2.2.2.1, G.2.2.2.2.1, f) :=
  ⟨h.1, xset_n7 (by decide) h.2.1, xset_n7 (by decide) h.2.2.1, xset_n7 (by decide) h.2.2.2.1, xset_n7 (by decide) h.2.2.2.2.1, xset_n7 (by decide) h.2.2.2.2.2.1, xset_n7 (by decide) h.2.2.2.2.2.2.1, xset_eq h.2.2.2.2.2.2.2⟩
theorem xTk.setO {A : List xC} {u p v u' p' v' : Nat} {G : xG} (h : xTk A u p v G) (hu : u' ≤ 120) : xTk (A.set 18 (.inr (5, [.ref 1, .ref 5, .ref 19, .ref 20, .ref 21, .ref 22, .ref 23, .ref 24, .int (nI u'), .int (nI p'), .int (nI v')]))) u' p' v' G :=
  ⟨hu, xset_eq h.2.1, xset_n7 (by decide) h.2.2.1, xset_n7 (by decide) h.2.2.2.1, xset_n7 (by decide) h.2.2.2.2.1, xset_n7 (by decide) h.2.2.2.2.2.1, xset_n7 (by decide) h.2.2.2.2.2.2.1, xset_n7 (by decide) h.2.2.2.2.2.2.2⟩
set_option maxRecDepth 100000 in
theorem p_isToken {sc : xSc} {d g u p v i : Nat} {A : List xC} {G : xG} {P : xO → xH → Prop} (ht : xTk A u p v G) (hi : i < 2 ^ 31) (k : P (.inl (some (.int (xb (decide (i < u)))))) (A, g)) : xM1 sc d 84 [.ref 18, .int (nI i)] (A, g) P := by
  have h18 := ht.2.1
  have hu := ht.1
  have h0 : (0 : Int32).toInt = 0 := rfl
  have h120 : (120 : Int32).toInt = 120 := rfl
  have hU : (nI u).toInt = (u : Int) := nI_toInt (by omega)
  have hI : (nI i).toInt = (i : Int) := nI_toInt hi
  obtain ⟨b, hb, hbe⟩ : ∃ b, (b = true ↔ i < u) ∧ decide (i < u) = b := ⟨decide (i < u), decide_eq_true_iff, rfl⟩
  rw [hbe] at k
  clear hbe
  unfold xM1
  repeat' first
    | refine xP_s rfl rfl rfl ?_
    | refine xP_get rfl h18 rfl ?_
    | refine xP_if (fun hc => ?_) (fun hc => ?_)
    | refine xP_ret rfl rfl rfl ?_
  all_goals
    (try simp only [xc_i, decide_eq_true_eq, decide_eq_false_iff_not] at *)
  all_goals first
    | (rw [show b = true from hb.mpr (by omega)] at k; exact k)
    | (rw [show b = false from Bool.not_eq_true _ ▸ fun q => absurd (hb.mp q) (by omega)] at k; exact k)
set_option maxRecDepth 100000 in
theorem p_tkind {sc : xSc} {d g u p v i : Nat} {A : List xC} {G : xG} {P : xO → xH → Prop} (ht : xTk A u p v G) (hi : i < 2 ^ 31) (k : P (.inl (some (.int (if i < u then G.1 i else 0)))) (A, g)) : xM1 sc (d + 1) 85 [.ref 18, .int (nI i)] (A, g) P := by
  have h18 := ht.2.1
  have hu := ht.1
  have hI : (nI i).toInt = (i : Int) := nI_toInt hi
  unfold xM1
  refine xP_s rfl rfl rfl ?_
  refine xP_s rfl rfl rfl ?_
  refine xP_cv rfl rfl rfl rfl rfl h18 (p_isToken ht hi ?_)
  by_cases hlt : i < u
  · rw [decide_eq_true hlt]
    rw [if_pos hlt] at k
    repeat' first
      | refine xP_s rfl rfl rfl ?_
      | refine xP_get rfl h18 rfl ?_
    refine xP_ial rfl ht.2.2.1 (by decide) (xib_of (by omega) (by omega)) ?_
    rw [nI_clamp hi]
    repeat' first
      | refine xP_s rfl rfl rfl ?_
      | refine xP_ret rfl rfl rfl ?_
    exact k
  · rw [decide_eq_false hlt]
    rw [if_neg hlt] at k
    repeat' first
      | refine xP_s rfl rfl rfl ?_
      | refine xP_ret rfl rfl rfl ?_
    exact k
set_option maxRecDepth 100000 in
theorem p_tvalue {sc : xSc} {d g u p v i : Nat} {A : List xC} {G : xG} {P : xO → xH → Prop} (ht : xTk A u p v G) (hi : i < 2 ^ 31) (k : P (.inl (some (.int (if i < u then G.2.2.2.1 i else 0)))) (A, g)) : xM1 sc (d + 1) 87 [.ref 18, .int (nI i)] (A, g) P := by
  have h18 := ht.2.1
  have hu := ht.1
  have hI : (nI i).toInt = (i : Int) := nI_toInt hi
  unfold xM1
  refine xP_s rfl rfl rfl ?_
  refine xP_s rfl rfl rfl ?_
  refine xP_cv rfl rfl rfl rfl rfl h18 (p_isToken ht hi ?_)
  by_cases hlt : i < u
  · rw [decide_eq_true hlt]
    rw [if_pos hlt] at k
    repeat' first
      | refine xP_s rfl rfl rfl ?_
      | refine xP_get rfl h18 rfl ?_
    refine xP_ial rfl ht.2.2.2.2.2.1 (by decide) (xib_of (by omega) (by omega)) ?_
    rw [nI_clamp hi]
    repeat' first
      | refine xP_s rfl rfl rfl ?_
      | refine xP_ret rfl rfl rfl ?_
    exact k
  · rw [decide_eq_false hlt]
    rw [if_neg hlt] at k
    repeat' first
      | refine xP_s rfl rfl rfl ?_
      | refine xP_ret rfl rfl rfl ?_
    exact k
set_option maxRecDepth 100000 in
theorem p_tsize {sc : xSc} {d g u p v i : Nat} {A : List xC} {G : xG} {P : xO → xH → Prop} (ht : xTk A u p v G) (hi : i < 2 ^ 31) (k : P (.inl (some (.int (if i < u then G.2.2.2.2.1 i else 0)))) (A, g)) : xM1 sc (d + 1) 88 [.ref 18, .int (nI i)] (A, g) P := by
  have h18 := ht.2.1
  have hu := ht.1
  have hI : (nI i).toInt = (i : Int) := nI_toInt hi
  unfold xM1
  refine xP_s rfl rfl rfl ?_
  refine xP_s rfl rfl rfl ?_
  refine xP_cv rfl rfl rfl rfl rfl h18 (p_isToken ht hi ?_)
  by_cases hlt : i < u
  · rw [decide_eq_true hlt]
    rw [if_pos hlt] at k
    repeat' first
      | refine xP_s rfl rfl rfl ?_
      | refine xP_get rfl h18 rfl ?_
    refine xP_ial rfl ht.2.2.2.2.2.2.1 (by decide) (xib_of (by omega) (by omega)) ?_
    rw [nI_clamp hi]
    repeat' first
      | refine xP_s rfl rfl rfl ?_
      | refine xP_ret rfl rfl rfl ?_
    exact k
  · rw [decide_eq_false hlt]
    rw [if_neg hlt] at k
    repeat' first
      | refine xP_s rfl rfl rfl ?_
      | refine xP_ret rfl rfl rfl ?_
    exact k
set_option maxRecDepth 100000 in
theorem p_tkey {sc : xSc} {d g u p v i : Nat} {A : List xC} {G : xG} {P : xO → xH → Prop} (ht : xTk A u p v G) (hi : i < 2 ^ 31) (k : P (.inl (some (.long (if i < u then G.2.2.2.2.2 i else 0)))) (A, g)) : xM1 sc (d + 1) 89 [.ref 18, .int (nI i)] (A, g) P := by
  have h18 := ht.2.1
  have hu := ht.1
  have hI : (nI i).toInt = (i : Int) := nI_toInt hi
  unfold xM1
  refine xP_s rfl rfl rfl ?_
  refine xP_s rfl rfl rfl ?_
  refine xP_cv rfl rfl rfl rfl rfl h18 (p_isToken ht hi ?_)
  by_cases hlt : i < u
  · rw [decide_eq_true hlt]
    rw [if_pos hlt] at k
    repeat' first
      | refine xP_s rfl rfl rfl ?_
      | refine xP_get rfl h18 rfl ?_
    refine xP_lal rfl ht.2.2.2.2.2.2.2 (xib_of (by omega) (by omega)) ?_
    rw [nI_clamp hi]
    repeat' first
      | refine xP_s rfl rfl rfl ?_
      | refine xP_ret rfl rfl rfl ?_
    exact k
  · rw [decide_eq_false hlt]
    rw [if_neg hlt] at k
    repeat' first
      | refine xP_s rfl rfl rfl ?_
      | refine xP_ret rfl rfl rfl ?_
    exact k
set_option maxRecDepth 100000 in
theorem p_tend {sc : xSc} {d g u p v i : Nat} {A : List xC} {G : xG} {P : xO → xH → Prop} (ht : xTk A u p v G) (hi : i < u) (k : P (.inl (some (.int (G.2.2.1 i)))) (A, g)) : xM1 sc (d + 1) 86 [.ref 18, .int (nI i)] (A, g) P := by
  have h18 := ht.2.1
  have hu := ht.1
  have hI : (nI i).toInt = (i : Int) := nI_toInt (by omega)
  unfold xM1
  refine xP_s rfl rfl rfl ?_
  refine xP_s rfl rfl rfl ?_
  refine xP_cv rfl rfl rfl rfl rfl h18 (p_isToken ht (by omega) ?_)
  rw [decide_eq_true hi]
  repeat' first
    | refine xP_s rfl rfl rfl ?_
    | refine xP_get rfl h18 rfl ?_
  refine xP_ial rfl ht.2.2.2.2.1 (by decide) (xib_of (by omega) (by omega)) ?_
  rw [nI_clamp (by omega)]
  repeat' first
    | refine xP_s rfl rfl rfl ?_
    | refine xP_ret rfl rfl rfl ?_
  exact k
set_option maxRecDepth 100000 in
theorem p_isMark {sc : xSc} {d g u p v i : Nat} {A : List xC} {G : xG} {c : Int32} {b : Bool} {P : xO → xH → Prop} (ht : xTk A u p v G) (hi : i < 2 ^ 31) (hb : b = true ↔ i < u ∧ (G.1 i).toInt = 5 ∧ (G.2.2.2.1 i).toInt = c.toInt) (k : P (.inl (some (.int (xb b)))) (A, g)) : xM1 sc (d + 2) 91 [.ref 18, .int (nI i), .int c] (A, g) P := by
  have h18 := ht.2.1
  have hu := ht.1
  have h5 : (5 : Int32).toInt = 5 := rfl
  have hI : (nI i).toInt = (i : Int) := nI_toInt hi
  unfold xM1
  refine xP_s rfl rfl rfl ?_
  refine xP_s rfl rfl rfl ?_
  refine xP_cv rfl rfl rfl rfl rfl h18 (p_isToken ht hi ?_)
  by_cases hlt : i < u
  · rw [decide_eq_true hlt]
    repeat' first
      | refine xP_s rfl rfl rfl ?_
      | refine xP_get rfl h18 rfl ?_
    refine xP_ial rfl ht.2.2.1 (by decide) (xib_of (by omega) (by omega)) ?_
    rw [nI_clamp hi]
    refine xP_s rfl rfl rfl ?_
    refine xP_s rfl rfl rfl ?_
    refine xP_if (fun hc => ?_) (fun hc => ?_)
    · repeat' first
        | refine xP_s rfl rfl rfl ?_
        | refine xP_ret rfl rfl rfl ?_
      all_goals
        (try simp only [xc_i, decide_eq_true_eq, decide_eq_false_iff_not] at *)
      all_goals first
        | (rw [show b = true from hb.mpr (by omega)] at k; exact k)
        | (rw [show b = false from Bool.not_eq_true _ ▸ fun q => absurd (hb.mp q) (by omega)] at k; exact k)
    · repeat' first
        | refine xP_s rfl rfl rfl ?_
        | refine xP_get rfl h18 rfl ?_
      refine xP_ial rfl ht.2.2.2.2.2.1 (by decide) (xib_of (by omega) (by omega)) ?_
      rw [nI_clamp hi]
      repeat' first
        | refine xP_s rfl rfl rfl ?_
        | refine xP_if (fun hc => ?_) (fun hc => ?_)
        | refine xP_ret rfl rfl rfl ?_
      all_goals
        (try simp only [xc_i, decide_eq_true_eq, decide_eq_false_iff_not] at *)
      all_goals first
        | (rw [show b = true from hb.mpr (by omega)] at k; exact k)
        | (rw [show b = false from Bool.not_eq_true _ ▸ fun q => absurd (hb.mp q) (by omega)] at k; exact k)
  · rw [decide_eq_false hlt]
    rw [show b = false from Bool.not_eq_true _ ▸ fun q => absurd (hb.mp q).1 hlt] at k
    repeat' first
      | refine xP_s rfl rfl rfl ?_
      | refine xP_ret rfl rfl rfl ?_
    exact k
set_option maxRecDepth 100000 in
theorem p_isNextTo {sc : xSc} {d g u p v i : Nat} {A : List xC} {G : xG} {b : Bool} {P : xO → xH → Prop} (ht : xTk A u p v G) (hi : i + 1 < 2 ^ 31) (hb : b = true ↔ i + 1 < u ∧ (G.2.2.1 i).toInt = (G.2.1 (i + 1)).toInt) (k : P (.inl (some (.int (xb b)))) (A, g)) : xM1 sc (d + 1) 92 [.ref 18, .int (nI i)] (A, g) P := by
  have h18 := ht.2.1
  have hu := ht.1
  have hI : (nI i).toInt = (i : Int) := nI_toInt (by omega)
  have hJ : (nI (i + 1)).toInt = ((i + 1 : Nat) : Int) := nI_toInt (by omega)
  unfold xM1
  refine xP_s rfl rfl rfl ?_
  refine xP_s rfl rfl rfl ?_
  refine xP_cv rfl rfl rfl rfl rfl h18 (p_isToken ht (by omega) ?_)
  by_cases hlt : i + 1 < u
  · rw [decide_eq_true (show i < u by omega)]
    refine xP_s rfl rfl rfl ?_
    refine xP_s rfl rfl rfl ?_
    refine xP_s rfl rfl rfl ?_
    refine xP_s rfl rfl rfl ?_
    refine xP_s rfl rfl rfl ?_
    rw [nI_1]
    refine xP_cv rfl rfl rfl rfl rfl h18 (p_isToken ht (by omega) ?_)
    rw [decide_eq_true hlt]
    repeat' first
      | refine xP_s rfl rfl rfl ?_
      | refine xP_get rfl h18 rfl ?_
    refine xP_ial rfl ht.2.2.2.2.1 (by decide) (xib_of (by omega) (by omega)) ?_
    rw [nI_clamp (by omega)]
    repeat' first
      | refine xP_s rfl rfl rfl ?_
      | refine xP_get rfl h18 rfl ?_
    rw [nI_1]
    refine xP_ial rfl ht.2.2.2.1 (by decide) (xib_of (by omega) (by omega)) ?_
    rw [nI_clamp (by omega)]
    repeat' first
      | refine xP_s rfl rfl rfl ?_
      | refine xP_if (fun hc => ?_) (fun hc => ?_)
      | refine xP_ret rfl rfl rfl ?_
    all_goals
      (try simp only [xc_i, decide_eq_true_eq, decide_eq_false_iff_not] at *)
    all_goals first
      | (rw [show b = true from hb.mpr (by omega)] at k; exact k)
      | (rw [show b = false from Bool.not_eq_true _ ▸ fun q => absurd (hb.mp q) (by omega)] at k; exact k)
  · rw [show b = false from Bool.not_eq_true _ ▸ fun q => absurd (hb.mp q).1 hlt] at k
    by_cases hl2 : i < u
    · rw [decide_eq_true hl2]
      refine xP_s rfl rfl rfl ?_
      refine xP_s rfl rfl rfl ?_
      refine xP_s rfl rfl rfl ?_
      refine xP_s rfl rfl rfl ?_
      refine xP_s rfl rfl rfl ?_
      rw [nI_1]
      refine xP_cv rfl rfl rfl rfl rfl h18 (p_isToken ht (by omega) ?_)
      rw [decide_eq_false hlt]
      repeat' first
        | refine xP_s rfl rfl rfl ?_
        | refine xP_ret rfl rfl rfl ?_
      exact k
    · rw [decide_eq_false hl2]
      repeat' first
        | refine xP_s rfl rfl rfl ?_
        | refine xP_ret rfl rfl rfl ?_
      exact k
set_option maxRecDepth 100000 in
theorem p_isCall {sc : xSc} {d g u p v i : Nat} {A : List xC} {G : xG} {b : Bool} {P : xO → xH → Prop} (ht : xTk A u p v G) (hi : i + 1 < 2 ^ 31) (hb : b = true ↔ i + 1 < u ∧ (G.1 i).toInt = 1 ∧ (G.2.2.1 i).toInt = (G.2.1 (i + 1)).toInt ∧ (G.1 (i + 1)).toInt = 5 ∧ (G.2.2.2.1 (i + 1)).toInt = 40) (k : P (.inl (some (.int (xb b)))) (A, g)) : xM1 sc (d + 3) 93 [.ref 18, .int (nI i)] (A, g) P := by
  have h18 := ht.2.1
  have h0 : (0 : Int32).toInt = 0 := rfl
  have h1 : (1 : Int32).toInt = 1 := rfl
  have h40 : (40 : Int32).toInt = 40 := rfl
  obtain ⟨b1, hb1⟩ : ∃ b1 : Bool, b1 = true ↔ i + 1 < u ∧ (G.2.2.1 i).toInt = (G.2.1 (i + 1)).toInt := ⟨decide (i + 1 < u ∧ (G.2.2.1 i).toInt = (G.2.1 (i + 1)).toInt), decide_eq_true_iff⟩
  obtain ⟨b2, hb2⟩ : ∃ b2 : Bool, b2 = true ↔ i + 1 < u ∧ (G.1 (i + 1)).toInt = 5 ∧ (G.2.2.2.1 (i + 1)).toInt = (40 : Int32).toInt := ⟨decide (i + 1 < u ∧ (G.1 (i + 1)).toInt = 5 ∧ (G.2.2.2.1 (i + 1)).toInt = (40 : Int32).toInt), decide_eq_true_iff⟩
  unfold xM1
  refine xP_s rfl rfl rfl ?_
  refine xP_s rfl rfl rfl ?_
  refine xP_cv rfl rfl rfl rfl rfl h18 (p_tkind ht (by omega) ?_)
  by_cases hlt : i < u
  · rw [if_pos hlt]
    refine xP_s rfl rfl rfl ?_
    refine xP_s rfl rfl rfl ?_
    refine xP_if (fun hc => ?_) (fun hc => ?_)
    · repeat' first
        | refine xP_s rfl rfl rfl ?_
        | refine xP_ret rfl rfl rfl ?_
      all_goals
        (try simp only [xc_i, decide_eq_true_eq, decide_eq_false_iff_not] at *)
      all_goals first
        | (rw [show b = true from hb.mpr (by omega)] at k; exact k)
        | (rw [show b = false from Bool.not_eq_true _ ▸ fun q => absurd (hb.mp q) (by omega)] at k; exact k)
    · refine xP_s rfl rfl rfl ?_
      refine xP_s rfl rfl rfl ?_
      refine xP_cv rfl rfl rfl rfl rfl h18 (p_isNextTo ht hi hb1 ?_)
      cases b1
      · have hb1 : ¬ (i + 1 < u ∧ (G.2.2.1 i).toInt = (G.2.1 (i + 1)).toInt) := fun q => absurd (hb1.mpr q) (by decide)
        repeat' first
          | refine xP_s rfl rfl rfl ?_
          | refine xP_ret rfl rfl rfl ?_
        all_goals
          (try simp only [xc_i, decide_eq_true_eq, decide_eq_false_iff_not] at *)
        all_goals first
          | (rw [show b = true from hb.mpr (by omega)] at k; exact k)
          | (rw [show b = false from Bool.not_eq_true _ ▸ fun q => absurd (hb.mp q) (by omega)] at k; exact k)
      · have hb1 := hb1.mp rfl
        refine xP_s rfl rfl rfl ?_
        refine xP_s rfl rfl rfl ?_
        refine xP_s rfl rfl rfl ?_
        refine xP_s rfl rfl rfl ?_
        refine xP_s rfl rfl rfl ?_
        rw [nI_1]
        refine xP_s rfl rfl rfl ?_
        refine xP_cv rfl rfl rfl rfl rfl h18 (p_isMark ht hi hb2 ?_)
        cases b2
        · have hb2 : ¬ (i + 1 < u ∧ (G.1 (i + 1)).toInt = 5 ∧ (G.2.2.2.1 (i + 1)).toInt = (40 : Int32).toInt) := fun q => absurd (hb2.mpr q) (by decide)
          repeat' first
            | refine xP_s rfl rfl rfl ?_
            | refine xP_ret rfl rfl rfl ?_
          all_goals
            (try simp only [xc_i, decide_eq_true_eq, decide_eq_false_iff_not] at *)
          all_goals first
            | (rw [show b = true from hb.mpr (by omega)] at k; exact k)
            | (rw [show b = false from Bool.not_eq_true _ ▸ fun q => absurd (hb.mp q) (by omega)] at k; exact k)
        · have hb2 := hb2.mp rfl
          repeat' first
            | refine xP_s rfl rfl rfl ?_
            | refine xP_ret rfl rfl rfl ?_
          all_goals
            (try simp only [xc_i, decide_eq_true_eq, decide_eq_false_iff_not] at *)
          all_goals first
            | (rw [show b = true from hb.mpr (by omega)] at k; exact k)
            | (rw [show b = false from Bool.not_eq_true _ ▸ fun q => absurd (hb.mp q) (by omega)] at k; exact k)
  · rw [if_neg hlt]
    rw [show b = false from Bool.not_eq_true _ ▸ fun q => absurd (hb.mp q).1 (by omega)] at k
    repeat' first
      | refine xP_s rfl rfl rfl ?_
      | refine xP_ret rfl rfl rfl ?_
    exact k

set_option maxRecDepth 100000 in
theorem p_isQuoted {sc : xSc} {d g u p v i : Nat} {A : List xC} {G : xG} {t : List Nat} {b : Bool} {P : xO → xH → Prop} (ht : xTk A u p v G) (hs : xRw A 1 120 t) (hi : i < u) (hb : b = true ↔ (cAt t (G.2.1 i)).toInt = 39) (k : P (.inl (some (.int (xb b)))) (A, g)) : xM1 sc (d + 1) 95 [.ref 18, .int (nI i)] (A, g) P := by
  have h18 := ht.2.1
  have hu := ht.1
  have hI : (nI i).toInt = (i : Int) := nI_toInt (by omega)
  have h39 : (39 : Int32).toInt = 39 := rfl
  unfold xM1
  refine xP_s rfl rfl rfl ?_
  refine xP_s rfl rfl rfl ?_
  refine xP_cv rfl rfl rfl rfl rfl h18 (p_isToken ht (by omega) ?_)
  rw [decide_eq_true hi]
  repeat' first
    | refine xP_s rfl rfl rfl ?_
    | refine xP_get rfl h18 rfl ?_
  refine xP_ial rfl ht.2.2.2.1 (by decide) (xib_of (by omega) (by omega)) ?_
  rw [nI_clamp (by omega)]
  repeat' first
    | refine xP_s rfl rfl rfl ?_
    | refine xP_cv rfl rfl rfl rfl rfl hs.obj (p_at hs (by decide) (by decide) ?_)
    | refine xP_if (fun hc => ?_) (fun hc => ?_)
    | refine xP_ret rfl rfl rfl ?_
  all_goals
    (try simp only [xc_i, decide_eq_true_eq, decide_eq_false_iff_not] at *)
  all_goals first
    | (rw [show b = true from hb.mpr (by omega)] at k; exact k)
    | (rw [show b = false from Bool.not_eq_true _ ▸ fun q => absurd (hb.mp q) (by omega)] at k; exact k)
set_option maxRecDepth 100000 in
theorem p_isMinusOfInteger {sc : xSc} {d g u p v i : Nat} {A : List xC} {G : xG} {t : List Nat} {b : Bool} {P : xO → xH → Prop} (ht : xTk A u p v G) (hs : xRw A 1 120 t) (hi : i + 1 < 2 ^ 31) (hb : b = true ↔ i + 1 < u ∧ (G.1 i).toInt = 1 ∧ G.2.2.2.2.2 i = 45 ∧ (G.2.2.1 i).toInt = (G.2.1 (i + 1)).toInt ∧ (G.1 (i + 1)).toInt = 3 ∧ ¬ (cAt t (G.2.1 i)).toInt = 39) (k : P (.inl (some (.int (xb b)))) (A, g)) : xM1 sc (d + 2) 94 [.ref 18, .int (nI i)] (A, g) P := by
  have h18 := ht.2.1
  have h0 : (0 : Int32).toInt = 0 := rfl
  have h1 : (1 : Int32).toInt = 1 := rfl
  have h3 : (3 : Int32).toInt = 3 := rfl
  obtain ⟨z, hz⟩ : ∃ z : Nat, z = 1 ↔ G.2.2.2.2.2 i = 45 := ⟨if G.2.2.2.2.2 i = 45 then 1 else 0, by split <;> simp_all⟩
  have hlg := lgc0 (G.2.2.2.2.2 i) 45
  rw [← hz] at hlg hb
  obtain ⟨b1, hb1⟩ : ∃ b1 : Bool, b1 = true ↔ i + 1 < u ∧ (G.2.2.1 i).toInt = (G.2.1 (i + 1)).toInt := ⟨decide (i + 1 < u ∧ (G.2.2.1 i).toInt = (G.2.1 (i + 1)).toInt), decide_eq_true_iff⟩
  obtain ⟨b2, hb2⟩ : ∃ b2 : Bool, b2 = true ↔ (cAt t (G.2.1 i)).toInt = 39 := ⟨decide ((cAt t (G.2.1 i)).toInt = 39), decide_eq_true_iff⟩
  unfold xM1
  refine xP_s rfl rfl rfl ?_
  refine xP_s rfl rfl rfl ?_
  refine xP_cv rfl rfl rfl rfl rfl h18 (p_tkind ht (by omega) ?_)
  by_cases hlt : i < u
  · rw [if_pos hlt]
    refine xP_s rfl rfl rfl ?_
    refine xP_s rfl rfl rfl ?_
    refine xP_if (fun hc => ?_) (fun hc => ?_)
    · repeat' first
        | refine xP_s rfl rfl rfl ?_
        | refine xP_ret rfl rfl rfl ?_
      all_goals
        (try simp only [xc_i, decide_eq_true_eq, decide_eq_false_iff_not] at *)
      all_goals first
        | (rw [show b = true from hb.mpr (by omega)] at k; exact k)
        | (rw [show b = false from Bool.not_eq_true _ ▸ fun q => absurd (hb.mp q) (by omega)] at k; exact k)
    · refine xP_s rfl rfl rfl ?_
      refine xP_s rfl rfl rfl ?_
      refine xP_cv rfl rfl rfl rfl rfl h18 (p_tkey ht (by omega) ?_)
      rw [if_pos hlt]
      refine xP_s rfl rfl rfl ?_
      refine xP_s rfl rfl rfl ?_
      refine xP_s rfl rfl rfl ?_
      refine xP_if (fun hc => ?_) (fun hc => ?_)
      · repeat' first
          | refine xP_s rfl rfl rfl ?_
          | refine xP_ret rfl rfl rfl ?_
        all_goals
          (try simp only [xc_i, decide_eq_true_eq, decide_eq_false_iff_not] at *)
        all_goals first
          | (rw [show b = true from hb.mpr (by omega)] at k; exact k)
          | (rw [show b = false from Bool.not_eq_true _ ▸ fun q => absurd (hb.mp q) (by omega)] at k; exact k)
      · refine xP_s rfl rfl rfl ?_
        refine xP_s rfl rfl rfl ?_
        refine xP_cv rfl rfl rfl rfl rfl h18 (p_isNextTo ht hi hb1 ?_)
        cases b1
        · have hb1 : ¬ (i + 1 < u ∧ (G.2.2.1 i).toInt = (G.2.1 (i + 1)).toInt) := fun q => absurd (hb1.mpr q) (by decide)
          repeat' first
            | refine xP_s rfl rfl rfl ?_
            | refine xP_ret rfl rfl rfl ?_
          all_goals
            (try simp only [xc_i, decide_eq_true_eq, decide_eq_false_iff_not] at *)
          all_goals first
            | (rw [show b = true from hb.mpr (by omega)] at k; exact k)
            | (rw [show b = false from Bool.not_eq_true _ ▸ fun q => absurd (hb.mp q) (by omega)] at k; exact k)
        · have hb1 := hb1.mp rfl
          refine xP_s rfl rfl rfl ?_
          refine xP_s rfl rfl rfl ?_
          refine xP_s rfl rfl rfl ?_
          refine xP_s rfl rfl rfl ?_
          refine xP_s rfl rfl rfl ?_
          rw [nI_1]
          refine xP_cv rfl rfl rfl rfl rfl h18 (p_tkind ht hi ?_)
          rw [if_pos hb1.1]
          refine xP_s rfl rfl rfl ?_
          refine xP_s rfl rfl rfl ?_
          refine xP_if (fun hc => ?_) (fun hc => ?_)
          · repeat' first
              | refine xP_s rfl rfl rfl ?_
              | refine xP_ret rfl rfl rfl ?_
            all_goals
              (try simp only [xc_i, decide_eq_true_eq, decide_eq_false_iff_not] at *)
            all_goals first
              | (rw [show b = true from hb.mpr (by omega)] at k; exact k)
              | (rw [show b = false from Bool.not_eq_true _ ▸ fun q => absurd (hb.mp q) (by omega)] at k; exact k)
          · refine xP_s rfl rfl rfl ?_
            refine xP_s rfl rfl rfl ?_
            refine xP_cv rfl rfl rfl rfl rfl h18 (p_isQuoted ht hs (by omega) hb2 ?_)
            cases b2
            · have hb2 : ¬ (cAt t (G.2.1 i)).toInt = 39 := fun q => absurd (hb2.mpr q) (by decide)
              repeat' first
                | refine xP_s rfl rfl rfl ?_
                | refine xP_ret rfl rfl rfl ?_
              all_goals
                (try simp only [xc_i, decide_eq_true_eq, decide_eq_false_iff_not] at *)
              all_goals first
                | (rw [show b = true from hb.mpr (by omega)] at k; exact k)
                | (rw [show b = false from Bool.not_eq_true _ ▸ fun q => absurd (hb.mp q) (by omega)] at k; exact k)
            · have hb2 := hb2.mp rfl
              repeat' first
                | refine xP_s rfl rfl rfl ?_
                | refine xP_ret rfl rfl rfl ?_
              all_goals
                (try simp only [xc_i, decide_eq_true_eq, decide_eq_false_iff_not] at *)
              all_goals first
                | (rw [show b = true from hb.mpr (by omega)] at k; exact k)
                | (rw [show b = false from Bool.not_eq_true _ ▸ fun q => absurd (hb.mp q) (by omega)] at k; exact k)
  · rw [if_neg hlt]
    rw [show b = false from Bool.not_eq_true _ ▸ fun q => absurd (hb.mp q).1 (by omega)] at k
    repeat' first
      | refine xP_s rfl rfl rfl ?_
      | refine xP_ret rfl rfl rfl ?_
    exact k
/-- whether a token of this kind and value begins a term -/
def bgT (kd v : Int) : Bool := if kd = 0 then false else if kd = 5 then decide (v = 40) || (decide (v = 91) || decide (v = 123)) else true
set_option maxRecDepth 100000 in
theorem p_beginsTerm {sc : xSc} {d g u p v i : Nat} {A : List xC} {G : xG} {P : xO → xH → Prop} (ht : xTk A u p v G) (hi : i < 2 ^ 31) (k : P (.inl (some (.int (xb (if i < u then bgT (G.1 i).toInt (G.2.2.2.1 i).toInt else false))))) (A, g)) : xM1 sc (d + 3) 96 [.ref 18, .int (nI i)] (A, g) P := by
  have h18 := ht.2.1
  have mk : ∀ c : Int32, ∃ b : Bool, b = true ↔ i < u ∧ (G.1 i).toInt = 5 ∧ (G.2.2.2.1 i).toInt = c.toInt := fun c => ⟨decide (i < u ∧ (G.1 i).toInt = 5 ∧ (G.2.2.2.1 i).toInt = c.toInt), decide_eq_true_iff⟩
  unfold xM1
  refine xP_s rfl rfl rfl ?_
  refine xP_s rfl rfl rfl ?_
  refine xP_cv rfl rfl rfl rfl rfl h18 (p_tkind ht hi ?_)
  by_cases hlt : i < u
  · rw [if_pos hlt]
    rw [if_pos hlt] at k
    refine xP_s rfl rfl rfl ?_
    unfold bgT at k
    refine xP_sw (fun q hq hx => ?_) (fun hx => ?_)
    · simp only [List.mem_cons, List.not_mem_nil, or_false] at hq
      rcases hq with rfl | rfl
      · rw [if_pos (show (G.1 i).toInt = 0 by rw [hx]; rfl)] at k
        repeat' first
          | refine xP_s rfl rfl rfl ?_
          | refine xP_ret rfl rfl rfl ?_
        exact k
      · have h5 : (G.1 i).toInt = 5 := by rw [hx]; rfl
        rw [if_neg (by omega), if_pos h5] at k
        obtain ⟨b1, hb1⟩ := mk 40
        obtain ⟨b2, hb2⟩ := mk 91
        obtain ⟨b3, hb3⟩ := mk 123
        have e1 : decide ((G.2.2.2.1 i).toInt = 40) = b1 := by rw [Bool.eq_iff_iff, hb1, decide_eq_true_eq]; exact ⟨fun z => ⟨hlt, h5, z⟩, fun z => z.2.2⟩
        have e2 : decide ((G.2.2.2.1 i).toInt = 91) = b2 := by rw [Bool.eq_iff_iff, hb2, decide_eq_true_eq]; exact ⟨fun z => ⟨hlt, h5, z⟩, fun z => z.2.2⟩
        have e3 : decide ((G.2.2.2.1 i).toInt = 123) = b3 := by rw [Bool.eq_iff_iff, hb3, decide_eq_true_eq]; exact ⟨fun z => ⟨hlt, h5, z⟩, fun z => z.2.2⟩
        rw [e1, e2, e3] at k
        clear e1 e2 e3
        refine xP_s rfl rfl rfl ?_
        refine xP_s rfl rfl rfl ?_
        refine xP_s rfl rfl rfl ?_
        refine xP_cv rfl rfl rfl rfl rfl h18 (p_isMark ht hi hb1 ?_)
        cases b1
        · refine xP_s rfl rfl rfl ?_
          refine xP_s rfl rfl rfl ?_
          refine xP_s rfl rfl rfl ?_
          refine xP_s rfl rfl rfl ?_
          refine xP_cv rfl rfl rfl rfl rfl h18 (p_isMark ht hi hb2 ?_)
          cases b2
          · refine xP_s rfl rfl rfl ?_
            refine xP_s rfl rfl rfl ?_
            refine xP_s rfl rfl rfl ?_
            refine xP_s rfl rfl rfl ?_
            refine xP_cv rfl rfl rfl rfl rfl h18 (p_isMark ht hi hb3 ?_)
            cases b3
            · repeat' first
                | refine xP_s rfl rfl rfl ?_
                | refine xP_ret rfl rfl rfl ?_
              exact k
            · repeat' first
                | refine xP_s rfl rfl rfl ?_
                | refine xP_ret rfl rfl rfl ?_
              exact k
          · repeat' first
              | refine xP_s rfl rfl rfl ?_
              | refine xP_ret rfl rfl rfl ?_
            exact k
        · repeat' first
            | refine xP_s rfl rfl rfl ?_
            | refine xP_ret rfl rfl rfl ?_
          exact k
    · simp only [List.mem_cons, List.not_mem_nil, or_false, forall_eq_or_imp, forall_eq] at hx
      have n0 : ¬ (G.1 i).toInt = 0 := fun z => hx.1 (Int32.toInt_inj.mp (by rw [z]; rfl))
      have n5 : ¬ (G.1 i).toInt = 5 := fun z => hx.2 (Int32.toInt_inj.mp (by rw [z]; rfl))
      rw [if_neg n0, if_neg n5] at k
      repeat' first
        | refine xP_s rfl rfl rfl ?_
        | refine xP_ret rfl rfl rfl ?_
      exact k
  · rw [if_neg hlt]
    rw [if_neg hlt] at k
    repeat' first
      | refine xP_s rfl rfl rfl ?_
      | refine xP_ret rfl rfl rfl ?_
    exact k
set_option maxRecDepth 100000 in
theorem p_stringCharacter {sc : xSc} {d g u p v i : Nat} {A : List xC} {G : xG} {t : List Nat} {x : Int32} {P : xO → xH → Prop} (ht : xTk A u p v G) (hs : xRw A 1 120 t) (hi : i < u) (k : P (.inl (some (.int (cAt t (G.2.2.2.1 i + x))))) (A, g)) : xM1 sc (d + 2) 90 [.ref 18, .int (nI i), .int x] (A, g) P := by
  have h18 := ht.2.1
  have hu := ht.1
  unfold xM1
  refine xP_s rfl rfl rfl ?_
  refine xP_get rfl h18 rfl ?_
  refine xP_s rfl rfl rfl ?_
  refine xP_s rfl rfl rfl ?_
  refine xP_cv rfl rfl rfl rfl rfl h18 (p_tvalue ht (by omega) ?_)
  rw [if_pos hi]
  repeat' first
    | refine xP_s rfl rfl rfl ?_
    | refine xP_cv rfl rfl rfl rfl rfl hs.obj (p_at hs (by decide) (by decide) ?_)
    | refine xP_ret rfl rfl rfl ?_
  exact k
set_option maxRecDepth 100000 in
theorem p_tadd {sc : xSc} {d g u p v x3 : Nat} {A : List xC} {G : xG} {x1 x4 x5 : Int32} {key : Int64} {P : xO → xH → Prop} (ht : xTk A u p v G) (hu : u < 120)
    (k : ∀ A', xTk A' (u + 1) x3 v (upd G.1 u x1, upd G.2.1 u (nI p), upd G.2.2.1 u (nI x3), upd G.2.2.2.1 u x4, upd G.2.2.2.2.1 u x5, vp_updL G.2.2.2.2.2 u key) → xSame A A' [18, 19, 20, 21, 22, 23, 24] → P (.inl (some (.int 1))) (A', g)) : xM1 sc d 100 [.ref 18, .int x1, .int (nI x3), .int x4, .int x5, .long key] (A, g) P := by
  have h18 := ht.2.1
  have h0 : (0 : Int32).toInt = 0 := rfl
  have h120 : (120 : Int32).toInt = 120 := rfl
  have hU : (nI u).toInt = (u : Int) := nI_toInt (by omega)
  have hcl : (nI u).toNatClampNeg = u := nI_clamp (by omega)
  have hi : xib (nI u) 120 = true := xib_of (by omega) (by omega)
  unfold xM1
  refine xP_s rfl rfl rfl ?_
  refine xP_get rfl h18 rfl ?_
  refine xP_s rfl rfl rfl ?_
  refine xP_if (fun hc => ?_) (fun hc => ?_)
  · have := xc_t hc
    dsimp only at this
    omega
  · refine xP_s rfl rfl rfl ?_
    refine xP_get rfl h18 rfl ?_
    refine xP_s rfl rfl rfl ?_
    refine xP_s rfl rfl rfl ?_
    refine xP_if (fun hc => ?_) (fun hc => ?_)
    · repeat' first
        | refine xP_s rfl rfl rfl ?_
        | refine xP_get rfl h18 rfl ?_
      refine xP_ias rfl ht.2.2.1 hi ?_
      rw [hcl]
      have p1 := ht.setK (upd G.1 u x1)
      repeat' first
        | refine xP_s rfl rfl rfl ?_
        | refine xP_get rfl p1.2.1 rfl ?_
      refine xP_ias rfl p1.2.2.2.1 hi ?_
      rw [hcl]
      have p2 := p1.setB (upd G.2.1 u (nI p))
      repeat' first
        | refine xP_s rfl rfl rfl ?_
        | refine xP_get rfl p2.2.1 rfl ?_
      refine xP_ias rfl p2.2.2.2.2.1 hi ?_
      rw [hcl]
      have p3 := p2.setE (upd G.2.2.1 u (nI x3))
      repeat' first
        | refine xP_s rfl rfl rfl ?_
        | refine xP_get rfl p3.2.1 rfl ?_
      refine xP_ias rfl p3.2.2.2.2.2.1 hi ?_
      rw [hcl]
      have p4 := p3.setV (upd G.2.2.2.1 u x4)
      repeat' first
        | refine xP_s rfl rfl rfl ?_
        | refine xP_get rfl p4.2.1 rfl ?_
      refine xP_ias rfl p4.2.2.2.2.2.2.1 hi ?_
      rw [hcl]
      have p5 := p4.setS (upd G.2.2.2.2.1 u x5)
      repeat' first
        | refine xP_s rfl rfl rfl ?_
        | refine xP_get rfl p5.2.1 rfl ?_
      refine xP_las rfl p5.2.2.2.2.2.2.2 hi ?_
      rw [hcl]
      have p6 := p5.setY (vp_updL G.2.2.2.2.2 u key)
      refine xP_s rfl rfl rfl ?_
      refine xP_s rfl rfl rfl ?_
      refine xP_get rfl p6.2.1 rfl ?_
      refine xP_s rfl rfl rfl ?_
      refine xP_s rfl rfl rfl ?_
      refine xP_put rfl p6.2.1 (Nat.le_of_ble_eq_true rfl) rfl ?_
      rw [show nI u + 1 = nI (u + 1) from nI_1 u]
      have p7 := p6.setO (u' := u + 1) (p' := p) (v' := v) (by omega)
      refine xP_s rfl rfl rfl ?_
      refine xP_s rfl rfl rfl ?_
      refine xP_put rfl p7.2.1 (Nat.le_of_ble_eq_true rfl) rfl ?_
      have p8 := p7.setO (u' := u + 1) (p' := x3) (v' := v) (by omega)
      repeat' first
        | refine xP_s rfl rfl rfl ?_
        | refine xP_ret rfl rfl rfl ?_
      exact k _ p8 (((((((((xSame.set _ _).trans (xSame.set _ _)).trans (xSame.set _ _)).trans (xSame.set _ _)).trans (xSame.set _ _)).trans (xSame.set _ _)).trans (xSame.set _ _)).trans (xSame.set _ _)).wider (by decide))
    · have := xc_f hc
      dsimp only at this
      omega
