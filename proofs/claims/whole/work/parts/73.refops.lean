-- the reference: operators looked up
def inV (sl : List xSl) (key : Int64) : Nat := if oInf (opB sl key) = true then slP (opB sl key) else 0
def poV (sl : List xSl) (key : Int64) : Nat := if oInf (opB sl key) = true then 0 else slP (opB sl key)
/-- the table of operators is that of the slots -/
def zO (v : Nat → Int32) (a : Nat → Nat → Int32) (o : Nat → Int64) (sl : List xSl) : Prop := ∃ N, N ≤ 64 ∧ v 3 = nI N ∧ (∀ i j, i < N → j < N → o i = o j → i = j) ∧
  (∀ i, i < N → ¬ o i = 44 ∧ ¬ o i = -1 ∧ ¬ o i = 0 ∧ a 31 i = nI (slP (opP sl (o i))) ∧ (∀ e, opP sl (o i) = some e → a 32 i = nI e.2.2) ∧ a 33 i = nI (slP (opB sl (o i))) ∧ (∀ e, opB sl (o i) = some e → a 34 i = nI e.2.2)) ∧
  (∀ key, (∀ i, i < N → ¬ o i = key) → opP sl key = none ∧ (¬ key = 44 → opB sl key = none)) ∧
  opB sl 44 = some (44, 1000, 1) ∧ (∀ e ∈ sl, 1 ≤ e.2.1 ∧ e.2.1 ≤ 1200 ∧ e.2.2 ≤ 6)
theorem zO.same {v v' : Nat → Int32} {a a' : Nat → Nat → Int32} {o : Nat → Int64} {sl : List xSl} {l m : List Nat} (h : zO v a o sl) (hv : vS v v' l) (ha : aS a a' m) (h1 : 3 ∉ l) (h2 : 31 ∉ m) (h3 : 32 ∉ m) (h4 : 33 ∉ m) (h5 : 34 ∉ m) : zO v' a' o sl := by
  unfold zO at h ⊢
  rw [hv 3 h1, ha 31 h2, ha 32 h3, ha 33 h4, ha 34 h5]
  exact h
section NA
variable {sc : xSc} {d g : Nat} {A B C : List xC} {v : Nat → Int32} {a : Nat → Nat → Int32} {o : Nat → Int64} {sl : List xSl} {P : xO → xH → Prop} {key : Int64}
theorem zO.none (h : zO v a o sl) : opP sl 44 = none ∧ opP sl 0 = none ∧ opB sl 0 = none ∧ opP sl (-1) = none ∧ opB sl (-1) = none := by
  obtain ⟨N, _, _, _, h1, h2, _, _⟩ := h
  have a1 := h2 44 (fun i hi => (h1 i hi).1)
  have a2 := h2 0 (fun i hi => (h1 i hi).2.2.1)
  have a3 := h2 (-1) (fun i hi => (h1 i hi).2.1)
  exact ⟨a1.1, a2.1, a2.2 (by decide), a3.1, a3.2 (by decide)⟩
theorem zO.le (h : zO v a o sl) : slP (opP sl key) ≤ 1200 ∧ slP (opB sl key) ≤ 1200 := by
  obtain ⟨N, _, _, _, _, _, _, h3⟩ := h
  constructor
  · cases hx : opP sl key with
    | none => exact Nat.zero_le _
    | some e => exact (h3 e (opP_e hx).1).2.1
  · cases hx : opB sl key with
    | none => exact Nat.zero_le _
    | some e => exact (h3 e (opB_e hx).1).2.1
theorem zO.eB (h : zO v a o sl) {e : xSl} (he : opB sl key = some e) : 1 ≤ e.2.1 ∧ e.2.1 ≤ 1200 ∧ e.2.2 ≤ 6 ∧ isPre e.2.2 = false := by
  obtain ⟨N, _, _, _, _, _, _, h3⟩ := h
  have := h3 e (opB_e he).1
  exact ⟨this.1, this.2.1, this.2.2, (opB_e he).2.2⟩
theorem zO.eP (h : zO v a o sl) {e : xSl} (he : opP sl key = some e) : 1 ≤ e.2.1 ∧ e.2.1 ≤ 1200 ∧ e.2.2 ≤ 6 ∧ isPre e.2.2 = true := by
  obtain ⟨N, _, _, _, _, _, _, h3⟩ := h
  have := h3 e (opP_e he).1
  exact ⟨this.1, this.2.1, this.2.2, (opP_e he).2.2⟩
set_option maxRecDepth 100000 in
theorem q_opAtLoop {N : Nat} (hB : B.length = 28) (hN : N ≤ 64) (h3 : v 3 = nI N) : ∀ (m i : Nat), i + m = N → (∀ j, j < i → ¬ o j = key) →
    (∀ j, j < N → o j = key → P (.inl (some (.int (nI j)))) (mH B C v a o, g)) → ((∀ j, j < N → ¬ o j = key) → P (.inl (some (.int (-1)))) (mH B C v a o, g)) →
    xP sc d 134 2 [(0, .ref 28), (1, .long key), (3, .int (nI i))] [] (mH B C v a o, g) P
  | 0, i, hm, hno, k1, k0 => by
    have hI := toI i (by omega)
    have hN' := toI N (by omega)
    refine xP_s rfl rfl rfl ?_
    refine xP_s rfl rfl rfl ?_
    refine xP_zg rfl hB rfl h3 ?_
    refine xP_s rfl rfl rfl ?_
    refine xP_if (fun hq => ?_) (fun hq => ?_)
    · have kk := k0 (fun j hj => hno j (by omega))
      repeat' first
        | refine xP_s rfl rfl rfl ?_
        | refine xP_ret rfl rfl rfl ?_
      exact kk
    · have z := xc_f hq
      dsimp only at z
      omega
  | m + 1, i, hm, hno, k1, k0 => by
    have hI := toI i (by omega)
    have hN' := toI N (by omega)
    have h0 : (0 : Int32).toInt = 0 := rfl
    refine xP_s rfl rfl rfl ?_
    refine xP_s rfl rfl rfl ?_
    refine xP_zg rfl hB rfl h3 ?_
    refine xP_s rfl rfl rfl ?_
    refine xP_if (fun hq => ?_) (fun hq => ?_)
    · have z := xc_t hq
      dsimp only at z
      omega
    · refine xP_s rfl rfl rfl ?_
      refine xP_get rfl (mH_28 hB) rfl ?_
      refine xP_s rfl rfl rfl ?_
      refine xP_zol rfl hB (by omega) rfl ?_
      refine xP_s rfl rfl rfl ?_
      refine xP_s rfl rfl rfl ?_
      refine xP_s rfl rfl rfl ?_
      refine xP_if (fun hq2 => ?_) (fun hq2 => ?_)
      · have z := xc_t hq2
        dsimp only at z
        have hne : ¬ o i = key := fun q => z (((lgc0 _ _).mpr q).trans h0.symm)
        have go := q_opAtLoop hB hN h3 m (i + 1) (by omega) (fun j hj => by
          rcases Nat.lt_or_ge j i with y | y
          · exact hno j y
          · rw [show j = i by omega]; exact hne) k1 k0
        rw [← nI_p1 i] at go
        refine xP_s rfl rfl rfl ?_
        refine xP_s rfl rfl rfl ?_
        exact go
      · have z := xc_f hq2
        dsimp only at z
        have he : o i = key := (lgc0 _ _).mp (by
          rcases Int.lt_trichotomy (lg_cmp (o i) key).toInt 0 with y | y | y
          · omega
          · exact y
          · omega)
        have kk := k1 i (by omega) he
        repeat' first
          | refine xP_s rfl rfl rfl ?_
          | refine xP_ret rfl rfl rfl ?_
        exact kk
set_option maxRecDepth 100000 in
theorem q_opAt {N : Nat} (hB : B.length = 28) (hN : N ≤ 64) (h3 : v 3 = nI N)
    (k1 : ∀ j, j < N → o j = key → P (.inl (some (.int (nI j)))) (mH B C v a o, g)) (k0 : (∀ j, j < N → ¬ o j = key) → P (.inl (some (.int (-1)))) (mH B C v a o, g)) : xM1 sc d 134 [.ref 28, .long key] (mH B C v a o, g) P := by
  have go := q_opAtLoop (sc := sc) (d := d) hB hN h3 N 0 (by omega) (fun j hj => by omega) k1 k0
  unfold xM1
  refine xP_s rfl rfl rfl ?_
  refine xP_s rfl rfl rfl ?_
  exact go
set_option maxRecDepth 100000 in
theorem q_prefixOf (hB : B.length = 28) (ho : zO v a o sl) (k : P (.inl (some (.int (nI (slP (opP sl key)))))) (mH B C v a o, g)) : xM1 sc (d + 1) 137 [.ref 28, .long key] (mH B C v a o, g) P := by
  obtain ⟨N, hN, h3, _, h5, h6, _, _⟩ := ho
  have h0 : (0 : Int32).toInt = 0 := rfl
  unfold xM1
  refine xP_s rfl rfl rfl ?_
  refine xP_s rfl rfl rfl ?_
  refine xP_cv rfl rfl rfl rfl rfl (mH_28 hB) (q_opAt hB hN h3 (fun j hj he => ?_) (fun hn => ?_))
  · have hJ := toI j (by omega)
    obtain ⟨_, _, _, e1, _, _, _⟩ := h5 j hj
    rw [he] at e1
    refine xP_s rfl rfl rfl ?_
    refine xP_s rfl rfl rfl ?_
    refine xP_s rfl rfl rfl ?_
    refine xP_if (fun hq => ?_) (fun hq => ?_)
    · refine xP_s rfl rfl rfl ?_
      refine xP_get rfl (mH_28 hB) rfl ?_
      refine xP_s rfl rfl rfl ?_
      refine xP_zl (n := 64) rfl hB rfl rfl (by omega) e1 ?_
      repeat' first
        | refine xP_s rfl rfl rfl ?_
        | refine xP_ret rfl rfl rfl ?_
      exact k
    · have z := xc_f hq
      dsimp only at z
      omega
  · rw [(h6 key hn).1] at k
    repeat' first
      | refine xP_s rfl rfl rfl ?_
      | refine xP_ret rfl rfl rfl ?_
    exact k
set_option maxRecDepth 100000 in
theorem q_isInf {x : Int32} {b : Bool} (hb : b = true ↔ x.toInt < 3) (k : P (.inl (some (.int (xb b)))) (A, g)) : xM1 sc d 138 [.int x] (A, g) P := by
  have h3 : (3 : Int32).toInt = 3 := rfl
  unfold xM1
  repeat' first
    | refine xP_s rfl rfl rfl ?_
    | refine xP_if (fun hc => ?_) (fun hc => ?_)
    | refine xP_ret rfl rfl rfl ?_
  all_goals
    (try simp only [xc_i, decide_eq_true_eq, decide_eq_false_iff_not] at *)
  all_goals first
    | (rw [show b = true from hb.mpr (by omega)] at k; exact k)
    | (rw [show b = false from Bool.not_eq_true _ ▸ fun q => absurd (hb.mp q) (by omega)] at k; exact k)
theorem oInf_3 {e : xSl} : oInf (some e) = true ↔ e.2.2 < 3 := by
  unfold oInf
  rw [show slT (some e) = (e.2.2 : Int) from rfl]
  simp only [Bool.or_eq_true, decide_eq_true_eq]
  omega
set_option maxRecDepth 100000 in
theorem q_infixOf (hB : B.length = 28) (ho : zO v a o sl) (k : P (.inl (some (.int (nI (inV sl key))))) (mH B C v a o, g)) : xM1 sc (d + 1) 139 [.ref 28, .long key] (mH B C v a o, g) P := by
  obtain ⟨N, hN, h3, _, h5, h6, h7, h8⟩ := ho
  have h0 : (0 : Int32).toInt = 0 := rfl
  unfold xM1
  refine xP_s rfl rfl rfl ?_
  refine xP_s rfl rfl rfl ?_
  refine xP_s rfl rfl rfl ?_
  refine xP_s rfl rfl rfl ?_
  refine xP_if (fun hq => ?_) (fun hq => ?_)
  · have z := xc_t hq
    dsimp only at z
    have hne : ¬ key = 44 := fun q => z (((lgc0 _ _).mpr q).trans h0.symm)
    refine xP_s rfl rfl rfl ?_
    refine xP_s rfl rfl rfl ?_
    refine xP_cv rfl rfl rfl rfl rfl (mH_28 hB) (q_opAt hB hN h3 (fun j hj he => ?_) (fun hn => ?_))
    · have hJ := toI j (by omega)
      obtain ⟨_, _, _, _, _, e1, e2⟩ := h5 j hj
      rw [he] at e1 e2
      refine xP_s rfl rfl rfl ?_
      refine xP_s rfl rfl rfl ?_
      refine xP_s rfl rfl rfl ?_
      refine xP_if (fun hq => ?_) (fun hq => ?_)
      · have z := xc_t hq
        dsimp only at z
        omega
      · refine xP_s rfl rfl rfl ?_
        refine xP_get rfl (mH_28 hB) rfl ?_
        refine xP_s rfl rfl rfl ?_
        refine xP_zl (n := 64) rfl hB rfl rfl (by omega) rfl ?_
        refine xP_call rfl rfl rfl (q_isInf (b := decide ((a 34 j).toInt < 3)) (by simp) ?_)
        refine xP_s rfl rfl rfl ?_
        rw [xb_ne0]
        refine xP_if (fun hq2 => ?_) (fun hq2 => ?_)
        · have e3 : inV sl key = slP (opB sl key) := by
            unfold inV
            split
            · rfl
            · next hi =>
              cases hx : opB sl key with
              | none => rfl
              | some e =>
                exfalso
                rw [hx] at hi
                have := e2 e hx
                have he6 := (h8 e (opB_e hx).1).2.2
                have ht := toI e.2.2 (by omega)
                rw [this, ht] at hq2
                exact hi (oInf_3.mpr (by simp at hq2; omega))
          rw [e3] at k
          refine xP_s rfl rfl rfl ?_
          refine xP_get rfl (mH_28 hB) rfl ?_
          refine xP_s rfl rfl rfl ?_
          refine xP_zl (n := 64) rfl hB rfl rfl (by omega) e1 ?_
          repeat' first
            | refine xP_s rfl rfl rfl ?_
            | refine xP_ret rfl rfl rfl ?_
          exact k
        · have e3 : inV sl key = 0 := by
            unfold inV
            split
            · next hi =>
              cases hx : opB sl key with
              | none => rfl
              | some e =>
                exfalso
                rw [hx] at hi
                have := e2 e hx
                have he6 := (h8 e (opB_e hx).1).2.2
                have ht := toI e.2.2 (by omega)
                rw [this, ht] at hq2
                have := oInf_3.mp hi
                simp at hq2
                omega
            · rfl
          rw [e3] at k
          repeat' first
            | refine xP_s rfl rfl rfl ?_
            | refine xP_ret rfl rfl rfl ?_
          exact k
    · have e3 : inV sl key = 0 := by
        unfold inV
        rw [(h6 key hn).2 hne]
        rfl
      rw [e3] at k
      repeat' first
        | refine xP_s rfl rfl rfl ?_
        | refine xP_ret rfl rfl rfl ?_
      exact k
  · have z := xc_f hq
    dsimp only at z
    have he : key = 44 := (lgc0 _ _).mp (by
      rcases Int.lt_trichotomy (lg_cmp key 44).toInt 0 with y | y | y
      · omega
      · exact y
      · omega)
    have e3 : inV sl key = 1000 := by
      unfold inV
      rw [he, h7]
      rfl
    rw [e3] at k
    repeat' first
      | refine xP_s rfl rfl rfl ?_
      | refine xP_ret rfl rfl rfl ?_
    exact k
set_option maxRecDepth 100000 in
theorem q_postfixOf (hB : B.length = 28) (ho : zO v a o sl) (k : P (.inl (some (.int (nI (poV sl key))))) (mH B C v a o, g)) : xM1 sc (d + 1) 140 [.ref 28, .long key] (mH B C v a o, g) P := by
  obtain ⟨N, hN, h3, _, h5, h6, h7, h8⟩ := ho
  have h0 : (0 : Int32).toInt = 0 := rfl
  unfold xM1
  refine xP_s rfl rfl rfl ?_
  refine xP_s rfl rfl rfl ?_
  refine xP_cv rfl rfl rfl rfl rfl (mH_28 hB) (q_opAt hB hN h3 (fun j hj he => ?_) (fun hn => ?_))
  · have hJ := toI j (by omega)
    obtain ⟨_, _, _, _, _, e1, e2⟩ := h5 j hj
    rw [he] at e1 e2
    refine xP_s rfl rfl rfl ?_
    refine xP_s rfl rfl rfl ?_
    refine xP_s rfl rfl rfl ?_
    refine xP_if (fun hq => ?_) (fun hq => ?_)
    · have z := xc_t hq
      dsimp only at z
      omega
    · refine xP_s rfl rfl rfl ?_
      refine xP_get rfl (mH_28 hB) rfl ?_
      refine xP_s rfl rfl rfl ?_
      refine xP_zl (n := 64) rfl hB rfl rfl (by omega) rfl ?_
      refine xP_call rfl rfl rfl (q_isInf (b := decide ((a 34 j).toInt < 3)) (by simp) ?_)
      refine xP_s rfl rfl rfl ?_
      rw [xb_eq0]
      refine xP_if (fun hq2 => ?_) (fun hq2 => ?_)
      · have e3 : poV sl key = slP (opB sl key) := by
          unfold poV
          split
          · next hi =>
            cases hx : opB sl key with
            | none => rfl
            | some e =>
              exfalso
              rw [hx] at hi
              have := e2 e hx
              have he6 := (h8 e (opB_e hx).1).2.2
              have ht := toI e.2.2 (by omega)
              rw [this, ht] at hq2
              have := oInf_3.mp hi
              simp at hq2
              omega
          · rfl
        rw [e3] at k
        refine xP_s rfl rfl rfl ?_
        refine xP_get rfl (mH_28 hB) rfl ?_
        refine xP_s rfl rfl rfl ?_
        refine xP_zl (n := 64) rfl hB rfl rfl (by omega) e1 ?_
        repeat' first
          | refine xP_s rfl rfl rfl ?_
          | refine xP_ret rfl rfl rfl ?_
        exact k
      · have e3 : poV sl key = 0 := by
          unfold poV
          split
          · rfl
          · next hi =>
            cases hx : opB sl key with
            | none => rfl
            | some e =>
              exfalso
              rw [hx] at hi
              have := e2 e hx
              have he6 := (h8 e (opB_e hx).1).2.2
              have ht := toI e.2.2 (by omega)
              rw [this, ht] at hq2
              exact hi (oInf_3.mpr (by simp at hq2; omega))
        rw [e3] at k
        repeat' first
          | refine xP_s rfl rfl rfl ?_
          | refine xP_ret rfl rfl rfl ?_
        exact k
  · have e3 : poV sl key = 0 := by
      unfold poV
      by_cases hk : key = 44
      · rw [hk, h7]
        rfl
      · rw [(h6 key hn).2 hk]
        rfl
    rw [e3] at k
    repeat' first
      | refine xP_s rfl rfl rfl ?_
      | refine xP_ret rfl rfl rfl ?_
    exact k
theorem n1s {n : Nat} (h : 1 ≤ n) (h2 : n < 2 ^ 31) : (nI n - 1).toInt = (n : Int) - 1 := nI_sub1 h2
theorem sl_some (e : xSl) : slP (some e) = e.2.1 := rfl
theorem sl_typ (e : xSl) : slT (some e) = (e.2.2 : Int) := rfl
set_option maxRecDepth 100000 in
theorem q_leftOf {e : xSl} (hB : B.length = 28) (ho : zO v a o sl) (he : opB sl key = some e) (k : ∀ x, x.toInt = oLeft (some e) → P (.inl (some (.int x))) (mH B C v a o, g)) : xM1 sc (d + 1) 141 [.ref 28, .long key] (mH B C v a o, g) P := by
  obtain ⟨w1, w2, w3, _⟩ := ho.eB he
  obtain ⟨N, hN, h3, _, h5, h6, h7, h8⟩ := ho
  have h0 : (0 : Int32).toInt = 0 := rfl
  have c2 : (2 : Int32).toInt = 2 := rfl
  have c6 : (6 : Int32).toInt = 6 := rfl
  unfold xM1
  refine xP_s rfl rfl rfl ?_
  refine xP_s rfl rfl rfl ?_
  refine xP_s rfl rfl rfl ?_
  refine xP_s rfl rfl rfl ?_
  refine xP_if (fun hq => ?_) (fun hq => ?_)
  · have z := xc_t hq
    dsimp only at z
    have hne : ¬ key = 44 := fun q => z (((lgc0 _ _).mpr q).trans h0.symm)
    refine xP_s rfl rfl rfl ?_
    refine xP_s rfl rfl rfl ?_
    refine xP_cv rfl rfl rfl rfl rfl (mH_28 hB) (q_opAt hB hN h3 (fun j hj hj2 => ?_) (fun hn => ?_))
    · have hJ := toI j (by omega)
      obtain ⟨_, _, _, _, _, e1, e2⟩ := h5 j hj
      rw [hj2, he] at e1 e2
      have e2 := e2 e rfl
      rw [sl_some] at e1
      have hT := toI e.2.2 (by omega)
      have hP := toI e.2.1 (by omega)
      have full : (e.2.2 = 2 ∨ e.2.2 = 6) → xP sc (d + 1) 141 39 [(0, .ref 28), (1, .long key), (3, .int (nI j))] [] (mH B C v a o, g) P := by
        intro h
        have kk := k (nI e.2.1) (by
          unfold oLeft
          rw [sl_typ, sl_some, if_pos (by omega)]
          exact hP)
        refine xP_s rfl rfl rfl ?_
        refine xP_get rfl (mH_28 hB) rfl ?_
        refine xP_s rfl rfl rfl ?_
        refine xP_zl (n := 64) rfl hB rfl rfl (by omega) e1 ?_
        repeat' first
          | refine xP_s rfl rfl rfl ?_
          | refine xP_ret rfl rfl rfl ?_
        exact kk
      refine xP_s rfl rfl rfl ?_
      refine xP_s rfl rfl rfl ?_
      refine xP_get rfl (mH_28 hB) rfl ?_
      refine xP_s rfl rfl rfl ?_
      refine xP_zl (n := 64) rfl hB rfl rfl (by omega) e2 ?_
      refine xP_s rfl rfl rfl ?_
      refine xP_s rfl rfl rfl ?_
      refine xP_if (fun hq => ?_) (fun hq => ?_)
      · have z := xc_t hq
        dsimp only at z
        exact full (Or.inl (by omega))
      · have z := xc_f hq
        dsimp only at z
        refine xP_s rfl rfl rfl ?_
        refine xP_get rfl (mH_28 hB) rfl ?_
        refine xP_s rfl rfl rfl ?_
        refine xP_zl (n := 64) rfl hB rfl rfl (by omega) e2 ?_
        refine xP_s rfl rfl rfl ?_
        refine xP_s rfl rfl rfl ?_
        refine xP_if (fun hq => ?_) (fun hq => ?_)
        · have z2 := xc_t hq
          dsimp only at z2
          have kk := k (nI e.2.1 - 1) (by
            unfold oLeft
            rw [sl_typ, sl_some, if_neg (by omega)]
            exact n1s w1 (by omega))
          refine xP_s rfl rfl rfl ?_
          refine xP_get rfl (mH_28 hB) rfl ?_
          refine xP_s rfl rfl rfl ?_
          refine xP_zl (n := 64) rfl hB rfl rfl (by omega) e1 ?_
          repeat' first
            | refine xP_s rfl rfl rfl ?_
            | refine xP_ret rfl rfl rfl ?_
          exact kk
        · have z2 := xc_f hq
          dsimp only at z2
          exact full (Or.inr (by omega))
    · have := (h6 key hn).2 hne
      rw [he] at this
      cases this
  · have z := xc_f hq
    dsimp only at z
    have hk : key = 44 := (lgc0 _ _).mp (by
      rcases Int.lt_trichotomy (lg_cmp key 44).toInt 0 with y | y | y
      · omega
      · exact y
      · omega)
    rw [hk, h7] at he
    cases he
    have kk := k 999 rfl
    repeat' first
      | refine xP_s rfl rfl rfl ?_
      | refine xP_ret rfl rfl rfl ?_
    exact kk
set_option maxRecDepth 100000 in
theorem q_rightOf {e : xSl} (hB : B.length = 28) (ho : zO v a o sl) (he : opB sl key = some e) (k : ∀ x, x.toInt = oRight (some e) → P (.inl (some (.int x))) (mH B C v a o, g)) : xM1 sc (d + 1) 142 [.ref 28, .long key] (mH B C v a o, g) P := by
  obtain ⟨w1, w2, w3, w4⟩ := ho.eB he
  obtain ⟨N, hN, h3, _, h5, h6, h7, h8⟩ := ho
  have h0 : (0 : Int32).toInt = 0 := rfl
  have c1 : (1 : Int32).toInt = 1 := rfl
  have n3 : ¬ e.2.2 = 3 := fun q => by rw [q] at w4; cases w4
  unfold xM1
  refine xP_s rfl rfl rfl ?_
  refine xP_s rfl rfl rfl ?_
  refine xP_s rfl rfl rfl ?_
  refine xP_s rfl rfl rfl ?_
  refine xP_if (fun hq => ?_) (fun hq => ?_)
  · have z := xc_t hq
    dsimp only at z
    have hne : ¬ key = 44 := fun q => z (((lgc0 _ _).mpr q).trans h0.symm)
    refine xP_s rfl rfl rfl ?_
    refine xP_s rfl rfl rfl ?_
    refine xP_cv rfl rfl rfl rfl rfl (mH_28 hB) (q_opAt hB hN h3 (fun j hj hj2 => ?_) (fun hn => ?_))
    · have hJ := toI j (by omega)
      obtain ⟨_, _, _, _, _, e1, e2⟩ := h5 j hj
      rw [hj2, he] at e1 e2
      have e2 := e2 e rfl
      rw [sl_some] at e1
      have hT := toI e.2.2 (by omega)
      have hP := toI e.2.1 (by omega)
      refine xP_s rfl rfl rfl ?_
      refine xP_s rfl rfl rfl ?_
      refine xP_get rfl (mH_28 hB) rfl ?_
      refine xP_s rfl rfl rfl ?_
      refine xP_zl (n := 64) rfl hB rfl rfl (by omega) e2 ?_
      refine xP_s rfl rfl rfl ?_
      refine xP_s rfl rfl rfl ?_
      refine xP_if (fun hq => ?_) (fun hq => ?_)
      · have z := xc_t hq
        dsimp only at z
        have kk := k (nI e.2.1 - 1) (by
          unfold oRight oOpen
          rw [sl_typ, sl_some, if_neg (by simp; omega)]
          exact n1s w1 (by omega))
        refine xP_s rfl rfl rfl ?_
        refine xP_get rfl (mH_28 hB) rfl ?_
        refine xP_s rfl rfl rfl ?_
        refine xP_zl (n := 64) rfl hB rfl rfl (by omega) e1 ?_
        repeat' first
          | refine xP_s rfl rfl rfl ?_
          | refine xP_ret rfl rfl rfl ?_
        exact kk
      · have z := xc_f hq
        dsimp only at z
        have kk := k (nI e.2.1) (by
          unfold oRight oOpen
          rw [sl_typ, sl_some, if_pos (by simp; omega)]
          exact hP)
        refine xP_s rfl rfl rfl ?_
        refine xP_get rfl (mH_28 hB) rfl ?_
        refine xP_s rfl rfl rfl ?_
        refine xP_zl (n := 64) rfl hB rfl rfl (by omega) e1 ?_
        repeat' first
          | refine xP_s rfl rfl rfl ?_
          | refine xP_ret rfl rfl rfl ?_
        exact kk
    · have := (h6 key hn).2 hne
      rw [he] at this
      cases this
  · have z := xc_f hq
    dsimp only at z
    have hk : key = 44 := (lgc0 _ _).mp (by
      rcases Int.lt_trichotomy (lg_cmp key 44).toInt 0 with y | y | y
      · omega
      · exact y
      · omega)
    rw [hk, h7] at he
    cases he
    have kk := k 1000 rfl
    repeat' first
      | refine xP_s rfl rfl rfl ?_
      | refine xP_ret rfl rfl rfl ?_
    exact kk
set_option maxRecDepth 100000 in
theorem q_operandOf {e : xSl} (hB : B.length = 28) (ho : zO v a o sl) (he : opP sl key = some e) (k : ∀ x, x.toInt = oRight (some e) → P (.inl (some (.int x))) (mH B C v a o, g)) : xM1 sc (d + 1) 144 [.ref 28, .long key] (mH B C v a o, g) P := by
  obtain ⟨w1, w2, w3, w4⟩ := ho.eP he
  obtain ⟨N, hN, h3, _, h5, h6, h7, h8⟩ := ho
  have c3 : (3 : Int32).toInt = 3 := rfl
  have n1 : ¬ e.2.2 = 1 := fun q => by rw [q] at w4; cases w4
  unfold xM1
  refine xP_s rfl rfl rfl ?_
  refine xP_s rfl rfl rfl ?_
  refine xP_cv rfl rfl rfl rfl rfl (mH_28 hB) (q_opAt hB hN h3 (fun j hj hj2 => ?_) (fun hn => ?_))
  · have hJ := toI j (by omega)
    obtain ⟨_, _, _, e1, e2, _, _⟩ := h5 j hj
    rw [hj2, he] at e1 e2
    have e2 := e2 e rfl
    rw [sl_some] at e1
    have hT := toI e.2.2 (by omega)
    have hP := toI e.2.1 (by omega)
    refine xP_s rfl rfl rfl ?_
    refine xP_s rfl rfl rfl ?_
    refine xP_get rfl (mH_28 hB) rfl ?_
    refine xP_s rfl rfl rfl ?_
    refine xP_zl (n := 64) rfl hB rfl rfl (by omega) e2 ?_
    refine xP_s rfl rfl rfl ?_
    refine xP_s rfl rfl rfl ?_
    refine xP_if (fun hq => ?_) (fun hq => ?_)
    · have z := xc_t hq
      dsimp only at z
      have kk := k (nI e.2.1 - 1) (by
        unfold oRight oOpen
        rw [sl_typ, sl_some, if_neg (by simp; omega)]
        exact n1s w1 (by omega))
      refine xP_s rfl rfl rfl ?_
      refine xP_get rfl (mH_28 hB) rfl ?_
      refine xP_s rfl rfl rfl ?_
      refine xP_zl (n := 64) rfl hB rfl rfl (by omega) e1 ?_
      repeat' first
        | refine xP_s rfl rfl rfl ?_
        | refine xP_ret rfl rfl rfl ?_
      exact kk
    · have z := xc_f hq
      dsimp only at z
      have kk := k (nI e.2.1) (by
        unfold oRight oOpen
        rw [sl_typ, sl_some, if_pos (by simp; omega)]
        exact hP)
      refine xP_s rfl rfl rfl ?_
      refine xP_get rfl (mH_28 hB) rfl ?_
      refine xP_s rfl rfl rfl ?_
      refine xP_zl (n := 64) rfl hB rfl rfl (by omega) e1 ?_
      repeat' first
        | refine xP_s rfl rfl rfl ?_
        | refine xP_ret rfl rfl rfl ?_
      exact kk
  · have := (h6 key hn).1
    rw [he] at this
    cases this
theorem ip_sum (h : zO v a o sl) : inV sl key + poV sl key = slP (opB sl key) := by
  unfold inV poV
  split <;> omega
set_option maxRecDepth 100000 in
theorem q_leftUpTo (hB : B.length = 28) (ho : zO v a o sl) (k : ∀ x, x.toInt = (if (opB sl key).isSome = true then oLeft (opB sl key) else 0) → P (.inl (some (.int x))) (mH B C v a o, g)) : xM1 sc (d + 2) 143 [.ref 28, .long key] (mH B C v a o, g) P := by
  have hs := ip_sum (key := key) ho
  have hle := (ho.le (key := key)).2
  have h0 : (0 : Int32).toInt = 0 := rfl
  unfold xM1
  refine xP_s rfl rfl rfl ?_
  refine xP_s rfl rfl rfl ?_
  refine xP_cv rfl rfl rfl rfl rfl (mH_28 hB) (q_infixOf hB ho ?_)
  refine xP_s rfl rfl rfl ?_
  refine xP_s rfl rfl rfl ?_
  refine xP_cv rfl rfl rfl rfl rfl (mH_28 hB) (q_postfixOf hB ho ?_)
  refine xP_s rfl rfl rfl ?_
  rw [nI_add, hs]
  have hS := toI (slP (opB sl key)) (by omega)
  refine xP_s rfl rfl rfl ?_
  refine xP_if (fun hq => ?_) (fun hq => ?_)
  · have z := xc_t hq
    dsimp only at z
    cases hx : opB sl key with
    | none =>
      rw [hx] at k
      have kk := k 0 rfl
      repeat' first
        | refine xP_s rfl rfl rfl ?_
        | refine xP_ret rfl rfl rfl ?_
      exact kk
    | some e =>
      have := (ho.eB hx).1
      rw [hx, sl_some] at hS z
      omega
  · have z := xc_f hq
    dsimp only at z
    cases hx : opB sl key with
    | none =>
      rw [hx] at hS z
      have : slP (none : Option xSl) = 0 := rfl
      rw [this] at hS z
      omega
    | some e =>
      rw [hx] at k
      refine xP_s rfl rfl rfl ?_
      refine xP_s rfl rfl rfl ?_
      refine xP_cv rfl rfl rfl rfl rfl (mH_28 hB) (q_leftOf hB ho hx (fun x hx2 => ?_))
      have kk := k x hx2
      repeat' first
        | refine xP_s rfl rfl rfl ?_
        | refine xP_ret rfl rfl rfl ?_
      exact kk
end NA
