-- Parser: calls, minus, marks, operators ahead
theorem lexT_40 (r : List Nat) : lexT (40 :: r) = (5, 40, [], r) := rfl
section TB
variable {t nm : List Nat} {G : xG} {u m a : Nat} {s : List Nat} {vs : List (List Nat)}
/-- the token behind, and whether it stands at once behind -/
theorem TA_adj (h : xTA t nm G u m a s vs) (hl : t.length ≤ 120) (hsx : sfx t s) (hk : ¬ (nx s).1 = 0) : ∃ m' s2, xTA t nm G u m' (a + 1) (nx s).2.2.2 (vsx vs (nx s)) ∧ a + 1 < u ∧ lay 121 (nx s).2.2.2 = some s2 ∧ nx (nx s).2.2.2 = lexT s2 ∧ ((G.2.2.1 a).toInt = (G.2.1 (a + 1)).toInt ↔ (nx s).2.2.2 = s2) := by
  obtain ⟨h1, h2, s', h3, h4, h5⟩ := TA_E h
  obtain ⟨m', h'⟩ := TA_next h hk
  obtain ⟨k1, k2, s2, k3, k4, k5⟩ := TA_E h'
  have sx1 : sfx t (nx s).2.2.2 := hsx.trans (nx_sfx' h2)
  have sx2 : sfx (nx s).2.2.2 s2 := lay_sfx k3
  have l1 := sx1.drop.2
  have l2 := sx2.drop.2
  refine ⟨m', s2, h', k1, k3, k4, ?_⟩
  rw [h5.2.2.1, k5.2.1, nI_toInt (by omega), nI_toInt (by omega)]
  constructor
  · intro z
    exact sx2.eq (by omega)
  · intro z
    rw [← z]
theorem TA_call (h : xTA t nm G u m a s vs) (hl : t.length ≤ 120) (hsx : sfx t s) (hch : ∀ c ∈ t, 32 ≤ c ∧ c ≤ 126) : isCal (nx s) = true ↔ (a + 1 < u ∧ (G.1 a).toInt = 1 ∧ (G.2.2.1 a).toInt = (G.2.1 (a + 1)).toInt ∧ (G.1 (a + 1)).toInt = 5 ∧ (G.2.2.2.1 (a + 1)).toInt = 40) := by
  have hk := TA_kind h
  obtain ⟨_, h6, _⟩ := TA_E h
  constructor
  · intro hc
    simp [isCal] at hc
    obtain ⟨m', s2, h', h1, h2, h3, h4⟩ := TA_adj h hl hsx (by omega)
    cases hr : (nx s).2.2.2 with
    | nil =>
      rw [hr] at hc
      cases hc.2
    | cons c r =>
      rw [hr] at hc h2 h3 h4 h'
      have hc40 : c = 40 := Option.some.inj hc.2
      subst hc40
      rw [lay_stay (by decide) (by decide) (by decide)] at h2
      cases h2
      have hn : nx (40 :: r) = (5, 40, [], r) := h3
      have k1 := TA_kind h'
      have k2 := TA_val h' (Or.inl (by rw [hn]))
      rw [hn] at k1 k2
      refine ⟨h1, by rw [hk, hc.1]; rfl, h4.mpr rfl, k1, ?_⟩
      rw [k2]
      rfl
  · intro ⟨h1, h2, h3, h4, h5⟩
    have hk1 : (nx s).1 = 1 := by omega
    obtain ⟨m', s2, h', _, y1, y2, y3⟩ := TA_adj h hl hsx (by omega)
    have hr := y3.mp h3
    have k1 := TA_kind h'
    have k5 : (nx (nx s).2.2.2).1 = 5 := by omega
    have hsr : ∀ c ∈ (nx s).2.2.2, 32 ≤ c ∧ c ≤ 126 := fun c hc => hch c ((hsx.trans (nx_sfx' h6)).mem c hc)
    have kv := TA_val h' (Or.inl k5)
    rw [kv, nI_toInt (by have := mk_lt hsr k5; omega)] at h5
    rw [y2] at k5 h5
    have e := lexT_mark k5
    simp only [isCal, Bool.and_eq_true, decide_eq_true_eq]
    refine ⟨hk1, ?_⟩
    rw [hr, e, List.head?_cons]
    congr 1
    omega
theorem TA_min (h : xTA t nm G u m a s vs) (hl : t.length ≤ 120) (hsx : sfx t s) (hch : ∀ c ∈ t, 32 ≤ c ∧ c ≤ 126) : isMin s (nx s) = true ↔ (a + 1 < u ∧ (G.1 a).toInt = 1 ∧ G.2.2.2.2.2 a = 45 ∧ (G.2.2.1 a).toInt = (G.2.1 (a + 1)).toInt ∧ (G.1 (a + 1)).toInt = 3 ∧ ¬ (cAt t (G.2.1 a)).toInt = 39) := by
  have hk := TA_kind h
  obtain ⟨_, h6, s', y1, y2, y3⟩ := TA_E h
  have hss : ∀ c ∈ s, 32 ≤ c ∧ c ≤ 126 := fun c hc => hch c (hsx.mem c hc)
  have hss' : ∀ c ∈ s', c < 128 := fun c hc => by
    have := hss c ((lay_sfx y1).mem c hc)
    omega
  have hnm : ∀ c ∈ (nx s).2.2.1, c < 256 ∧ ¬ c = 0 := fun c hc => by
    have := nx_chr hss c hc
    omega
  have dr := (hsx.trans (lay_sfx y1)).drop
  have hq : (cAt t (G.2.1 a)).toInt = 39 ↔ qd s = true := by
    rw [y3.2.1, cAt_sfx0 dr.1 (by omega)]
    unfold qd
    rw [y1]
    cases s' with
    | nil =>
      simp [oc_nil]
    | cons c r =>
      have := hss' c List.mem_cons_self
      simp [oc_0, nI_toInt (show c < 2 ^ 31 by omega)]
      omega
  have hkey : (nx s).1 = 1 → (G.2.2.2.2.2 a = 45 ↔ (nx s).2.2.1 = [45]) := by
    intro h1
    rw [TA_key h]
    unfold tK
    rw [if_pos h1]
    exact kL_eq (k := [45]) hnm (by decide) (by decide) (by decide)
  rw [hq]
  simp only [isMin, Bool.and_eq_true, decide_eq_true_eq, Bool.not_eq_true']
  constructor
  · intro ⟨c1, c2, c3, c4⟩
    obtain ⟨m', s2, h', h1, h2, h3, h4⟩ := TA_adj h hl hsx (by omega)
    cases hr : (nx s).2.2.2 with
    | nil =>
      rw [hr] at c4
      cases c4
    | cons c r =>
      rw [hr] at c4 h2 h3 h4 h'
      have hd : isDg c = true := c4
      obtain ⟨_, _, _, d1, d2, d3⟩ := dg_not hd
      rw [lay_stay d1 d2 d3] at h2
      cases h2
      have k1 := TA_kind h'
      obtain ⟨_, k6, _⟩ := TA_E h'
      rw [h3] at k1 k6
      have := lexT_dig (s := c :: r) c4
      refine ⟨h1, by omega, (hkey c1).mpr c2, h4.mpr rfl, by omega, by rw [c3]; decide⟩
  · intro ⟨h1, h2, h3, h4, h5, h7⟩
    have hk1 : (nx s).1 = 1 := by omega
    obtain ⟨m', s2, h', _, z1, z2, z3⟩ := TA_adj h hl hsx (by omega)
    have hr := z3.mp h4
    have k1 := TA_kind h'
    rw [z2] at k1
    refine ⟨hk1, (hkey hk1).mp h3, by simpa using h7, ?_⟩
    rw [hr]
    exact lexT_num (by omega)
end TB
def xPa (A : List xC) (a pr : Nat) : Prop := A[25]? = some (.inr (3, [.ref 18, .ref 7, .ref 11, .int (nI a), .int (nI pr)]))
/-- all that the reader of terms stands on -/
def xWd (A : List xC) (t nm : List Nat) (sl : List xSl) (u p v : Nat) (G : xG) (n : Nat) (F : xF) (a pr : Nat) : Prop := xRw A 1 120 t ∧ xRw A 5 4926 nm ∧ xOp A sl ∧ xTk A u p v G ∧ xPt A n F ∧ xPa A a pr ∧ pr ≤ 1200
theorem xWd.setA {A : List xC} {t nm : List Nat} {sl : List xSl} {u p v : Nat} {G : xG} {n : Nat} {F : xF} {a pr : Nat} (h : xWd A t nm sl u p v G n F a pr) (a' pr' : Nat) (hp : pr' ≤ 1200) : xWd (A.set 25 (.inr (3, [.ref 18, .ref 7, .ref 11, .int (nI a'), .int (nI pr')]))) t nm sl u p v G n F a' pr' := by
  obtain ⟨h1, h2, h3, h4, h5, h6, h7⟩ := h
  have s := xSame.set (A := A) 25 (.inr (3, [.ref 18, .ref 7, .ref 11, .int (nI a'), .int (nI pr')]))
  exact ⟨h1.same s (by decide) (by decide), h2.same s (by decide) (by decide), h3.same s (by decide) (by decide) (by decide) (by decide), h4.same s (by decide), h5.same s (by decide) (by decide) (by decide) (by decide) (by decide) (by decide) (by decide), xset_eq h6, hp⟩
/-- with other parts -/
theorem xWd.setP {A A' : List xC} {t nm : List Nat} {sl : List xSl} {u p v : Nat} {G : xG} {n n' : Nat} {F F' : xF} {a pr : Nat} (h : xWd A t nm sl u p v G n F a pr) (hp : xPt A' n' F') (s : xSame A A' [11, 12, 13, 14, 15, 16, 17]) : xWd A' t nm sl u p v G n' F' a pr := by
  obtain ⟨h1, h2, h3, h4, h5, h6, h7⟩ := h
  exact ⟨h1.same s (by decide) (by decide), h2.same s (by decide) (by decide), h3.same s (by decide) (by decide) (by decide) (by decide), h4.same s (by decide), hp, (s.2 25 (by decide)).trans h6, h7⟩
section PA
variable {sc : xSc} {d g : Nat} {A : List xC} {t nm : List Nat} {sl : List xSl} {u p v : Nat} {G : xG} {n : Nat} {F : xF} {a pr : Nat} {m : Nat} {s : List Nat} {vs : List (List Nat)} {P : xO → xH → Prop}
set_option maxRecDepth 100000 in
theorem p_takeG {c : Int32} (hw : xWd A t nm sl u p v G n F a pr) (ha : a < 2 ^ 30) (k : ∀ A' a' b, xWd A' t nm sl u p v G n F a' pr → a' ≤ a + 1 → xSame A A' [25] → P (.inl (some (.int (xb b)))) (A', g)) : xM1 sc (d + 3) 52 [.ref 25, .int c] (A, g) P := by
  obtain ⟨hs, hn, ho, ht, hp, h25, hpr⟩ := id hw
  unfold xPa at h25
  obtain ⟨b, hb⟩ : ∃ b : Bool, b = true ↔ a < u ∧ (G.1 a).toInt = 5 ∧ (G.2.2.2.1 a).toInt = c.toInt := ⟨decide (a < u ∧ (G.1 a).toInt = 5 ∧ (G.2.2.2.1 a).toInt = c.toInt), decide_eq_true_iff⟩
  unfold xM1
  refine xP_s rfl rfl rfl ?_
  refine xP_get rfl h25 rfl ?_
  refine xP_s rfl rfl rfl ?_
  refine xP_get rfl h25 rfl ?_
  refine xP_s rfl rfl rfl ?_
  refine xP_cv rfl rfl rfl rfl rfl ht.2.1 (p_isMark ht (by omega) hb ?_)
  cases b
  · repeat' first
      | refine xP_s rfl rfl rfl ?_
      | refine xP_ret rfl rfl rfl ?_
    exact k A a false hw (by omega) (xSame.refl _ _)
  · refine xP_s rfl rfl rfl ?_
    refine xP_s rfl rfl rfl ?_
    refine xP_s rfl rfl rfl ?_
    refine xP_get rfl h25 rfl ?_
    refine xP_s rfl rfl rfl ?_
    refine xP_s rfl rfl rfl ?_
    refine xP_put rfl h25 (Nat.le_of_ble_eq_true rfl) rfl ?_
    rw [show nI a + 1 = nI (a + 1) from nI_1 a]
    repeat' first
      | refine xP_s rfl rfl rfl ?_
      | refine xP_ret rfl rfl rfl ?_
    exact k _ (a + 1) true (hw.setA (a + 1) pr hpr) (by omega) (xSame.set _ _)
set_option maxRecDepth 100000 in
theorem p_take {c : Nat} (hw : xWd A t nm sl u p v G n F a pr) (hta : xTA t nm G u m a s vs) (hss : ∀ c ∈ s, 32 ≤ c ∧ c ≤ 126) (hc : c < 128)
    (k0 : isMk s c = false → P (.inl (some (.int 0))) (A, g))
    (k1 : isMk s c = true → ∀ A' m', xWd A' t nm sl u p v G n F (a + 1) pr → xTA t nm G u m' (a + 1) (nx s).2.2.2 vs → xSame A A' [25] → P (.inl (some (.int 1))) (A', g)) : xM1 sc (d + 3) 52 [.ref 25, .int (nI c)] (A, g) P := by
  obtain ⟨hs, hn, ho, ht, hp, h25, hpr⟩ := id hw
  unfold xPa at h25
  obtain ⟨q1, q2, _⟩ := TA_E hta
  have hu := ht.1
  have hb : isMk s c = true ↔ a < u ∧ (G.1 a).toInt = 5 ∧ (G.2.2.2.1 a).toInt = (nI c).toInt := by
    rw [TA_kind hta, nI_toInt (show c < 2 ^ 31 by omega)]
    unfold isMk
    simp only [Bool.and_eq_true, decide_eq_true_eq]
    constructor
    · intro ⟨z1, z2⟩
      refine ⟨q1, by omega, ?_⟩
      rw [TA_val hta (Or.inl z1), nI_toInt (by omega)]
      omega
    · intro ⟨_, z1, z2⟩
      have z5 : (nx s).1 = 5 := by omega
      rw [TA_val hta (Or.inl z5), nI_toInt (by have := mk_lt hss z5; omega)] at z2
      exact ⟨z5, by omega⟩
  unfold xM1
  refine xP_s rfl rfl rfl ?_
  refine xP_get rfl h25 rfl ?_
  refine xP_s rfl rfl rfl ?_
  refine xP_get rfl h25 rfl ?_
  refine xP_s rfl rfl rfl ?_
  refine xP_cv rfl rfl rfl rfl rfl ht.2.1 (p_isMark ht (by omega) hb ?_)
  cases hm : isMk s c
  · repeat' first
      | refine xP_s rfl rfl rfl ?_
      | refine xP_ret rfl rfl rfl ?_
    exact k0 hm
  · have z5 := (isMk_k hm).1
    obtain ⟨m', h'⟩ := TA_next hta (by omega)
    unfold vsx at h'
    rw [if_neg (by omega)] at h'
    refine xP_s rfl rfl rfl ?_
    refine xP_s rfl rfl rfl ?_
    refine xP_s rfl rfl rfl ?_
    refine xP_get rfl h25 rfl ?_
    refine xP_s rfl rfl rfl ?_
    refine xP_s rfl rfl rfl ?_
    refine xP_put rfl h25 (Nat.le_of_ble_eq_true rfl) rfl ?_
    rw [show nI a + 1 = nI (a + 1) from nI_1 a]
    repeat' first
      | refine xP_s rfl rfl rfl ?_
      | refine xP_ret rfl rfl rfl ?_
    exact k1 hm _ m' (hw.setA (a + 1) pr hpr) h' (xSame.set _ _)
set_option maxRecDepth 100000 in
theorem p_isBareBehind (hw : xWd A t nm sl u p v G n F a pr) {i : Nat} (hta : xTA t nm G u m i s vs) (hsx : sfx t s) (hch : ∀ c ∈ t, 32 ≤ c ∧ c ≤ 126) (k : P (.inl (some (.int (xb (bare sl s))))) (A, g)) : xM1 sc (d + 4) 42 [.ref 25, .int (nI i)] (A, g) P := by
  obtain ⟨hs, hn, ho, ht, hp, h25, hpr⟩ := id hw
  unfold xPa at h25
  obtain ⟨q1, q2, _⟩ := TA_E hta
  have hu := ht.1
  have hl := hs.len
  have h1 : (1 : Int32).toInt = 1 := rfl
  have hkd := TA_kind hta
  have hky := TA_key hta
  have hF := sI_none _ (fun j h => (fnd_lt ho (pre := false) (key := tK (nx s)) h).2)
  have hB := sI_none _ (fun j h => (fnd_lt ho (pre := true) (key := tK (nx s)) h).2)
  have hm1 : (-1 : Int32).toInt = -1 := rfl
  have eF : (opB sl (tK (nx s))).isSome = true ↔ ¬ fnd false (tK (nx s)) sl 0 = none := by
    unfold opB
    cases hf : fnd false (tK (nx s)) sl 0 with
    | none => simp [slE]
    | some j =>
      have := (fnd_lt ho hf).1
      simp [slE, this]
  have eB : (opP sl (tK (nx s))).isSome = true ↔ ¬ fnd true (tK (nx s)) sl 0 = none := by
    unfold opP
    cases hf : fnd true (tK (nx s)) sl 0 with
    | none => simp [slE]
    | some j =>
      have := (fnd_lt ho hf).1
      simp [slE, this]
  unfold xM1
  refine xP_s rfl rfl rfl ?_
  refine xP_get rfl h25 rfl ?_
  refine xP_s rfl rfl rfl ?_
  refine xP_cv rfl rfl rfl rfl rfl ht.2.1 (p_tkind ht (by omega) ?_)
  rw [if_pos q1]
  refine xP_s rfl rfl rfl ?_
  refine xP_s rfl rfl rfl ?_
  refine xP_if (fun hc => ?_) (fun hc => ?_)
  · have z := xc_t hc
    dsimp only at z
    have e : bare sl s = false := by
      unfold bare
      rw [decide_eq_false (by omega), Bool.false_and]
    rw [e] at k
    repeat' first
      | refine xP_s rfl rfl rfl ?_
      | refine xP_ret rfl rfl rfl ?_
    exact k
  · have z := xc_f hc
    dsimp only at z
    have hk1 : (nx s).1 = 1 := by omega
    refine xP_s rfl rfl rfl ?_
    refine xP_get rfl h25 rfl ?_
    refine xP_s rfl rfl rfl ?_
    refine xP_cv rfl rfl rfl rfl rfl ht.2.1 (p_isCall ht (by omega) (TA_call hta hl hsx hch) ?_)
    cases hcal : isCal (nx s)
    · refine xP_s rfl rfl rfl ?_
      refine xP_s rfl rfl rfl ?_
      refine xP_get rfl h25 rfl ?_
      refine xP_s rfl rfl rfl ?_
      refine xP_cv rfl rfl rfl rfl rfl ht.2.1 (p_isMinusOfInteger ht hs (by omega) (TA_min hta hl hsx hch) ?_)
      cases hmin : isMin s (nx s)
      · refine xP_s rfl rfl rfl ?_
        refine xP_s rfl rfl rfl ?_
        refine xP_get rfl h25 rfl ?_
        refine xP_s rfl rfl rfl ?_
        refine xP_cv rfl rfl rfl rfl rfl ht.2.1 (p_tkey ht (by omega) ?_)
        rw [if_pos q1, hky]
        refine xP_s rfl rfl rfl ?_
        refine xP_s rfl rfl rfl ?_
        refine xP_get rfl h25 rfl ?_
        refine xP_s rfl rfl rfl ?_
        refine xP_cv rfl rfl rfl rfl rfl ho.obj (p_behind ho ?_)
        refine xP_s rfl rfl rfl ?_
        refine xP_s rfl rfl rfl ?_
        have e : bare sl s = ((opB sl (tK (nx s))).isSome && !(opP sl (tK (nx s))).isSome) := by
          unfold bare
          rw [decide_eq_true hk1, hcal, hmin]
          simp
        rw [e] at k
        refine xP_if (fun hc => ?_) (fun hc => ?_)
        · have y := xc_t hc
          dsimp only at y
          rw [hm1, hF] at y
          rw [show (opB sl (tK (nx s))).isSome = false from Bool.not_eq_true _ ▸ fun q => (eF.mp q) y, Bool.false_and] at k
          repeat' first
            | refine xP_s rfl rfl rfl ?_
            | refine xP_ret rfl rfl rfl ?_
          exact k
        · have y := xc_f hc
          dsimp only at y
          rw [hm1, hF] at y
          rw [eF.mpr y, Bool.true_and] at k
          refine xP_s rfl rfl rfl ?_
          refine xP_get rfl h25 rfl ?_
          refine xP_s rfl rfl rfl ?_
          refine xP_cv rfl rfl rfl rfl rfl ho.obj (p_prefix ho ?_)
          refine xP_s rfl rfl rfl ?_
          refine xP_s rfl rfl rfl ?_
          refine xP_if (fun hc => ?_) (fun hc => ?_)
          · have w := xc_t hc
            dsimp only at w
            rw [hm1, hB] at w
            rw [eB.mpr w] at k
            repeat' first
              | refine xP_s rfl rfl rfl ?_
              | refine xP_ret rfl rfl rfl ?_
            exact k
          · have w := xc_f hc
            dsimp only at w
            rw [hm1, hB] at w
            rw [show (opP sl (tK (nx s))).isSome = false from Bool.not_eq_true _ ▸ fun q => (eB.mp q) w] at k
            repeat' first
              | refine xP_s rfl rfl rfl ?_
              | refine xP_ret rfl rfl rfl ?_
            exact k
      · have e : bare sl s = false := by
          unfold bare
          rw [hmin]
          simp
        rw [e] at k
        repeat' first
          | refine xP_s rfl rfl rfl ?_
          | refine xP_ret rfl rfl rfl ?_
        exact k
    · have e : bare sl s = false := by
        unfold bare
        rw [hcal]
        simp
      rw [e] at k
      repeat' first
        | refine xP_s rfl rfl rfl ?_
        | refine xP_ret rfl rfl rfl ?_
      exact k
end PA
