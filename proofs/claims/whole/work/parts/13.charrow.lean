-- CharRow: rows of characters as lists of numbers
/-- the cells that may have changed -/
def xSame (A A' : List xC) (l : List Nat) : Prop := A'.length = A.length ∧ ∀ k, k ∉ l → A'[k]? = A[k]?
theorem xSame.refl (A : List xC) (l : List Nat) : xSame A A l := ⟨rfl, fun _ _ => rfl⟩
theorem xSame.trans {A B C : List xC} {l m : List Nat} (h1 : xSame A B l) (h2 : xSame B C m) : xSame A C (l ++ m) :=
  ⟨h2.1.trans h1.1, fun k hk => (h2.2 k fun h => hk (List.mem_append_right _ h)).trans (h1.2 k fun h => hk (List.mem_append_left _ h))⟩
theorem xSame.wider {A B : List xC} {l m : List Nat} (h : xSame A B l) (hs : ∀ k ∈ l, k ∈ m) : xSame A B m := ⟨h.1, fun k hk => h.2 k fun q => hk (hs k q)⟩
theorem xSame.set {A : List xC} (k : Nat) (e : xC) : xSame A (A.set k e) [k] := ⟨by simp, fun j hj => by
  have : ¬ k = j := fun q => hj (by simp [q])
  simp [List.getElem?_set, this]⟩
theorem xset_ne {A : List xC} {k j : Nat} {e : xC} (h : k ≠ j) : (A.set k e)[j]? = A[j]? := by simp [List.getElem?_set, h]
theorem xset_eq {A : List xC} {k : Nat} {e e0 : xC} (h : A[k]? = some e0) : (A.set k e)[k]? = some e := by
  have := (List.getElem?_eq_some_iff.mp h).1
  simp [List.getElem?_set, this]
/-- comparisons, over the integers -/
theorem xc_i (k : ClassFile.Cond) (x y : Int32) : xcmp k x y = (match k with
  | .eq => decide (x.toInt = y.toInt) | .ne => decide (¬ x.toInt = y.toInt) | .lt => decide (x.toInt < y.toInt) | .ge => decide (y.toInt ≤ x.toInt) | .gt => decide (y.toInt < x.toInt) | .le => decide (x.toInt ≤ y.toInt)) := by
  cases k <;> simp only [xcmp, Int32.lt_iff_toInt_lt, Int32.le_iff_toInt_le, Int32.toInt_inj]
theorem xc_t {k : ClassFile.Cond} {x y : Int32} (h : xcmp k x y = true) : (match k with
  | .eq => x.toInt = y.toInt | .ne => ¬ x.toInt = y.toInt | .lt => x.toInt < y.toInt | .ge => y.toInt ≤ x.toInt | .gt => y.toInt < x.toInt | .le => x.toInt ≤ y.toInt) := by
  rw [xc_i] at h
  cases k <;> simpa using h
theorem xc_f {k : ClassFile.Cond} {x y : Int32} (h : xcmp k x y = false) : (match k with
  | .eq => ¬ x.toInt = y.toInt | .ne => x.toInt = y.toInt | .lt => y.toInt ≤ x.toInt | .ge => x.toInt < y.toInt | .gt => x.toInt ≤ y.toInt | .le => y.toInt < x.toInt) := by
  rw [xc_i] at h
  cases k <;> simpa using h
theorem x_cl (i : Int32) : i.toNatClampNeg = i.toInt.toNat := rfl
theorem xib_of {i : Int32} {n : Nat} (h0 : 0 ≤ i.toInt) (h1 : i.toInt < n) : xib i n = true := by simp [xib, h0, h1]
/-- a row of characters: its object at a, its row at a + 1, holding t -/
def xRw (A : List xC) (a cap : Nat) (t : List Nat) : Prop := ∃ f : Nat → Int32, A[a]? = some (.inr (1, [.ref (a + 1), .int (nI t.length)])) ∧ A[a + 1]? = some (.inl (.char, cap, .inl f)) ∧ t.length ≤ cap ∧ ∀ (i c : Nat), t[i]? = some c → c < 128 ∧ f i = nI c
theorem xRw.same {A A' : List xC} {a cap : Nat} {t : List Nat} {l : List Nat} (h : xRw A a cap t) (hs : xSame A A' l) (h1 : a ∉ l) (h2 : a + 1 ∉ l) : xRw A' a cap t := by
  obtain ⟨f, q1, q2, q3, q4⟩ := h
  exact ⟨f, by rw [hs.2 _ h1]; exact q1, by rw [hs.2 _ h2]; exact q2, q3, q4⟩
/-- what a row answers at a place -/
def cAt (t : List Nat) (i : Int32) : Int32 := if 0 ≤ i.toInt then (match t[i.toInt.toNat]? with
  | some c => nI c
  | none => -1) else -1
theorem cAt_neg {t : List Nat} {i : Int32} (h : i.toInt < 0) : cAt t i = -1 := if_neg (by omega)
theorem cAt_out {t : List Nat} {i : Int32} (h : (t.length : Int) ≤ i.toInt) : cAt t i = -1 := by
  unfold cAt
  rw [if_pos (by omega), List.getElem?_eq_none (by omega)]
theorem cAt_in {t : List Nat} {i : Int32} {c : Nat} (h0 : 0 ≤ i.toInt) (h : t[i.toInt.toNat]? = some c) : cAt t i = nI c := by
  unfold cAt
  rw [if_pos h0, h]
set_option maxRecDepth 100000 in
theorem p_length {sc : xSc} {d g a cap : Nat} {A : List xC} {t : List Nat} {P : xO → xH → Prop} (hr : xRw A a cap t) (k : P (.inl (some (.int (nI t.length)))) (A, g)) : xM1 sc d 12 [.ref a] (A, g) P := by
  obtain ⟨f, h1, h2, h3, h4⟩ := hr
  unfold xM1
  repeat' first
    | refine xP_s rfl rfl rfl ?_
    | refine xP_get rfl h1 rfl ?_
    | refine xP_ret rfl rfl rfl ?_
  exact k
set_option maxRecDepth 100000 in
theorem p_at {sc : xSc} {d g a cap : Nat} {A : List xC} {t : List Nat} {i : Int32} {P : xO → xH → Prop} (hr : xRw A a cap t) (hcap : cap < 2 ^ 31) (ha : ¬ a + 1 = xscr) (k : P (.inl (some (.int (cAt t i)))) (A, g)) : xM1 sc d 13 [.ref a, .int i] (A, g) P := by
  obtain ⟨f, h1, h2, h3, h4⟩ := hr
  have hNi : (nI t.length).toInt = (t.length : Int) := nI_toInt (by omega)
  have hCi : (nI cap).toInt = (cap : Int) := nI_toInt hcap
  have hz : (0 : Int32).toInt = 0 := rfl
  unfold xM1
  repeat' first
    | refine xP_s rfl rfl rfl ?_
    | refine xP_get rfl h1 rfl ?_
    | refine xP_alen rfl h2 ha ?_
    | refine xP_if (fun hc => ?_) (fun hc => ?_)
    | refine xP_ret rfl rfl rfl ?_
  · have := xc_t hc
    dsimp only at this
    rw [cAt_neg (by omega)] at k
    exact k
  · have := xc_t hc
    dsimp only at this
    rw [cAt_out (by omega)] at k
    exact k
  · have := xc_t hc
    dsimp only at this
    rw [cAt_out (by omega)] at k
    exact k
  · rename_i c1 c2
    have q1 := xc_f c1
    have q2 := xc_f c2
    have q3 := xc_f hc
    dsimp only at q1 q2 q3
    refine xP_cal rfl h2 (xib_of (by omega) (by omega)) ?_
    obtain ⟨c, hcc⟩ : ∃ c, t[i.toInt.toNat]? = some c := ⟨t[i.toInt.toNat]'(by omega), List.getElem?_eq_getElem (by omega)⟩
    have hv : f i.toNatClampNeg = cAt t i := by rw [x_cl, (h4 _ c hcc).2, cAt_in (by omega) hcc]
    rw [hv]
    repeat' first
      | refine xP_s rfl rfl rfl ?_
      | refine xP_ret rfl rfl rfl ?_
    exact k
set_option maxRecDepth 100000 in
/-- add: one more, if there is room -/
theorem p_add {sc : xSc} {d g a cap c : Nat} {A : List xC} {t : List Nat} {P : xO → xH → Prop} (hr : xRw A a cap t) (hcap : cap < 2 ^ 31) (ha : ¬ a + 1 = xscr) (hch0 : c < 128) (hroom : t.length < cap) (k : ∀ A', xRw A' a cap (t ++ [c]) → xSame A A' [a, a + 1] → P (.inl none) (A', g)) : xM1 sc d 14 [.ref a, .int (nI c)] (A, g) P := by
  obtain ⟨f, h1, h2, h3, h4⟩ := hr
  have hNi : (nI t.length).toInt = (t.length : Int) := nI_toInt (by omega)
  have hCi : (nI cap).toInt = (cap : Int) := nI_toInt hcap
  have hz : (0 : Int32).toInt = 0 := rfl
  unfold xM1
  repeat' first
    | refine xP_s rfl rfl rfl ?_
    | refine xP_get rfl h1 rfl ?_
    | refine xP_alen rfl h2 ha ?_
    | refine xP_if (fun hc => ?_) (fun hc => ?_)
    | refine xP_ret rfl rfl rfl ?_
  · have := xc_t hc
    dsimp only at this
    omega
  · have := xc_t hc
    dsimp only at this
    omega
  · refine xP_cas rfl h2 (xib_of (by omega) (by omega)) ?_
    have h1' : (A.set (a + 1) (.inl (.char, cap, .inl (upd f (nI t.length).toNatClampNeg (vp_nar .char ((nI c).toUInt32 % 65536).toInt32)))))[a]? = some (.inr (1, [.ref (a + 1), .int (nI t.length)])) := by rw [xset_ne (by omega)]; exact h1
    generalize hB : A.set (a + 1) (.inl (.char, cap, .inl (upd f (nI t.length).toNatClampNeg (vp_nar .char ((nI c).toUInt32 % 65536).toInt32)))) = B at h1' ⊢
    repeat' first
      | refine xP_s rfl rfl rfl ?_
      | refine xP_get rfl h1' rfl ?_
      | refine xP_put rfl h1' (Nat.le_of_ble_eq_true rfl) rfl ?_
      | refine xP_ret rfl rfl rfl ?_
    have hch : vp_nar .char ((nI c).toUInt32 % 65536).toInt32 = nI c := by rw [pk_vc, pk_char, pk_tn (by omega), Nat.mod_eq_of_lt (by omega)]
    refine k _ ⟨upd f t.length (nI c), ?_, ?_, by simp; omega, fun i x hx => ?_⟩ ?_
    · rw [xset_eq h1', nI_1, List.length_append]
      rfl
    · rw [xset_ne (by omega), ← hB, xset_eq h2, nI_clamp (by omega), hch]
    · by_cases hi : i = t.length
      · subst hi
        simp at hx
        subst hx
        exact ⟨hch0, pk_us⟩
      · rw [pk_un hi]
        have : t[i]? = some x := by
          rw [List.getElem?_append] at hx
          split at hx
          · exact hx
          · exfalso
            have := (List.getElem?_eq_some_iff.mp hx).1
            simp at this
            omega
        exact h4 i x this
    · rw [← hB]
      exact ((xSame.set _ _).trans (xSame.set _ _)).wider (by simp)
set_option maxRecDepth 100000 in
/-- cut: fewer, if that is fewer -/
theorem p_cut {sc : xSc} {d g a cap : Nat} {A : List xC} {t : List Nat} {i : Int32} {P : xO → xH → Prop} (hr : xRw A a cap t) (hcap : cap < 2 ^ 31) (k : ∀ A', xRw A' a cap (if 0 ≤ i.toInt ∧ i.toInt < t.length then t.take i.toInt.toNat else t) → xSame A A' [a] → P (.inl none) (A', g)) : xM1 sc d 15 [.ref a, .int i] (A, g) P := by
  obtain ⟨f, h1, h2, h3, h4⟩ := id hr
  have hNi : (nI t.length).toInt = (t.length : Int) := nI_toInt (by omega)
  have hz : (0 : Int32).toInt = 0 := rfl
  unfold xM1
  repeat' first
    | refine xP_s rfl rfl rfl ?_
    | refine xP_get rfl h1 rfl ?_
    | refine xP_put rfl h1 (Nat.le_of_ble_eq_true rfl) rfl ?_
    | refine xP_if (fun hc => ?_) (fun hc => ?_)
    | refine xP_ret rfl rfl rfl ?_
  · have := xc_t hc
    dsimp only at this
    refine k A ?_ (xSame.refl _ _)
    rw [if_neg (by omega)]
    exact hr
  · have := xc_t hc
    dsimp only at this
    refine k A ?_ (xSame.refl _ _)
    rw [if_neg (by omega)]
    exact hr
  · rename_i hc1
    have q1 := xc_f hc1
    have q2 := xc_f hc
    dsimp only at q1 q2
    refine k _ ?_ (xSame.set _ _)
    rw [if_pos (by omega)]
    have hl : (t.take i.toInt.toNat).length = i.toInt.toNat := by rw [List.length_take]; omega
    refine ⟨f, ?_, by rw [xset_ne (by omega)]; exact h2, by omega, fun j c hj => h4 j c ?_⟩
    · rw [xset_eq h1, hl]
      have hi : nI i.toInt.toNat = i := Int32.toInt_inj.mp (by rw [nI_toInt (by omega)]; omega)
      rw [hi]
      rfl
    · rw [List.getElem?_take] at hj
      split at hj
      · exact hj
      · cases hj
theorem x_char {c : Nat} (h : c < 65536) : vp_nar .char (nI c) = nI c := by
  have h1 : ((nI c).toUInt32 % 65536).toInt32 = nI c := by rw [pk_char, pk_tn (by omega), Nat.mod_eq_of_lt h]
  have h2 := pk_vc (nI c)
  rwa [h1] at h2
set_option maxRecDepth 100000 in
theorem p_dropLoop {sc : xSc} {d g a cap D : Nat} {t : List Nat} {P : xO → xH → Prop} (hcap : cap < 2 ^ 30) (ha : ¬ a + 1 = xscr) (hD : D < 2 ^ 30) (h3 : t.length ≤ cap) : ∀ (m k : Nat) (A : List xC) (f : Nat → Int32), t.length ≤ D + k + m → (k = 0 ∨ D + k ≤ t.length) →
    A[a]? = some (.inr (1, [.ref (a + 1), .int (nI t.length)])) → A[a + 1]? = some (.inl (.char, cap, .inl f)) → (∀ (i c : Nat), t[i]? = some c → c < 128) → (∀ (i c : Nat), k ≤ i → t[i]? = some c → f i = nI c) → (∀ (i c : Nat), i < k → t[D + i]? = some c → f i = nI c) →
    (∀ A', xRw A' a cap (t.drop D) → xSame A A' [a, a + 1] → P (.inl none) (A', g)) →
    xP sc d 16 12 [(0, .ref a), (1, .int (nI D)), (2, .int (nI k)), (3, .int (nI (D + k)))] [] (A, g) P := by
  intro m
  induction m with
  | zero =>
    intro k A f hm hk h1 h2 h4 h5 h6 K
    have hNi : (nI t.length).toInt = (t.length : Int) := nI_toInt (by omega)
    have hKi : (nI (D + k)).toInt = ((D + k : Nat) : Int) := nI_toInt (by omega)
    refine xP_s rfl rfl rfl ?_
    refine xP_s rfl rfl rfl ?_
    refine xP_get rfl h1 rfl ?_
    refine xP_s rfl rfl rfl ?_
    refine xP_if (fun hc => ?_) (fun hc => ?_)
    · repeat' first
        | refine xP_s rfl rfl rfl ?_
        | refine xP_put rfl h1 (Nat.le_of_ble_eq_true rfl) rfl ?_
        | refine xP_ret rfl rfl rfl ?_
      have hl : (t.drop D).length = k := by rw [List.length_drop]; omega
      refine K _ ⟨f, ?_, by rw [xset_ne (by omega)]; exact h2, by omega, fun i c hi => ?_⟩ ((xSame.set _ _).wider (by simp))
      · rw [xset_eq h1, hl]
        rfl
      · have hlt := (List.getElem?_eq_some_iff.mp hi).1
        rw [List.getElem?_drop] at hi
        exact ⟨h4 _ _ hi, h6 i c (by omega) hi⟩
    · have := xc_f hc
      dsimp only at this
      omega
  | succ m ih =>
    intro k A f hm hk h1 h2 h4 h5 h6 K
    have hNi : (nI t.length).toInt = (t.length : Int) := nI_toInt (by omega)
    have hKi : (nI (D + k)).toInt = ((D + k : Nat) : Int) := nI_toInt (by omega)
    have hki : (nI k).toInt = (k : Int) := nI_toInt (by omega)
    have hCi : (nI cap).toInt = (cap : Int) := nI_toInt (by omega)
    refine xP_s rfl rfl rfl ?_
    refine xP_s rfl rfl rfl ?_
    refine xP_get rfl h1 rfl ?_
    refine xP_s rfl rfl rfl ?_
    refine xP_if (fun hc => ?_) (fun hc => ?_)
    · have hq := xc_t hc
      dsimp only at hq
      repeat' first
        | refine xP_s rfl rfl rfl ?_
        | refine xP_put rfl h1 (Nat.le_of_ble_eq_true rfl) rfl ?_
        | refine xP_ret rfl rfl rfl ?_
      have hl : (t.drop D).length = k := by rw [List.length_drop]; omega
      refine K _ ⟨f, ?_, by rw [xset_ne (by omega)]; exact h2, by omega, fun i c hi => ?_⟩ ((xSame.set _ _).wider (by simp))
      · rw [xset_eq h1, hl]
        rfl
      · have hlt := (List.getElem?_eq_some_iff.mp hi).1
        rw [List.getElem?_drop] at hi
        exact ⟨h4 _ _ hi, h6 i c (by omega) hi⟩
    · have hq := xc_f hc
      dsimp only at hq
      repeat' first
        | refine xP_s rfl rfl rfl ?_
        | refine xP_get rfl h1 rfl ?_
        | refine xP_alen rfl h2 ha ?_
        | refine xP_if (fun hc => ?_) (fun hc => ?_)
      · have hq2 := xc_t hc
        dsimp only at hq2
        omega
      · obtain ⟨c, hcc⟩ : ∃ c, t[D + k]? = some c := ⟨t[D + k]'(by omega), List.getElem?_eq_getElem (by omega)⟩
        refine xP_cal rfl h2 (xib_of (by omega) (by omega)) ?_
        have hv : f (nI (D + k)).toNatClampNeg = nI c := by rw [nI_clamp (by omega)]; exact h5 _ _ (by omega) hcc
        rw [hv]
        refine xP_cas rfl h2 (xib_of (by omega) (by omega)) ?_
        rw [x_char (by have := h4 _ _ hcc; omega), nI_clamp (by omega)]
        refine xP_s rfl rfl rfl ?_
        refine xP_s rfl rfl rfl ?_
        refine xP_s rfl rfl rfl ?_
        have e1 : nI k + 1 = nI (k + 1) := nI_1 k
        have e2 : nI (D + k) + 1 = nI (D + (k + 1)) := nI_1 (D + k)
        have go := ih (k + 1) (A.set (a + 1) (.inl (.char, cap, .inl (upd f k (nI c))))) (upd f k (nI c)) (by omega) (Or.inr (by omega)) (by rw [xset_ne (by omega)]; exact h1) (xset_eq h2) h4 (fun i c' hi hc' => by rw [pk_un (by omega)]; exact h5 i c' (by omega) hc') (fun i c' hi hc' => by
          by_cases hik : i = k
          · subst hik
            rw [hcc] at hc'
            cases hc'
            exact pk_us
          · rw [pk_un hik]
            exact h6 i c' (by omega) hc') (fun A' r1 r2 => K A' r1 (((xSame.set _ _).trans r2).wider (by simp)))
        rw [← e1, ← e2] at go
        exact go
set_option maxRecDepth 100000 in
/-- dropFirst -/
theorem p_dropFirst {sc : xSc} {d g a cap D : Nat} {A : List xC} {t : List Nat} {P : xO → xH → Prop} (hr : xRw A a cap t) (hcap : cap < 2 ^ 30) (ha : ¬ a + 1 = xscr) (hD : D < 2 ^ 30) (k : ∀ A', xRw A' a cap (t.drop D) → xSame A A' [a, a + 1] → P (.inl none) (A', g)) : xM1 sc d 16 [.ref a, .int (nI D)] (A, g) P := by
  obtain ⟨f, h1, h2, h3, h4⟩ := id hr
  have hDi : (nI D).toInt = (D : Int) := nI_toInt (by omega)
  have hz : (0 : Int32).toInt = 0 := rfl
  have loop := p_dropLoop (sc := sc) (d := d) (g := g) (P := P) hcap ha hD h3 t.length 0 A f (by omega) (Or.inl rfl) h1 h2 (fun i c hi => (h4 i c hi).1) (fun i c _ hi => (h4 i c hi).2) (fun i c hi => absurd hi (Nat.not_lt_zero _)) k
  unfold xM1
  refine xP_s rfl rfl rfl ?_
  refine xP_s rfl rfl rfl ?_
  refine xP_s rfl rfl rfl ?_
  refine xP_s rfl rfl rfl ?_
  refine xP_if (fun hc => ?_) (fun hc => ?_)
  · have hq := xc_t hc
    dsimp only at hq
    have h0 : D = 0 := by omega
    subst h0
    refine xP_s rfl rfl rfl ?_
    refine xP_s rfl rfl rfl ?_
    exact loop
  · refine xP_s rfl rfl rfl ?_
    refine xP_s rfl rfl rfl ?_
    refine xP_s rfl rfl rfl ?_
    exact loop
