-- numbers; what a token is
def dgO (b : Bool) (s : List Nat) : Option Nat := match s with
  | [] => none
  | x :: _ => dg b x
/-- a number: its value and what is left -/
def lexN (c : Nat) (r : List Nat) : Option (Nat × List Nat) :=
  if c = 48 ∧ r.head? = some 39 then (match r.tail with
    | [] => none
    | x :: r3 => if x = 39 ∨ x = 92 then none else some (x, r3))
  else if c = 48 ∧ r.head? = some 120 ∧ (dgO true r.tail).isSome = true then dgr true r.tail 0 else dgr false (c :: r) 0
theorem oc_hd {s : List Nat} (x : Nat) (hs : ∀ c ∈ s, c < 128) : (oc s 0).toInt = x ↔ s.head? = some x := by
  rw [oc_c x hs, List.head?_eq_getElem?]
theorem oc_t (s : List Nat) : oc s 1 = oc s.tail 0 := by
  cases s with
  | nil => rfl
  | cons c r => rfl
set_option maxRecDepth 100000 in
theorem p_tkInteger {sc : xSc} {d g u p v c : Nat} {A : List xC} {G : xG} {t r : List Nat} {P : xO → xH → Prop} (ht : xTk A u p v G) (hs : xRw A 1 120 t) (hu : u < 120) (hd : t.drop p = c :: r)
    (k0 : lexN c r = none → P (.inl (some (.int 0))) (A, g))
    (k1 : ∀ A' q, lexN c r = some q → xTk A' (u + 1) (t.length - q.2.length) v (xTn G u 3 p (t.length - q.2.length) (nI q.1) 0 0) → xSame A A' [18, 19, 20, 21, 22, 23, 24] → P (.inl (some (.int 1))) (A', g)) : xM1 sc (d + 3) 110 [.ref 18, .int (nI c), .int (oc r 0)] (A, g) P := by
  have h18 := ht.2.1
  have hl := hs.len
  obtain ⟨hd1, hlt⟩ := drop_s hd
  have hch : ∀ x ∈ c :: r, x < 128 := fun x hx => hs.chr x (List.mem_of_mem_drop (hd ▸ hx))
  have hchr : ∀ x ∈ r, x < 128 := fun x hx => hch x (List.mem_cons_of_mem _ hx)
  have hc128 := hch c List.mem_cons_self
  have hC : (nI c).toInt = (c : Int) := nI_toInt (by omega)
  have h48 : (48 : Int32).toInt = 48 := rfl
  have h39 : (39 : Int32).toInt = 39 := rfl
  have h92 : (92 : Int32).toInt = 92 := rfl
  have h120 : (120 : Int32).toInt = 120 := rfl
  have o39 : (oc r 0).toInt = 39 ↔ r.head? = some 39 := oc_hd 39 hchr
  have o120 : (oc r 0).toInt = 120 ↔ r.head? = some 120 := oc_hd 120 hchr
  have dec : ¬ (c = 48 ∧ r.head? = some 39) → ¬ (c = 48 ∧ r.head? = some 120 ∧ (dgO true r.tail).isSome = true) → xP sc (d + 3) 110 113 [(0, .ref 18), (1, .int (nI c)), (2, .int (oc r 0))] [] (A, g) P := by
    intro n1 n2
    have e : lexN c r = dgr false (c :: r) 0 := by
      unfold lexN
      rw [if_neg n1, if_neg n2]
    rw [e] at k0 k1
    refine xP_s rfl rfl rfl ?_
    refine xP_s rfl rfl rfl ?_
    refine xP_get rfl h18 rfl ?_
    refine xP_s rfl rfl rfl ?_
    refine xP_cv rfl rfl rfl rfl rfl h18 (p_addDigits (b := false) ht hs hu hd (by omega) (fun z => ?_) (fun A' q z1 z2 z3 => ?_))
    · repeat' first
        | refine xP_s rfl rfl rfl ?_
        | refine xP_ret rfl rfl rfl ?_
      exact k0 z
    · repeat' first
        | refine xP_s rfl rfl rfl ?_
        | refine xP_ret rfl rfl rfl ?_
      exact k1 A' q z1 z2 z3
  have mid : ¬ (c = 48 ∧ r.head? = some 39) → xP sc (d + 3) 110 66 [(0, .ref 18), (1, .int (nI c)), (2, .int (oc r 0))] [] (A, g) P := by
    intro n1
    refine xP_s rfl rfl rfl ?_
    refine xP_s rfl rfl rfl ?_
    refine xP_s rfl rfl rfl ?_
    refine xP_if (fun hc => ?_) (fun hc => ?_)
    · have := xc_t hc
      dsimp only at this
      exact dec n1 (by omega)
    · have q1 := xc_f hc
      dsimp only at q1
      refine xP_s rfl rfl rfl ?_
      refine xP_s rfl rfl rfl ?_
      refine xP_s rfl rfl rfl ?_
      refine xP_if (fun hc => ?_) (fun hc => ?_)
      · have q2 := xc_t hc
        dsimp only at q2
        exact dec n1 (fun z => q2 (o120.mpr z.2.1))
      · have q2 := xc_f hc
        dsimp only at q2
        have q2 := o120.mp q2
        refine xP_s rfl rfl rfl ?_
        refine xP_get rfl h18 rfl ?_
        refine xP_s rfl rfl rfl ?_
        refine xP_get rfl h18 rfl ?_
        refine xP_s rfl rfl rfl ?_
        refine xP_s rfl rfl rfl ?_
        rw [show nI p + 2 = nI (p + 2) from nI_add p 2]
        refine xP_cv rfl rfl rfl rfl rfl hs.obj (p_at hs (by decide) (by decide) ?_)
        rw [cAt_sfx hd (by omega), oc_s, oc_t]
        refine xP_s rfl rfl rfl ?_
        refine xP_call rfl rfl rfl (p_digit (b := true) ?_)
        cases r with
        | nil => cases q2
        | cons c2 r2 =>
          rw [List.tail_cons] at dec ⊢
          obtain ⟨hd2, hlt2⟩ := drop_s hd1
          cases r2 with
          | nil =>
            have dc := dec n1 (fun z => by cases z.2.2)
            repeat' first
              | exact dc
              | refine xP_s rfl rfl rfl ?_
          | cons c3 r3 =>
            rw [oc_0, dg_nI true c3 (hchr c3 (by simp))]
            cases hx : dg true c3 with
            | none =>
              have dc := dec n1 (fun z => by
                have := z.2.2
                rw [show dgO true (c3 :: r3) = dg true c3 from rfl, hx] at this
                cases this)
              repeat' first
                | exact dc
                | refine xP_s rfl rfl rfl ?_
            | some x =>
              have hx16 := dg_lt hx
              have e : lexN c (c2 :: c3 :: r3) = dgr true (c3 :: r3) 0 := by
                unfold lexN
                rw [if_neg n1, if_pos ⟨by omega, q2, by rw [List.tail_cons, show dgO true (c3 :: r3) = dg true c3 from rfl, hx]; rfl⟩]
                rfl
              rw [e] at k0 k1
              dsimp only
              refine xP_s rfl rfl rfl ?_
              refine xP_s rfl rfl rfl ?_
              refine xP_if (fun hc => ?_) (fun hc => ?_)
              · exact absurd (xc_t hc) (nI_neg1 (by omega))
              · refine xP_s rfl rfl rfl ?_
                refine xP_s rfl rfl rfl ?_
                refine xP_get rfl h18 rfl ?_
                refine xP_s rfl rfl rfl ?_
                refine xP_s rfl rfl rfl ?_
                rw [show nI p + 2 = nI (p + 2) from nI_add p 2]
                refine xP_s rfl rfl rfl ?_
                refine xP_cv rfl rfl rfl rfl rfl h18 (p_addDigits (b := true) ht hs hu hd2 (by omega) (fun z => ?_) (fun A' q z1 z2 z3 => ?_))
                · repeat' first
                    | refine xP_s rfl rfl rfl ?_
                    | refine xP_ret rfl rfl rfl ?_
                  exact k0 z
                · repeat' first
                    | refine xP_s rfl rfl rfl ?_
                    | refine xP_ret rfl rfl rfl ?_
                  exact k1 A' q z1 z2 z3
  unfold xM1
  refine xP_s rfl rfl rfl ?_
  refine xP_s rfl rfl rfl ?_
  refine xP_s rfl rfl rfl ?_
  refine xP_if (fun hc => ?_) (fun hc => ?_)
  · have := xc_t hc
    dsimp only at this
    exact mid (by omega)
  · have q1 := xc_f hc
    dsimp only at q1
    refine xP_s rfl rfl rfl ?_
    refine xP_s rfl rfl rfl ?_
    refine xP_s rfl rfl rfl ?_
    refine xP_if (fun hc => ?_) (fun hc => ?_)
    · have q2 := xc_t hc
      dsimp only at q2
      exact mid (fun z => q2 (o39.mpr z.2))
    · have q2 := xc_f hc
      dsimp only at q2
      have q2 := o39.mp q2
      have e : lexN c r = (match r.tail with | [] => none | x :: r3 => if x = 39 ∨ x = 92 then none else some (x, r3)) := by
        unfold lexN
        rw [if_pos ⟨by omega, q2⟩]
      rw [e] at k0 k1
      refine xP_s rfl rfl rfl ?_
      refine xP_get rfl h18 rfl ?_
      refine xP_s rfl rfl rfl ?_
      refine xP_get rfl h18 rfl ?_
      refine xP_s rfl rfl rfl ?_
      refine xP_s rfl rfl rfl ?_
      rw [show nI p + 2 = nI (p + 2) from nI_add p 2]
      refine xP_cv rfl rfl rfl rfl rfl hs.obj (p_at hs (by decide) (by decide) ?_)
      rw [cAt_sfx hd (by omega), oc_s, oc_t]
      cases r with
      | nil => cases q2
      | cons c2 r2 =>
        rw [List.tail_cons] at k0 k1 ⊢
        obtain ⟨hd2, hlt2⟩ := drop_s hd1
        cases r2 with
        | nil =>
          repeat' first
            | refine xP_s rfl rfl rfl ?_
            | refine xP_ret rfl rfl rfl ?_
          exact k0 rfl
        | cons c3 r3 =>
          have hc3 := hchr c3 (by simp)
          obtain ⟨hd3, hlt3⟩ := drop_s hd2
          have hC3 : (nI c3).toInt = (c3 : Int) := nI_toInt (by omega)
          rw [oc_0]
          refine xP_s rfl rfl rfl ?_
          refine xP_s rfl rfl rfl ?_
          refine xP_s rfl rfl rfl ?_
          refine xP_s rfl rfl rfl ?_
          refine xP_if (fun hc => ?_) (fun hc => ?_)
          · exact absurd (xc_t hc) (nI_neg1 (by omega))
          · refine xP_s rfl rfl rfl ?_
            refine xP_s rfl rfl rfl ?_
            refine xP_s rfl rfl rfl ?_
            refine xP_if (fun hc => ?_) (fun hc => ?_)
            · have := xc_t hc
              dsimp only at this
              repeat' first
                | refine xP_s rfl rfl rfl ?_
                | refine xP_ret rfl rfl rfl ?_
              refine k0 ?_
              dsimp only
              rw [if_pos (by omega)]
            · have z1 := xc_f hc
              dsimp only at z1
              refine xP_s rfl rfl rfl ?_
              refine xP_s rfl rfl rfl ?_
              refine xP_s rfl rfl rfl ?_
              refine xP_if (fun hc => ?_) (fun hc => ?_)
              · have := xc_t hc
                dsimp only at this
                repeat' first
                  | refine xP_s rfl rfl rfl ?_
                  | refine xP_ret rfl rfl rfl ?_
                refine k0 ?_
                dsimp only
                rw [if_pos (by omega)]
              · have z2 := xc_f hc
                dsimp only at z2
                have er : t.length - r3.length = p + 3 := (drop_len hd3 (by omega)).symm
                refine xP_s rfl rfl rfl ?_
                refine xP_s rfl rfl rfl ?_
                refine xP_s rfl rfl rfl ?_
                refine xP_get rfl h18 rfl ?_
                refine xP_s rfl rfl rfl ?_
                refine xP_s rfl rfl rfl ?_
                rw [show nI p + 3 = nI (p + 3) from nI_add p 3]
                refine xP_s rfl rfl rfl ?_
                refine xP_s rfl rfl rfl ?_
                refine xP_s rfl rfl rfl ?_
                refine xP_cv rfl rfl rfl rfl rfl h18 (p_tadd ht hu (fun A1 q1 q2 => ?_))
                repeat' first
                  | refine xP_s rfl rfl rfl ?_
                  | refine xP_ret rfl rfl rfl ?_
                refine k1 A1 (c3, r3) ?_ ?_ q2
                · dsimp only
                  rw [if_neg (by omega)]
                · rw [er]
                  exact q1
/-- kind (0 end, 1 name, 2 variable, 3 number, 4 string, 5 mark, 6 nothing, 7 wrong), value, name, what is left -/
abbrev xTok : Type := Nat × Nat × List Nat × List Nat
def wrg : xTok := (7, 0, [], [])
def lexT : List Nat → xTok
  | [] => (6, 0, [], [])
  | c :: r =>
    if isSm c = true then (if ((c :: r).takeWhile isWd).length ≤ 24 then (1, 0, (c :: r).takeWhile isWd, (c :: r).dropWhile isWd) else wrg)
    else if isLg c = true ∨ c = 95 then (if ((c :: r).takeWhile isWd).length ≤ 24 then (2, 0, (c :: r).takeWhile isWd, (c :: r).dropWhile isWd) else wrg)
    else if isDg c = true then (match lexN c r with
      | some q => (3, q.1, [], q.2)
      | none => wrg)
    else if isSg c = true then (if (c :: r).takeWhile isSg = [46] ∧ (((c :: r).dropWhile isSg).head? = none ∨ ((c :: r).dropWhile isSg).head? = some 32 ∨ ((c :: r).dropWhile isSg).head? = some 37) then (0, 0, [], (c :: r).dropWhile isSg)
      else if ((c :: r).takeWhile isSg).length ≤ 24 then (1, 0, (c :: r).takeWhile isSg, (c :: r).dropWhile isSg) else wrg)
    else if c = 39 then (match qt 120 r with
      | some q => if q.1.length ≤ 24 then (1, 0, q.1, q.2) else wrg
      | none => wrg)
    else if c = 34 then (match strq r with
      | some q => if q.1.length ≤ 12 then (4, 0, q.1, q.2) else wrg
      | none => wrg)
    else if c = 33 ∨ c = 59 then (1, 0, [c], r)
    else if (c = 91 ∧ r.head? = some 93) ∨ (c = 123 ∧ r.head? = some 125) then (1, 0, (c :: r).take 2, r.tail)
    else if isPn c = true then (5, c, [], r) else wrg
theorem lexT_cons (c : Nat) (r : List Nat) : lexT (c :: r) = (
    if isSm c = true then (if ((c :: r).takeWhile isWd).length ≤ 24 then (1, 0, (c :: r).takeWhile isWd, (c :: r).dropWhile isWd) else wrg)
    else if isLg c = true ∨ c = 95 then (if ((c :: r).takeWhile isWd).length ≤ 24 then (2, 0, (c :: r).takeWhile isWd, (c :: r).dropWhile isWd) else wrg)
    else if isDg c = true then (match lexN c r with
      | some q => (3, q.1, [], q.2)
      | none => wrg)
    else if isSg c = true then (if (c :: r).takeWhile isSg = [46] ∧ (((c :: r).dropWhile isSg).head? = none ∨ ((c :: r).dropWhile isSg).head? = some 32 ∨ ((c :: r).dropWhile isSg).head? = some 37) then (0, 0, [], (c :: r).dropWhile isSg)
      else if ((c :: r).takeWhile isSg).length ≤ 24 then (1, 0, (c :: r).takeWhile isSg, (c :: r).dropWhile isSg) else wrg)
    else if c = 39 then (match qt 120 r with
      | some q => if q.1.length ≤ 24 then (1, 0, q.1, q.2) else wrg
      | none => wrg)
    else if c = 34 then (match strq r with
      | some q => if q.1.length ≤ 12 then (4, 0, q.1, q.2) else wrg
      | none => wrg)
    else if c = 33 ∨ c = 59 then (1, 0, [c], r)
    else if (c = 91 ∧ r.head? = some 93) ∨ (c = 123 ∧ r.head? = some 125) then (1, 0, (c :: r).take 2, r.tail)
    else if isPn c = true then (5, c, [], r) else wrg) := rfl
theorem qt_sfx : ∀ {n : Nat} {s : List Nat} {q : List Nat × List Nat}, qt n s = some q → ∃ w, s = w ++ q.2 ∧ q.1.length + 1 ≤ w.length
  | 0, s, q, h => by cases h
  | n + 1, [], q, h => by cases h
  | n + 1, c :: r, q, h => by
    unfold qt at h
    split at h
    · split at h
      next hh =>
        cases hq : qt n r.tail with
        | none =>
          rw [hq] at h
          cases h
        | some q' =>
          rw [hq] at h
          cases h
          obtain ⟨w, e, hw⟩ := qt_sfx hq
          cases r with
          | nil => cases hh
          | cons d r =>
            rw [List.tail_cons] at e
            exact ⟨c :: d :: w, by rw [e]; rfl, by simp; omega⟩
      next =>
        cases h
        exact ⟨[c], rfl, by simp⟩
    · split at h
      · cases r with
        | nil => cases h
        | cons d r2 =>
          dsimp only at h
          cases hx : esc d with
          | none =>
            rw [hx] at h
            cases h
          | some x =>
            rw [hx] at h
            dsimp only at h
            cases hq : qt n r2 with
            | none =>
              rw [hq] at h
              cases h
            | some q' =>
              rw [hq] at h
              cases h
              obtain ⟨w, e, hw⟩ := qt_sfx hq
              exact ⟨c :: d :: w, by rw [e]; rfl, by simp; omega⟩
      · cases hq : qt n r with
        | none =>
          rw [hq] at h
          cases h
        | some q' =>
          rw [hq] at h
          cases h
          obtain ⟨w, e, hw⟩ := qt_sfx hq
          exact ⟨c :: w, by rw [e]; rfl, by simp; omega⟩
theorem strq_sfx : ∀ {s : List Nat} {q : List Nat × List Nat}, strq s = some q → ∃ w, s = w ++ q.2 ∧ w.length = q.1.length + 1 ∧ s.take q.1.length = q.1
  | [], q, h => by cases h
  | c :: r, q, h => by
    unfold strq at h
    split at h
    · cases h
      exact ⟨[c], rfl, rfl, rfl⟩
    · split at h
      · cases h
      · cases hq : strq r with
        | none =>
          rw [hq] at h
          cases h
        | some q' =>
          rw [hq] at h
          cases h
          obtain ⟨w, e, hw, ht⟩ := strq_sfx hq
          refine ⟨c :: w, by rw [e]; rfl, by simp [hw], ?_⟩
          dsimp only
          rw [List.length_cons, List.take_succ_cons, ht]
theorem dgr_sfx {b : Bool} : ∀ {s : List Nat} {a : Nat} {q : Nat × List Nat}, dgr b s a = some q → ∃ w, s = w ++ q.2
  | [], a, q, h => by
    cases h
    exact ⟨[], rfl⟩
  | c :: r, a, q, h => by
    unfold dgr at h
    split at h
    · cases h
      exact ⟨[], rfl⟩
    · split at h
      · cases h
      · obtain ⟨w, e⟩ := dgr_sfx h
        exact ⟨c :: w, by rw [e]; rfl⟩
theorem lexN_sfx {c : Nat} {r : List Nat} {q : Nat × List Nat} (hc : isDg c = true) (h : lexN c r = some q) : ∃ w, c :: r = w ++ q.2 ∧ 1 ≤ w.length := by
  unfold lexN at h
  split at h
  next hh =>
    cases r with
    | nil => cases hh.2
    | cons c2 r2 =>
      rw [List.tail_cons] at h
      cases r2 with
      | nil => cases h
      | cons x r3 =>
        dsimp only at h
        split at h
        · cases h
        · cases h
          exact ⟨[c, c2, x], rfl, by simp⟩
  next =>
    split at h
    next hh =>
      cases r with
      | nil => cases hh.2.1
      | cons c2 r2 =>
        obtain ⟨w, e⟩ := dgr_sfx h
        rw [List.tail_cons] at e
        exact ⟨c :: c2 :: w, by rw [e]; rfl, by simp⟩
    next =>
      unfold dgr at h
      have hx : dg false c = some (c - 48) := by
        unfold dg
        rw [if_pos hc]
      rw [hx] at h
      dsimp only at h
      split at h
      · cases h
      · obtain ⟨w, e⟩ := dgr_sfx h
        exact ⟨c :: w, by rw [e]; rfl, by simp⟩
theorem span_sfx {f : Nat → Bool} {c : Nat} {r : List Nat} (hc : f c = true) : c :: r = (c :: r).takeWhile f ++ (c :: r).dropWhile f ∧ 1 ≤ ((c :: r).takeWhile f).length := by
  refine ⟨List.takeWhile_append_dropWhile.symm, ?_⟩
  rw [List.takeWhile_cons_of_pos hc]
  simp
/-- a token takes at least a character -/
theorem lexT_sfx {s : List Nat} (h : (lexT s).1 < 6) : ∃ w, s = w ++ (lexT s).2.2.2 ∧ 1 ≤ w.length := by
  cases s with
  | nil => exact absurd h (by decide)
  | cons c r =>
    have hwr : ¬ wrg.1 < 6 := by decide
    rw [lexT_cons] at h ⊢
    split
    next h1 =>
      rw [if_pos h1] at h
      split
      · exact ⟨_, (span_sfx (by simp [isWd, h1])).1, (span_sfx (by simp [isWd, h1])).2⟩
      next h2 =>
        rw [if_neg h2] at h
        exact absurd h hwr
    next h1 =>
      rw [if_neg h1] at h
      split
      next h2 =>
        rw [if_pos h2] at h
        have hw : isWd c = true := by
          unfold isWd
          rcases h2 with h2 | h2
          · simp [h2]
          · simp [h2]
        split
        · exact ⟨_, (span_sfx hw).1, (span_sfx hw).2⟩
        next h3 =>
          rw [if_neg h3] at h
          exact absurd h hwr
      next h2 =>
        rw [if_neg h2] at h
        split
        next h3 =>
          rw [if_pos h3] at h
          cases hq : lexN c r with
          | none =>
            rw [hq] at h
            exact absurd h hwr
          | some q => exact lexN_sfx h3 hq
        next h3 =>
          rw [if_neg h3] at h
          split
          next h4 =>
            rw [if_pos h4] at h
            split
            · exact ⟨_, (span_sfx h4).1, (span_sfx h4).2⟩
            next h5 =>
              rw [if_neg h5] at h
              split
              · exact ⟨_, (span_sfx h4).1, (span_sfx h4).2⟩
              next h6 =>
                rw [if_neg h6] at h
                exact absurd h hwr
          next h4 =>
            rw [if_neg h4] at h
            split
            next h5 =>
              rw [if_pos h5] at h
              cases hq : qt 120 r with
              | none =>
                rw [hq] at h
                exact absurd h hwr
              | some q =>
                rw [hq] at h
                dsimp only at h ⊢
                split
                · obtain ⟨w, e, _⟩ := qt_sfx hq
                  exact ⟨c :: w, by rw [e]; rfl, by simp⟩
                next h6 =>
                  rw [if_neg h6] at h
                  exact absurd h hwr
            next h5 =>
              rw [if_neg h5] at h
              split
              next h6 =>
                rw [if_pos h6] at h
                cases hq : strq r with
                | none =>
                  rw [hq] at h
                  exact absurd h hwr
                | some q =>
                  rw [hq] at h
                  dsimp only at h ⊢
                  split
                  · obtain ⟨w, e, _⟩ := strq_sfx hq
                    exact ⟨c :: w, by rw [e]; rfl, by simp⟩
                  next h7 =>
                    rw [if_neg h7] at h
                    exact absurd h hwr
              next h6 =>
                rw [if_neg h6] at h
                split
                · exact ⟨[c], rfl, by simp⟩
                next h7 =>
                  rw [if_neg h7] at h
                  split
                  next h8 =>
                    cases r with
                    | nil =>
                      rcases h8 with h8 | h8
                      · cases h8.2
                      · cases h8.2
                    | cons c2 r => exact ⟨[c, c2], rfl, by simp⟩
                  next h8 =>
                    rw [if_neg h8] at h
                    split
                    · exact ⟨[c], rfl, by simp⟩
                    next h9 =>
                      rw [if_neg h9] at h
                      exact absurd h hwr
