-- what the reader takes: suffixes and numbers of parts
theorem lexT_str {s : List Nat} (h : (lexT s).1 = 4) : ∃ w, s = w ++ (lexT s).2.2.2 ∧ (lexT s).2.2.1.length + 2 ≤ w.length ∧ (lexT s).2.2.1.length ≤ 12 ∧ (s.drop 1).take (lexT s).2.2.1.length = (lexT s).2.2.1 := by
  cases s with
  | nil => exact absurd h (by decide)
  | cons c r =>
    generalize hq : lexT (c :: r) = q at h ⊢
    rw [lexT_cons] at hq
    repeat' split at hq
    all_goals subst hq
    all_goals first
      | (exfalso; revert h; simp [wrg]; done)
      | skip
    rename_i q hs hle
    obtain ⟨w, e1, e2, e3⟩ := strq_sfx hs
    refine ⟨c :: w, ?_, ?_, hle, e3⟩
    · dsimp only
      rw [List.cons_append, ← e1]
    · rw [List.length_cons]
      dsimp only
      omega
theorem nx_lay {s : List Nat} (h : (nx s).1 < 6) : ∃ s', lay 121 s = some s' ∧ nx s = lexT s' := by
  unfold nx at h ⊢
  cases hy : lay 121 s with
  | none =>
    rw [hy] at h
    exact absurd h (by decide)
  | some s' => exact ⟨s', rfl, rfl⟩
theorem nx_sfx {s : List Nat} (h : (nx s).1 < 6) : ∃ w, s = w ++ (nx s).2.2.2 ∧ 1 ≤ w.length := by
  obtain ⟨s', h1, h2⟩ := nx_lay h
  rw [h2] at h ⊢
  obtain ⟨w, e, hw⟩ := lexT_sfx h
  obtain ⟨w0, e0⟩ := lay_len h1
  exact ⟨w0 ++ w, by rw [e0, List.append_assoc, ← e], by rw [List.length_append]; omega⟩
theorem nx_str {s : List Nat} (h : (nx s).1 = 4) : ∃ w, s = w ++ (nx s).2.2.2 ∧ (nx s).2.2.1.length + 2 ≤ w.length ∧ (nx s).2.2.1.length ≤ 12 := by
  obtain ⟨s', h1, h2⟩ := nx_lay (s := s) (by omega)
  rw [h2] at h ⊢
  obtain ⟨w, e, hw, hw2, _⟩ := lexT_str h
  obtain ⟨w0, e0⟩ := lay_len h1
  exact ⟨w0 ++ w, by rw [e0, List.append_assoc, ← e], by rw [List.length_append]; omega, hw2⟩
theorem strL_len : ∀ w, (strL w).length = 2 * w.length + 1
  | [] => rfl
  | c :: w => by
    rw [strL, List.length_cons, List.length_cons, strL_len w, List.length_cons]
    omega
/-- s' is left of s, and n parts cost no more than twice the characters between -/
def tk2 (s : List Nat) (n : Nat) (s' : List Nat) : Prop := ∃ w, s = w ++ s' ∧ n ≤ 2 * w.length
theorem tk2.len {s s' : List Nat} {n : Nat} (h : tk2 s n s') : n + 2 * s'.length ≤ 2 * s.length := by
  obtain ⟨w, e, hw⟩ := h
  rw [e, List.length_append]
  omega
theorem tk2.sfx {s s' : List Nat} {n : Nat} (h : tk2 s n s') : ∃ w, s = w ++ s' := by
  obtain ⟨w, e, _⟩ := h
  exact ⟨w, e⟩
theorem tk2.trans {s s' s2 : List Nat} {n m : Nat} (h : tk2 s n s') (h' : tk2 s' m s2) : tk2 s (n + m) s2 := by
  obtain ⟨w, e, hw⟩ := h
  obtain ⟨w', e', hw'⟩ := h'
  exact ⟨w ++ w', by rw [e, e', List.append_assoc], by rw [List.length_append]; omega⟩
theorem tk2.le {s s' : List Nat} {n m : Nat} (h : tk2 s n s') (hm : m ≤ n) : tk2 s m s' := by
  obtain ⟨w, e, hw⟩ := h
  exact ⟨w, e, by omega⟩
theorem nx_tk2 {s : List Nat} (h : (nx s).1 < 6) : tk2 s 2 (nx s).2.2.2 := by
  obtain ⟨w, e, hw⟩ := nx_sfx h
  exact ⟨w, e, by omega⟩
theorem isMk_k {s : List Nat} {c : Nat} (h : isMk s c = true) : (nx s).1 = 5 ∧ (nx s).2.1 = c := by
  simpa [isMk] using h
def rsI (s : List Nat) (x : xRs) : Prop := tk2 s x.1.length x.2.2.1.1 ∧ 1 ≤ x.1.length ∧ 1 ≤ x.2.1 ∧ x.2.2.2 ≤ 1200
theorem opB_k {sl : List xSl} {q : xTok} {e : xSl} (hsl : ∀ e ∈ sl, ¬ e.1 = 0) (h : opB sl (tK q) = some e) : q.1 < 6 := by
  unfold opB at h
  rcases Nat.lt_or_ge q.1 6 with z | z
  · exact z
  · exfalso
    have hk : tK q = 0 := by
      unfold tK
      rw [if_neg (by omega), if_neg (by omega)]
    rw [hk] at h
    cases hf : fnd false 0 sl 0 with
    | none =>
      rw [hf] at h
      cases h
    | some i =>
      obtain ⟨_, e', h1, h2, _⟩ := fnd_some hf
      exact hsl e' (List.mem_of_getElem? h1) h2
theorem slE_mem {sl : List xSl} {o : Option Nat} {e : xSl} (h : slE sl o = some e) : e ∈ sl := by
  cases o with
  | none => cases h
  | some i => exact List.mem_of_getElem? h
theorem rst_I {sl : List xSl} {T : Int → xSt → Option xRs} (hsl : ∀ e ∈ sl, ¬ e.1 = 0 ∧ e.2.1 ≤ 1200) (hT : ∀ most st x, T most st = some x → rsI st.1 x) : ∀ (n : Nat) (most : Int) (s : List Nat) (y x : xRs), rsI s y → rst sl T n most y = some x → rsI s x
  | 0, most, s, y, x, hy, h => by cases h
  | n + 1, most, s, (L, D, st, pr), x, hy, h => by
    unfold rst at h
    split at h
    · cases h
    · cases ho : opB sl (tK (nx st.1)) with
      | none =>
        rw [ho] at h
        cases h
        exact hy
      | some e =>
        rw [ho] at h
        dsimp only at h
        have hk := opB_k (fun e he => (hsl e he).1) ho
        have h2 := nx_tk2 hk
        have hp := (hsl e (slE_mem ho)).2
        obtain ⟨y1, y2, y3, y4⟩ := hy
        dsimp only at y1 y2 y3 y4
        split at h
        · split at h
          · split at h
            · cases hr : T (oRight (some e)) ((nx st.1).2.2.2, st.2) with
              | none =>
                rw [hr] at h
                cases h
              | some z =>
                obtain ⟨R, DR, st', pr'⟩ := z
                rw [hr] at h
                obtain ⟨z1, z2, z3, z4⟩ := hT _ _ _ hr
                dsimp only at z1 z2 z3 z4 h
                refine rst_I hsl hT n most s _ x ⟨?_, by simp, by dsimp only; omega, hp⟩ h
                refine ((y1.trans h2).trans z1).le ?_
                simp <;> omega
            · cases h
              exact ⟨y1, y2, y3, y4⟩
          · refine rst_I hsl hT n most s _ x ⟨?_, by simp, by dsimp only; omega, hp⟩ h
            refine (y1.trans h2).le ?_
            simp <;> omega
        · cases h
          exact ⟨y1, y2, y3, y4⟩
theorem args_I {T : Int → xSt → Option xRs} (hT : ∀ most st x, T most st = some x → rsI st.1 x) : ∀ (n : Nat) (st : xSt) (x : List xIt × Nat × Nat × xSt), args T n st = some x → tk2 st.1 (x.1.length + 1) x.2.2.2.1 ∧ 1 ≤ x.2.1 ∧ x.2.1 ≤ n ∧ 1 ≤ x.2.2.1
  | 0, st, x, h => by cases h
  | n + 1, st, x, h => by
    unfold args at h
    cases hr : T 999 st with
    | none =>
      rw [hr] at h
      cases h
    | some z =>
      obtain ⟨R, DR, st', pr'⟩ := z
      rw [hr] at h
      obtain ⟨z1, z2, z3, z4⟩ := hT _ _ _ hr
      dsimp only at z1 z2 z3 z4 h
      split at h
      next hm =>
        have h2 := nx_tk2 (s := st'.1) (by rw [(isMk_k hm).1]; omega)
        cases ha : args T n ((nx st'.1).2.2.2, st'.2) with
        | none =>
          rw [ha] at h
          cases h
        | some y =>
          obtain ⟨As, k, DA, st2⟩ := y
          rw [ha] at h
          cases h
          obtain ⟨a1, a2, a3, a4⟩ := args_I hT n _ _ ha
          dsimp only at a1 a2 a3 a4 ⊢
          refine ⟨((z1.trans h2).trans a1).le (by simp <;> omega), by omega, by omega, by omega⟩
      next =>
        split at h
        next hm =>
          have h2 := nx_tk2 (s := st'.1) (by rw [(isMk_k hm).1]; omega)
          cases h
          dsimp only
          exact ⟨(z1.trans h2).le (by omega), by omega, by omega, by omega⟩
        next => cases h
theorem lst_I {T : Int → xSt → Option xRs} (hT : ∀ most st x, T most st = some x → rsI st.1 x) : ∀ (n : Nat) (st : xSt) (x : List xIt × Nat × xSt), lst T n st = some x → tk2 st.1 (x.1.length) x.2.2.1 ∧ 1 ≤ x.1.length ∧ 1 ≤ x.2.1
  | 0, st, x, h => by cases h
  | n + 1, st, x, h => by
    unfold lst at h
    cases hr : T 999 st with
    | none =>
      rw [hr] at h
      cases h
    | some z =>
      obtain ⟨E, DE, st', pr'⟩ := z
      rw [hr] at h
      obtain ⟨z1, z2, z3, z4⟩ := hT _ _ _ hr
      dsimp only at z1 z2 z3 z4 h
      split at h
      next hm =>
        have h2 := nx_tk2 (s := st'.1) (by rw [(isMk_k hm).1]; omega)
        cases ha : lst T n ((nx st'.1).2.2.2, st'.2) with
        | none =>
          rw [ha] at h
          cases h
        | some y =>
          obtain ⟨M, DM, st2⟩ := y
          rw [ha] at h
          cases h
          obtain ⟨a1, a2, a3⟩ := lst_I hT n _ _ ha
          dsimp only at a1 a2 a3 ⊢
          exact ⟨((z1.trans h2).trans a1).le (by simp <;> omega), by simp, by omega⟩
      next =>
        split at h
        next hm =>
          have h2 := nx_tk2 (s := st'.1) (by rw [(isMk_k hm).1]; omega)
          cases ha : T 999 ((nx st'.1).2.2.2, st'.2) with
          | none =>
            rw [ha] at h
            cases h
          | some y =>
            obtain ⟨M, DM, st2, pr2⟩ := y
            rw [ha] at h
            obtain ⟨a1, a2, a3, a4⟩ := hT _ _ _ ha
            dsimp only at a1 a2 a3 a4 h
            split at h
            next hm2 =>
              have h3 := nx_tk2 (s := st2.1) (by rw [(isMk_k hm2).1]; omega)
              cases h
              dsimp only
              exact ⟨(((z1.trans h2).trans a1).trans h3).le (by simp <;> omega), by simp, by omega⟩
            next => cases h
        next =>
          split at h
          next hm =>
            have h2 := nx_tk2 (s := st'.1) (by rw [(isMk_k hm).1]; omega)
            cases h
            dsimp only
            exact ⟨(z1.trans h2).le (by simp <;> omega), by simp, by omega⟩
          next => cases h
theorem fst1_I {sl : List xSl} {T : Int → xSt → Option xRs} (hsl : ∀ e ∈ sl, ¬ e.1 = 0 ∧ e.2.1 ≤ 1200) (hT : ∀ most st x, T most st = some x → rsI st.1 x) {most : Int} {st : xSt} {x : xRs} (h : fst1 sl T most st = some x) : rsI st.1 x := by
  unfold fst1 at h
  split at h
  next h1 =>
    have h2 := nx_tk2 (s := st.1) (by omega)
    cases h
    exact ⟨h2.le (by simp), by simp, by simp, by simp⟩
  next h1 =>
    split at h
    next h3 =>
      have h2 := nx_tk2 (s := st.1) (by omega)
      cases h
      exact ⟨h2.le (by simp), by simp, by simp, by simp⟩
    next h3 =>
      split at h
      next h4 =>
        obtain ⟨w, e, hw, _⟩ := nx_str h4
        cases h
        refine ⟨⟨w, e, ?_⟩, ?_, by simp, by simp⟩
        · dsimp only
          rw [strL_len]
          omega
        · dsimp only
          rw [strL_len]
          omega
      next h4 =>
        split at h
        next h5 =>
          have h2 := nx_tk2 (s := st.1) (by omega)
          split at h
          · split at h
            next h6 =>
              have h7 := nx_tk2 (s := (nx st.1).2.2.2) (by omega)
              cases h
              exact ⟨(h2.trans h7).le (by simp), by simp, by simp, by simp⟩
            next => cases h
          · split at h
            next h6 =>
              have hc : (nx st.1).2.2.2.head? = some 40 := by
                simp [isCal] at h6
                exact h6.2
              cases ha : args T 6 ((nx st.1).2.2.2.tail, st.2) with
              | none =>
                rw [ha] at h
                cases h
              | some y =>
                obtain ⟨As, k, DA, st'⟩ := y
                rw [ha] at h
                cases h
                obtain ⟨a1, a2, a3, a4⟩ := args_I hT 6 _ _ ha
                dsimp only at a1 a2 a3 a4
                have ht : tk2 (nx st.1).2.2.2 2 (nx st.1).2.2.2.tail := by
                  cases hr : (nx st.1).2.2.2 with
                  | nil =>
                    rw [hr] at hc
                    cases hc
                  | cons c r => exact ⟨[c], rfl, by simp⟩
                exact ⟨((h2.trans ht).trans a1).le (by simp <;> omega), by simp, by dsimp only; omega, by simp⟩
            next =>
              cases hp : pfx sl most st.1 with
              | none =>
                rw [hp] at h
                cases h
                exact ⟨h2.le (by simp), by simp, by simp, by simp⟩
              | some e =>
                rw [hp] at h
                dsimp only at h
                cases hr : T (oRight (some e)) ((nx st.1).2.2.2, st.2) with
                | none =>
                  rw [hr] at h
                  cases h
                | some z =>
                  obtain ⟨R, DR, st', pr'⟩ := z
                  rw [hr] at h
                  cases h
                  obtain ⟨z1, z2, z3, z4⟩ := hT _ _ _ hr
                  dsimp only at z1 z2 z3 z4
                  have he : e ∈ sl := by
                    unfold pfx at hp
                    split at hp
                    · cases hx : opP sl (tK (nx st.1)) with
                      | none =>
                        rw [hx] at hp
                        cases hp
                      | some e' =>
                        rw [hx] at hp
                        dsimp only at hp
                        split at hp
                        · cases hp
                          exact slE_mem hx
                        · cases hp
                    · cases hp
                  exact ⟨(h2.trans z1).le (by simp <;> omega), by simp, by dsimp only; omega, (hsl e he).2⟩
        next h5 =>
          split at h
          next hm =>
            have h2 := nx_tk2 (s := st.1) (by rw [(isMk_k hm).1]; omega)
            cases hr : T 1200 ((nx st.1).2.2.2, st.2) with
            | none =>
              rw [hr] at h
              cases h
            | some z =>
              obtain ⟨R, DR, st', pr'⟩ := z
              rw [hr] at h
              obtain ⟨z1, z2, z3, z4⟩ := hT _ _ _ hr
              dsimp only at z1 z2 z3 z4 h
              split at h
              next hm2 =>
                have h3 := nx_tk2 (s := st'.1) (by rw [(isMk_k hm2).1]; omega)
                cases h
                exact ⟨((h2.trans z1).trans h3).le (by dsimp only; omega), z2, z3, by simp⟩
              next => cases h
          next =>
            split at h
            next hm =>
              have h2 := nx_tk2 (s := st.1) (by rw [(isMk_k hm).1]; omega)
              cases hr : T 1200 ((nx st.1).2.2.2, st.2) with
              | none =>
                rw [hr] at h
                cases h
              | some z =>
                obtain ⟨R, DR, st', pr'⟩ := z
                rw [hr] at h
                obtain ⟨z1, z2, z3, z4⟩ := hT _ _ _ hr
                dsimp only at z1 z2 z3 z4 h
                split at h
                next hm2 =>
                  have h3 := nx_tk2 (s := st'.1) (by rw [(isMk_k hm2).1]; omega)
                  cases h
                  exact ⟨((h2.trans z1).trans h3).le (by simp <;> omega), by simp, by dsimp only; omega, by simp⟩
                next => cases h
            next =>
              split at h
              next hm =>
                have h2 := nx_tk2 (s := st.1) (by rw [(isMk_k hm).1]; omega)
                cases ha : lst T 120 ((nx st.1).2.2.2, st.2) with
                | none =>
                  rw [ha] at h
                  cases h
                | some y =>
                  obtain ⟨M, DM, st'⟩ := y
                  rw [ha] at h
                  cases h
                  obtain ⟨a1, a2, a3⟩ := lst_I hT 120 _ _ ha
                  dsimp only at a1 a2 a3
                  exact ⟨(h2.trans a1).le (by dsimp only; omega), a2, a3, by simp⟩
              next => cases h
theorem tmF_I {sl : List xSl} (hsl : ∀ e ∈ sl, ¬ e.1 = 0 ∧ e.2.1 ≤ 1200) : ∀ (n : Nat) (most : Int) (st : xSt) (x : xRs), tmF sl n most st = some x → rsI st.1 x
  | 0, most, st, x, h => by cases h
  | n + 1, most, st, x, h => by
    unfold tmF at h
    cases hf : fst1 sl (tmF sl n) most st with
    | none =>
      rw [hf] at h
      cases h
    | some y =>
      rw [hf] at h
      exact rst_I hsl (tmF_I hsl n) 120 most st.1 y x (fst1_I hsl (tmF_I hsl n) hf) h
