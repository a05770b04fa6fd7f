-- what is read: characters of names
def gdC (c : Nat) : Prop := (c = 9 ∨ c = 10 ∨ 32 ≤ c) ∧ c ≤ 126
theorem esc_gd {d x : Nat} (h : esc d = some x) (hd : 32 ≤ d ∧ d ≤ 126) : gdC x := by
  unfold esc at h
  unfold gdC
  split at h
  · cases h; omega
  · split at h
    · cases h; omega
    · split at h
      · cases h; omega
      · cases h
theorem qt_gd : ∀ {n : Nat} {s : List Nat} {q : List Nat × List Nat}, qt n s = some q → (∀ c ∈ s, 32 ≤ c ∧ c ≤ 126) → ∀ c ∈ q.1, gdC c
  | 0, s, q, h, _ => by cases h
  | n + 1, [], q, h, _ => by cases h
  | n + 1, c :: r, q, h, hs => by
    have hr : ∀ x ∈ r, 32 ≤ x ∧ x ≤ 126 := fun x hx => hs x (List.mem_cons_of_mem _ hx)
    have hc := hs c List.mem_cons_self
    have hcg : gdC c := ⟨Or.inr (Or.inr hc.1), hc.2⟩
    unfold qt at h
    split at h
    · split at h
      next hh =>
        cases hq : qt n r.tail with
        | none =>
          rw [hq] at h
          cases h
        | some q' =>
          rw [hq] at h
          cases h
          intro x hx
          rcases List.mem_cons.mp hx with e | e
          · rw [e]
            exact ⟨Or.inr (Or.inr (by decide)), by decide⟩
          · exact qt_gd hq (fun y hy => hr y (List.mem_of_mem_tail hy)) x e
      next =>
        cases h
        intro x hx
        exact absurd hx List.not_mem_nil
    · split at h
      · cases r with
        | nil => cases h
        | cons d r2 =>
          dsimp only at h
          cases hx : esc d with
          | none =>
            rw [hx] at h
            cases h
          | some x =>
            rw [hx] at h
            dsimp only at h
            cases hq : qt n r2 with
            | none =>
              rw [hq] at h
              cases h
            | some q' =>
              rw [hq] at h
              cases h
              intro y hy
              rcases List.mem_cons.mp hy with e | e
              · rw [e]
                exact esc_gd hx (hr d List.mem_cons_self)
              · exact qt_gd hq (fun z hz => hr z (List.mem_cons_of_mem _ hz)) y e
      · cases hq : qt n r with
        | none =>
          rw [hq] at h
          cases h
        | some q' =>
          rw [hq] at h
          cases h
          intro x hx
          rcases List.mem_cons.mp hx with e | e
          · rw [e]
            exact hcg
          · exact qt_gd hq hr x e
theorem lexT_gd {s : List Nat} (hs : ∀ c ∈ s, 32 ≤ c ∧ c ≤ 126) : ∀ c ∈ (lexT s).2.2.1, gdC c := by
  have hsub : ∀ {l : List Nat}, (∀ c ∈ l, c ∈ s) → ∀ c ∈ l, gdC c := fun h c hc => by
    have := hs c (h c hc)
    exact ⟨Or.inr (Or.inr this.1), this.2⟩
  cases s with
  | nil =>
    intro c hc
    exact absurd hc List.not_mem_nil
  | cons c r =>
    generalize hq : lexT (c :: r) = q
    rw [lexT_cons] at hq
    repeat' split at hq
    all_goals subst hq
    all_goals first
      | (intro x hx; exact absurd hx List.not_mem_nil)
      | exact hsub (fun x hx => (List.takeWhile_sublist _).subset hx)
      | exact hsub (fun x hx => List.mem_of_mem_take hx)
      | exact fun x hx => hsub (l := [c]) (fun y hy => (List.mem_singleton.mp hy).symm ▸ List.mem_cons_self) x hx
      | (rename_i hq _; exact qt_gd hq (fun x hx => hs x (List.mem_cons_of_mem _ hx)))
      | (rename_i hq _; obtain ⟨w, e1, e2, e3⟩ := strq_sfx hq; exact hsub (fun x hx => by
          rw [← e3] at hx
          exact List.mem_cons_of_mem _ (List.mem_of_mem_take hx)))
      | skip
theorem lexT_nm {s : List Nat} (h : (lexT s).1 = 1 ∨ (lexT s).1 = 2) : (lexT s).2.2.1.length ≤ 24 ∧ ∃ w, s = w ++ (lexT s).2.2.2 ∧ 1 ≤ w.length ∧ (lexT s).2.2.1.length ≤ w.length := by
  cases s with
  | nil =>
    rcases h with h | h
    · exact absurd h (by decide)
    · exact absurd h (by decide)
  | cons c r =>
    have span : ∀ f : Nat → Bool, f c = true → ∃ w, c :: r = w ++ (c :: r).dropWhile f ∧ 1 ≤ w.length ∧ ((c :: r).takeWhile f).length ≤ w.length := fun f hf => ⟨_, (span_sfx hf).1, (span_sfx hf).2, Nat.le_refl _⟩
    by_cases h1 : isSm c = true
    · rw [lexT_cons, if_pos h1] at h ⊢
      split
      next h2 => exact ⟨h2, span isWd (by simp [isWd, h1])⟩
      next h2 =>
        rw [if_neg h2] at h
        exact absurd h (by decide)
    · by_cases h2 : isLg c = true ∨ c = 95
      · rw [lexT_cons, if_neg h1, if_pos h2] at h ⊢
        split
        next h3 => exact ⟨h3, span isWd (by rcases h2 with h2 | h2 <;> simp [isWd, h2])⟩
        next h3 =>
          rw [if_neg h3] at h
          exact absurd h (by decide)
      · by_cases h3 : isDg c = true
        · rw [lexT_cons, if_neg h1, if_neg h2, if_pos h3] at h
          exfalso
          cases hq : lexN c r with
          | none =>
            rw [hq] at h
            exact absurd h (by decide)
          | some q =>
            rw [hq] at h
            simp at h
        · by_cases h4 : isSg c = true
          · rw [lexT_cons, if_neg h1, if_neg h2, if_neg h3, if_pos h4] at h ⊢
            split
            next h5 =>
              rw [if_pos h5] at h
              simp at h
            next h5 =>
              rw [if_neg h5] at h
              split
              next h6 => exact ⟨h6, span isSg h4⟩
              next h6 =>
                rw [if_neg h6] at h
                exact absurd h (by decide)
          · by_cases h5 : c = 39
            · rw [lexT_cons, if_neg h1, if_neg h2, if_neg h3, if_neg h4, if_pos h5] at h ⊢
              cases hq : qt 120 r with
              | none =>
                rw [hq] at h
                exact absurd h (by decide)
              | some q =>
                rw [hq] at h
                dsimp only at h ⊢
                split
                next h6 =>
                  obtain ⟨w, e, hw⟩ := qt_sfx hq
                  refine ⟨h6, c :: w, ?_, by simp, ?_⟩
                  · dsimp only
                    rw [List.cons_append, ← e]
                  · rw [List.length_cons]
                    dsimp only
                    omega
                next h6 =>
                  rw [if_neg h6] at h
                  exact absurd h (by decide)
            · by_cases h6 : c = 34
              · rw [lexT_cons, if_neg h1, if_neg h2, if_neg h3, if_neg h4, if_neg h5, if_pos h6] at h
                exfalso
                cases hq : strq r with
                | none =>
                  rw [hq] at h
                  exact absurd h (by decide)
                | some q =>
                  rw [hq] at h
                  dsimp only at h
                  split at h
                  · simp at h
                  · exact absurd h (by decide)
              · by_cases h7 : c = 33 ∨ c = 59
                · rw [lexT_cons, if_neg h1, if_neg h2, if_neg h3, if_neg h4, if_neg h5, if_neg h6, if_pos h7]
                  exact ⟨by simp, [c], rfl, by simp, by simp⟩
                · by_cases h8 : (c = 91 ∧ r.head? = some 93) ∨ (c = 123 ∧ r.head? = some 125)
                  · rw [lexT_cons, if_neg h1, if_neg h2, if_neg h3, if_neg h4, if_neg h5, if_neg h6, if_neg h7, if_pos h8]
                    cases r with
                    | nil =>
                      rcases h8 with h8 | h8
                      · cases h8.2
                      · cases h8.2
                    | cons c2 r => exact ⟨by simp, [c, c2], rfl, by simp, by simp⟩
                  · exfalso
                    rw [lexT_cons, if_neg h1, if_neg h2, if_neg h3, if_neg h4, if_neg h5, if_neg h6, if_neg h7, if_neg h8] at h
                    split at h
                    · simp at h
                    · exact absurd h (by decide)
theorem nx_nm {s : List Nat} (h : (nx s).1 = 1 ∨ (nx s).1 = 2) : (nx s).2.2.1.length ≤ 24 ∧ ∃ w, s = w ++ (nx s).2.2.2 ∧ 1 ≤ w.length ∧ (nx s).2.2.1.length ≤ w.length := by
  obtain ⟨s', h1, h2⟩ := nx_lay (s := s) (by omega)
  rw [h2] at h ⊢
  obtain ⟨g0, w, e, hw1, hw2⟩ := lexT_nm h
  obtain ⟨w0, e0⟩ := lay_len h1
  exact ⟨g0, w0 ++ w, by rw [e0, List.append_assoc, ← e], by rw [List.length_append]; omega, by rw [List.length_append]; omega⟩
theorem nx_gd {s : List Nat} (hs : ∀ c ∈ s, 32 ≤ c ∧ c ≤ 126) : ∀ c ∈ (nx s).2.2.1, gdC c := by
  unfold nx
  cases hy : lay 121 s with
  | none =>
    intro c hc
    exact absurd hc List.not_mem_nil
  | some s' => exact lexT_gd (fun c hc => hs c ((lay_sfx hy).mem c hc))
