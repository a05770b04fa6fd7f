-- what the rows of tokens say of the text
theorem lexT_mark {s : List Nat} (h : (lexT s).1 = 5) : s = (lexT s).2.1 :: (lexT s).2.2.2 := by
  cases s with
  | nil => exact absurd h (by decide)
  | cons c r =>
    generalize hq : lexT (c :: r) = q at h ⊢
    rw [lexT_cons] at hq
    repeat' split at hq
    all_goals subst hq
    all_goals first
      | (exfalso; revert h; simp [wrg]; done)
      | rfl
theorem lexT_num {s : List Nat} (h : (lexT s).1 = 3) : dgH s = true := by
  cases s with
  | nil => exact absurd h (by decide)
  | cons c r =>
    generalize hq : lexT (c :: r) = q at h
    rw [lexT_cons] at hq
    repeat' split at hq
    all_goals subst hq
    all_goals first
      | (exfalso; revert h; simp [wrg]; done)
      | assumption
theorem dg_not {c : Nat} (h : isDg c = true) : isSm c = false ∧ isLg c = false ∧ ¬ c = 95 ∧ ¬ c = 32 ∧ ¬ c = 37 ∧ ¬ c = 47 := by
  simp [isDg] at h
  refine ⟨?_, ?_, by omega, by omega, by omega, by omega⟩
  · simp [isSm]
    omega
  · simp [isLg]
    omega
theorem lexT_dig {s : List Nat} (h : dgH s = true) : (lexT s).1 = 3 ∨ (lexT s).1 = 7 := by
  cases s with
  | nil => cases h
  | cons c r =>
    have hd : isDg c = true := h
    obtain ⟨h1, h2, h3, _⟩ := dg_not hd
    rw [lexT_cons, if_neg (by rw [h1]; decide), if_neg (by rw [h2]; simp [h3]), if_pos hd]
    cases lexN c r with
    | none => exact Or.inr rfl
    | some q => exact Or.inl rfl
theorem lay_stay {n c : Nat} {r : List Nat} (h1 : ¬ c = 32) (h2 : ¬ c = 37) (h3 : ¬ c = 47) : lay (n + 1) (c :: r) = some (c :: r) := by
  unfold lay
  rw [if_neg h1, if_neg h2, if_neg (fun z => h3 z.1)]
theorem kL_eq {l k : List Nat} (hl : ∀ c ∈ l, c < 256 ∧ ¬ c = 0) (hk : ∀ c ∈ k, c < 256 ∧ ¬ c = 0) (h1 : 1 ≤ k.length) (h8 : k.length ≤ 8) : kL l = lN (pn k) ↔ l = k := by
  constructor
  · intro h
    unfold kL at h
    split at h
    next hh => exact lNpn_inj hl hk hh.2 h8 h
    next =>
      exfalso
      have e : lN (pn []) = lN (pn k) := h
      have := lNpn_inj (fun c hc => absurd hc List.not_mem_nil) hk (by simp) h8 e
      rw [← this] at h1
      simp at h1
  · intro h
    subst h
    unfold kL
    rw [if_pos ⟨h1, h8⟩]
theorem qt_chr : ∀ {n : Nat} {s : List Nat} {q : List Nat × List Nat}, qt n s = some q → (∀ c ∈ s, 32 ≤ c ∧ c ≤ 126) → ∀ c ∈ q.1, 9 ≤ c ∧ c ≤ 126
  | 0, s, q, h, _ => by cases h
  | n + 1, [], q, h, _ => by cases h
  | n + 1, c :: r, q, h, hs => by
    have hr : ∀ x ∈ r, 32 ≤ x ∧ x ≤ 126 := fun x hx => hs x (List.mem_cons_of_mem _ hx)
    have hc := hs c List.mem_cons_self
    unfold qt at h
    split at h
    · split at h
      next hh =>
        cases hq : qt n r.tail with
        | none =>
          rw [hq] at h
          cases h
        | some q' =>
          rw [hq] at h
          cases h
          intro x hx
          rcases List.mem_cons.mp hx with e | e
          · omega
          · exact qt_chr hq (fun y hy => hr y (List.mem_of_mem_tail hy)) x e
      next =>
        cases h
        intro x hx
        exact absurd hx List.not_mem_nil
    · split at h
      · cases r with
        | nil => cases h
        | cons d r2 =>
          dsimp only at h
          cases hx : esc d with
          | none =>
            rw [hx] at h
            cases h
          | some x =>
            rw [hx] at h
            dsimp only at h
            cases hq : qt n r2 with
            | none =>
              rw [hq] at h
              cases h
            | some q' =>
              rw [hq] at h
              cases h
              have hd := hr d List.mem_cons_self
              have hx9 : 9 ≤ x ∧ x ≤ 126 := by
                unfold esc at hx
                split at hx
                · cases hx; omega
                · split at hx
                  · cases hx; omega
                  · split at hx
                    · cases hx; omega
                    · cases hx
              intro y hy
              rcases List.mem_cons.mp hy with e | e
              · omega
              · exact qt_chr hq (fun z hz => hr z (List.mem_cons_of_mem _ hz)) y e
      · cases hq : qt n r with
        | none =>
          rw [hq] at h
          cases h
        | some q' =>
          rw [hq] at h
          cases h
          intro x hx
          rcases List.mem_cons.mp hx with e | e
          · omega
          · exact qt_chr hq hr x e
theorem lexT_chr {s : List Nat} (hs : ∀ c ∈ s, 32 ≤ c ∧ c ≤ 126) : ∀ c ∈ (lexT s).2.2.1, 9 ≤ c ∧ c ≤ 126 := by
  have hsub : ∀ {l : List Nat}, (∀ c ∈ l, c ∈ s) → ∀ c ∈ l, 9 ≤ c ∧ c ≤ 126 := fun h c hc => by
    have := hs c (h c hc)
    omega
  cases s with
  | nil =>
    intro c hc
    exact absurd hc List.not_mem_nil
  | cons c r =>
    generalize hq : lexT (c :: r) = q
    rw [lexT_cons] at hq
    repeat' split at hq
    all_goals subst hq
    all_goals first
      | (intro x hx; exact absurd hx List.not_mem_nil)
      | exact hsub (fun x hx => (List.takeWhile_sublist _).subset hx)
      | exact hsub (fun x hx => List.mem_of_mem_take hx)
      | exact fun x hx => hsub (l := [c]) (fun y hy => (List.mem_singleton.mp hy).symm ▸ List.mem_cons_self) x hx
      | (rename_i hq _; exact qt_chr hq (fun x hx => hs x (List.mem_cons_of_mem _ hx)))
      | (rename_i hq _; obtain ⟨w, e1, e2, e3⟩ := strq_sfx hq; exact hsub (fun x hx => by
          rw [← e3] at hx
          exact List.mem_cons_of_mem _ (List.mem_of_mem_take hx)))
      | skip
/-- s is what is left of t -/
def sfx (t s : List Nat) : Prop := ∃ w, t = w ++ s
theorem sfx.trans {t s r : List Nat} (h : sfx t s) (h' : sfx s r) : sfx t r := by
  obtain ⟨w, e⟩ := h
  obtain ⟨w', e'⟩ := h'
  exact ⟨w ++ w', by rw [e, e', List.append_assoc]⟩
theorem sfx.drop {t s : List Nat} (h : sfx t s) : t.drop (t.length - s.length) = s ∧ s.length ≤ t.length := by
  obtain ⟨w, e⟩ := h
  have hl : t.length = w.length + s.length := by rw [e, List.length_append]
  refine ⟨?_, by omega⟩
  rw [show t.length - s.length = w.length by omega, e, List.drop_left]
theorem sfx.mem {t s : List Nat} (h : sfx t s) : ∀ c ∈ s, c ∈ t := by
  obtain ⟨w, e⟩ := h
  intro c hc
  rw [e]
  exact List.mem_append_right _ hc
theorem sfx.eq {s r : List Nat} (h : sfx s r) (hl : s.length = r.length) : s = r := by
  obtain ⟨w, e⟩ := h
  have : w.length = 0 := by
    rw [e, List.length_append] at hl
    omega
  rw [e, List.length_eq_zero_iff.mp this, List.nil_append]
theorem nx_sfx' {s : List Nat} (h : (nx s).1 < 6) : sfx s (nx s).2.2.2 := by
  obtain ⟨w, e, _⟩ := nx_sfx h
  exact ⟨w, e⟩
theorem lay_sfx {n : Nat} {s s' : List Nat} (h : lay n s = some s') : sfx s s' := lay_len h
theorem nx_chr {s : List Nat} (hs : ∀ c ∈ s, 32 ≤ c ∧ c ≤ 126) : ∀ c ∈ (nx s).2.2.1, 9 ≤ c ∧ c ≤ 126 := by
  unfold nx
  cases hy : lay 121 s with
  | none =>
    intro c hc
    exact absurd hc List.not_mem_nil
  | some s' => exact lexT_chr (fun c hc => hs c ((lay_sfx hy).mem c hc))
theorem nx_stay {c : Nat} {r : List Nat} (h1 : ¬ c = 32) (h2 : ¬ c = 37) (h3 : ¬ c = 47) : nx (c :: r) = lexT (c :: r) := by
  unfold nx
  rw [lay_stay h1 h2 h3]
section TA
variable {t nm : List Nat} {G : xG} {u m a : Nat} {s : List Nat} {vs : List (List Nat)}
theorem TA_E (h : xTA t nm G u m a s vs) : a < u ∧ (nx s).1 < 6 ∧ ∃ s', lay 121 s = some s' ∧ nx s = lexT s' ∧ tkE t nm G a (t.length - s'.length) vs (nx s) := by
  cases m with
  | zero => exact h.elim
  | succ m =>
    obtain ⟨h1, _, s', h2, h3, h4, h5⟩ := h
    have e : nx s = lexT s' := by
      unfold nx
      rw [h2]
    rw [e]
    exact ⟨h1, h3, s', h2, rfl, h4⟩
theorem TA_next (h : xTA t nm G u m a s vs) (hk : ¬ (nx s).1 = 0) : ∃ m', xTA t nm G u m' (a + 1) (nx s).2.2.2 (vsx vs (nx s)) := by
  cases m with
  | zero => exact h.elim
  | succ m =>
    obtain ⟨h1, _, s', h2, h3, h4, h5⟩ := h
    have e : nx s = lexT s' := by
      unfold nx
      rw [h2]
    rw [e] at hk ⊢
    rcases h5 with h5 | h5
    · exact absurd h5.1 hk
    · exact ⟨m, h5.2⟩
theorem TA_end (h : xTA t nm G u m a s vs) (hk : (nx s).1 = 0) : u = a + 1 := by
  cases m with
  | zero => exact h.elim
  | succ m =>
    obtain ⟨h1, _, s', h2, h3, h4, h5⟩ := h
    have e : nx s = lexT s' := by
      unfold nx
      rw [h2]
    rw [e] at hk
    rcases h5 with h5 | h5
    · exact h5.2
    · exact absurd hk h5.1
theorem TA_vs (h : xTA t nm G u m a s vs) : vs.length ≤ a := by
  cases m with
  | zero => exact h.elim
  | succ m => exact h.2.1
theorem TA_kind (h : xTA t nm G u m a s vs) : (G.1 a).toInt = ((nx s).1 : Int) := by
  obtain ⟨_, h2, s', _, _, h5⟩ := TA_E h
  rw [h5.1, nI_toInt (by omega)]
theorem TA_key (h : xTA t nm G u m a s vs) : G.2.2.2.2.2 a = tK (nx s) := by
  obtain ⟨_, h2, s', _, _, h5⟩ := TA_E h
  unfold tK
  split
  next h1 =>
    obtain ⟨z, _, _, _, z4⟩ := h5.2.2.2.1 h1
    exact z4
  next h1 => exact h5.2.2.2.2.2.2.2.2 h1
theorem TA_val (h : xTA t nm G u m a s vs) (hk : (nx s).1 = 5 ∨ (nx s).1 = 3) : G.2.2.2.1 a = nI (nx s).2.1 := by
  obtain ⟨_, h2, s', _, _, h5⟩ := TA_E h
  rcases hk with hk | hk
  · exact h5.2.2.2.2.2.2.2.1 hk
  · exact h5.2.2.2.2.2.1 hk
end TA
theorem mk_lt {s : List Nat} (hs : ∀ c ∈ s, 32 ≤ c ∧ c ≤ 126) (h : (nx s).1 = 5) : (nx s).2.1 ≤ 126 := by
  obtain ⟨s', h1, h2⟩ := nx_lay (s := s) (by omega)
  rw [h2] at h ⊢
  have e := lexT_mark h
  have : (lexT s').2.1 ∈ (lexT s').2.1 :: (lexT s').2.2.2 := List.mem_cons_self
  rw [← e] at this
  exact (hs _ ((lay_sfx h1).mem _ this)).2
theorem TA_bgn {t nm : List Nat} {G : xG} {u m a : Nat} {s : List Nat} {vs : List (List Nat)} (h : xTA t nm G u m a s vs) (hs : ∀ c ∈ s, 32 ≤ c ∧ c ≤ 126) : (if a < u then bgT (G.1 a).toInt (G.2.2.2.1 a).toInt else false) = bgn (nx s) := by
  obtain ⟨h1, h2, _⟩ := TA_E h
  rw [if_pos h1, TA_kind h]
  unfold bgn
  rw [decide_eq_true h2, Bool.true_and]
  by_cases h5 : (nx s).1 = 5
  · rw [TA_val h (Or.inl h5), nI_toInt (by have := mk_lt hs h5; omega)]
  · unfold bgT
    have e5 : ¬ ((nx s).1 : Int) = 5 := by omega
    rw [if_neg e5, if_neg e5]
