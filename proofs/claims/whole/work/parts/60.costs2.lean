-- what is read: costs of first parts and of whole terms
theorem nx_num {s : List Nat} (h : (nx s).1 = 3) (hg : gds s) : (nx s).2.1 ≤ 2147483647 := by
  have := nx_val hg h
  omega
theorem cst1 (v : Int) : cst (1, v, [], 0) ≤ 11 ∧ (0 ≤ v → cst (1, v, [], 0) ≤ 10) := by
  unfold cst
  rw [if_neg (by simp), if_pos rfl]
  dsimp only
  constructor
  · split
    · omega
    · split <;> omega
  · intro h
    split
    · omega
    · first
        | omega
        | (rw [if_pos h]; omega)
theorem cst1s {c : Nat} (h : c ≤ 126) : cst (1, (c : Int), [], 0) = 3 := by
  unfold cst
  rw [if_neg (by simp), if_pos rfl, if_pos (by dsimp only; omega)]
theorem okN_0 : okN [] := ⟨by simp, fun c hc => absurd hc List.not_mem_nil⟩
theorem strL_J : ∀ (w : List Nat), gds w → cstL (strL w) = 6 * w.length + 8 ∧ ∀ p ∈ strL w, okP p
  | [], _ => ⟨rfl, fun p hp => by rw [List.mem_singleton.mp hp]; exact okP_nil⟩
  | c :: w, h => by
    obtain ⟨h1, h2⟩ := strL_J w (fun x hx => h x (List.mem_cons_of_mem _ hx))
    have hc := h c List.mem_cons_self
    constructor
    · rw [strL, cstL_c, cstL_c, h1, cst1s hc.2, cst_dot, List.length_cons]
      omega
    · intro p hp
      rw [strL] at hp
      rcases List.mem_cons.mp hp with q | q
      · rw [q]
        exact okP_dot
      · rcases List.mem_cons.mp q with q | q
        · rw [q]
          exact ⟨okN_0, fun z => absurd z (by simp), fun _ => ⟨by dsimp only; omega, by dsimp only; omega⟩⟩
        · exact h2 p q
theorem pfx_e {sl : List xSl} {most : Int} {s : List Nat} {e : xSl} (hp : pfx sl most s = some e) : e ∈ sl ∧ (nx s).1 = 1 ∧ isCal (nx s) = false ∧ isMin s (nx s) = false ∧ opP sl (tK (nx s)) = some e ∧ (e.2.1 : Int) ≤ most ∧ bgn (nx (nx s).2.2.2) = true ∧ bare sl (nx s).2.2.2 = false := by
  unfold pfx at hp
  split at hp
  next h1 =>
    cases hx : opP sl (tK (nx s)) with
    | none =>
      rw [hx] at hp
      cases hp
    | some e' =>
      rw [hx] at hp
      dsimp only at hp
      split at hp
      next h2 =>
        cases hp
        exact ⟨slE_mem hx, h1.1, h1.2.1, h1.2.2, rfl, h2.1, h2.2.1, h2.2.2⟩
      · cases hp
  · cases hp
theorem nil0 : cstL [] = 0 := rfl
theorem lexT_s4 {s : List Nat} (h : (lexT s).1 = 4) : ∀ c ∈ (lexT s).2.2.1, c ∈ s := by
  obtain ⟨w, e1, e2, e3, e4⟩ := lexT_str h
  intro c hc
  rw [← e4] at hc
  exact List.mem_of_mem_drop (List.mem_of_mem_take hc)
theorem nx_s4 {s : List Nat} (h : (nx s).1 = 4) (hg : gds s) : gds (nx s).2.2.1 := by
  obtain ⟨s', h1, h2⟩ := nx_lay (s := s) (by omega)
  rw [h2] at h ⊢
  obtain ⟨w0, e0⟩ := lay_len h1
  intro c hc
  exact hg c (by rw [e0]; exact List.mem_append_right _ (lexT_s4 h c hc))
theorem cst2 (w : List Nat) : cst (2, 0, w, 0) = 2 * w.length + 4 := rfl
theorem fst1_J {sl : List xSl} {T : Int → xSt → Option xRs} (hT : hypJ T) {most : Int} {st : xSt} {x : xRs} (hb : st.2.length + st.1.length ≤ 120) (hg : gds st.1) (h : fst1 sl T most st = some x) : rsJ st x.1 0 x.2.2.1 := by
  unfold fst1 at h
  split at h
  next h1 =>
    obtain ⟨h2, h2'⟩ := nx_tkc (s := st.1) (by omega)
    have hv := nx_num h1 hg
    cases h
    refine ⟨h2.le ?_, ?_, by dsimp only; omega⟩
    · dsimp only
      rw [cstL_c, nil0]
      have := (cst1 ((nx st.1).2.1 : Int)).2 (by omega)
      omega
    · intro p hp
      rw [List.mem_singleton.mp hp]
      exact ⟨okN_0, fun z => absurd z (by simp), fun _ => ⟨by dsimp only; omega, by dsimp only; omega⟩⟩
  next h1 =>
    split at h
    next h3 =>
      obtain ⟨h2, h2'⟩ := nx_tkc (s := st.1) (by omega)
      cases h
      have hl := vnx_len st.2 (nx st.1).2.2.1
      have hv := vno_le st.2 (nx st.1).2.2.1
      refine ⟨h2.le ?_, ?_, by dsimp only; omega⟩
      · dsimp only
        rw [cstL_c, nil0]
        exact (by decide : 4 + 0 + 0 ≤ 10)
      · intro p hp
        rw [List.mem_singleton.mp hp]
        exact ⟨okN_0, fun _ => ⟨by dsimp only; omega, by dsimp only; omega⟩, fun z => absurd z (by simp)⟩
    next h3 =>
      split at h
      next h4 =>
        obtain ⟨w, e, hw, _⟩ := nx_str h4
        obtain ⟨s1, s2⟩ := strL_J _ (nx_s4 h4 hg)
        obtain ⟨h2, h2'⟩ := nx_tkc (s := st.1) (by omega)
        cases h
        refine ⟨⟨w, e, ?_⟩, s2, by dsimp only; omega⟩
        dsimp only
        rw [s1]
        omega
      next h4 =>
        split at h
        next h5 =>
          obtain ⟨h2, h2'⟩ := nx_tkc (s := st.1) (by omega)
          have hn := nm_tkc (s := st.1) (Or.inl h5)
          have hok := okN_q hg (Or.inl h5)
          have hg2 := hg.sfx h2.sfx
          split at h
          · split at h
            next h6 =>
              obtain ⟨h7, h7'⟩ := nx_tkc (s := (nx st.1).2.2.2) (by omega)
              have hv := nx_num h6 hg2
              cases h
              refine ⟨(h2.trans h7).le ?_, ?_, by dsimp only; omega⟩
              · dsimp only
                rw [cstL_c, nil0]
                have := (cst1 (-((nx (nx st.1).2.2.2).2.1 : Int))).1
                omega
              · intro p hp
                rw [List.mem_singleton.mp hp]
                exact ⟨okN_0, fun z => absurd z (by simp), fun _ => ⟨by dsimp only; omega, by dsimp only; omega⟩⟩
            next => cases h
          · split at h
            next h6 =>
              have hc : (nx st.1).2.2.2.head? = some 40 := by
                simp [isCal] at h6
                exact h6.2
              have ht : tkc (nx st.1).2.2.2 10 (nx st.1).2.2.2.tail ∧ (nx st.1).2.2.2.tail.length + 1 ≤ (nx st.1).2.2.2.length := by
                cases hr : (nx st.1).2.2.2 with
                | nil =>
                  rw [hr] at hc
                  cases hc
                | cons c r => exact ⟨⟨[c], rfl, by simp⟩, by simp⟩
              cases ha : args T 6 ((nx st.1).2.2.2.tail, st.2) with
              | none =>
                rw [ha] at h
                cases h
              | some y =>
                obtain ⟨As, k, DA, st'⟩ := y
                rw [ha] at h
                cases h
                obtain ⟨a1, a2, a3⟩ := args_J hT 6 _ _ (by dsimp only; omega) (hg2.sfx ht.1.sfx) ha
                dsimp only at a1 a2 a3
                refine ⟨((hn.trans ht.1).trans a1).le ?_, ?_, by dsimp only; omega⟩
                · dsimp only
                  rw [cstL_c]
                  have := cst3 (nx st.1).2.2.1 k
                  omega
                · intro p hp
                  rcases List.mem_cons.mp hp with q | q
                  · rw [q]
                    exact okP_n (by decide) hok
                  · exact a2 p q
            next =>
              cases hp : pfx sl most st.1 with
              | none =>
                rw [hp] at h
                cases h
                refine ⟨hn.le ?_, ?_, by dsimp only; omega⟩
                · dsimp only
                  rw [cstL_c, nil0, cst2]
                  omega
                · intro p hp
                  rw [List.mem_singleton.mp hp]
                  exact okP_n (by decide) hok
              | some e =>
                rw [hp] at h
                dsimp only at h
                cases hr : T (oRight (some e)) ((nx st.1).2.2.2, st.2) with
                | none =>
                  rw [hr] at h
                  cases h
                | some z =>
                  obtain ⟨R, DR, st', pr'⟩ := z
                  rw [hr] at h
                  cases h
                  obtain ⟨z1, z2, z3⟩ := hT _ _ _ (by dsimp only; omega) hg2 hr
                  dsimp only at z1 z2 z3
                  refine ⟨(hn.trans z1).le ?_, ?_, by dsimp only; omega⟩
                  · dsimp only
                    rw [cstL_c]
                    have := cst3 (nx st.1).2.2.1 1
                    omega
                  · intro p hp
                    rcases List.mem_cons.mp hp with q | q
                    · rw [q]
                      exact okP_n (by decide) hok
                    · exact z2 p q
        next h5 =>
          split at h
          next hm =>
            obtain ⟨h2, h2'⟩ := nx_tkc (s := st.1) (by rw [(isMk_k hm).1]; omega)
            have hg2 := hg.sfx h2.sfx
            cases hr : T 1200 ((nx st.1).2.2.2, st.2) with
            | none =>
              rw [hr] at h
              cases h
            | some z =>
              obtain ⟨R, DR, st', pr'⟩ := z
              rw [hr] at h
              obtain ⟨z1, z2, z3⟩ := hT _ _ _ (by dsimp only; omega) hg2 hr
              dsimp only at z1 z2 z3 h
              split at h
              next hm2 =>
                obtain ⟨h3, h3'⟩ := nx_tkc (s := st'.1) (by rw [(isMk_k hm2).1]; omega)
                cases h
                exact ⟨((h2.trans z1).trans h3).le (by dsimp only; omega), z2, by dsimp only; omega⟩
              next => cases h
          next =>
            split at h
            next hm =>
              obtain ⟨h2, h2'⟩ := nx_tkc (s := st.1) (by rw [(isMk_k hm).1]; omega)
              have hg2 := hg.sfx h2.sfx
              cases hr : T 1200 ((nx st.1).2.2.2, st.2) with
              | none =>
                rw [hr] at h
                cases h
              | some z =>
                obtain ⟨R, DR, st', pr'⟩ := z
                rw [hr] at h
                obtain ⟨z1, z2, z3⟩ := hT _ _ _ (by dsimp only; omega) hg2 hr
                dsimp only at z1 z2 z3 h
                split at h
                next hm2 =>
                  obtain ⟨h3, h3'⟩ := nx_tkc (s := st'.1) (by rw [(isMk_k hm2).1]; omega)
                  cases h
                  refine ⟨((h2.trans z1).trans h3).le ?_, ?_, by dsimp only; omega⟩
                  · dsimp only
                    rw [cstL_c]
                    have := cst3 [123, 125] 1
                    simp only [List.length_cons, List.length_nil] at this
                    omega
                  · intro p hp
                    rcases List.mem_cons.mp hp with q | q
                    · rw [q]
                      exact okP_n (by decide) (okN_2 (by decide) (by decide))
                    · exact z2 p q
                next => cases h
            next =>
              split at h
              next hm =>
                obtain ⟨h2, h2'⟩ := nx_tkc (s := st.1) (by rw [(isMk_k hm).1]; omega)
                cases ha : lst T 120 ((nx st.1).2.2.2, st.2) with
                | none =>
                  rw [ha] at h
                  cases h
                | some y =>
                  obtain ⟨M, DM, st'⟩ := y
                  rw [ha] at h
                  cases h
                  obtain ⟨⟨wa, ea, hwa⟩, a2, a3⟩ := lst_J hT 120 _ _ (by dsimp only; omega) (hg.sfx h2.sfx) ha
                  dsimp only at ea a2 a3 hwa
                  obtain ⟨w, e, hw⟩ := nx_sfx (s := st.1) (by rw [(isMk_k hm).1]; omega)
                  refine ⟨⟨w ++ wa, by rw [e, ea, List.append_assoc], ?_⟩, a2, by dsimp only; omega⟩
                  dsimp only
                  rw [List.length_append]
                  omega
              next => cases h
theorem tmF_J {sl : List xSl} (hsl : ∀ e ∈ sl, ¬ e.1 = 0) (h44 : ∀ e ∈ sl, e.1 = 44 → e.2.2 = 1) : ∀ (n : Nat), hypJ (tmF sl n)
  | 0, most, st, x, hb, hg, h => by cases h
  | n + 1, most, st, x, hb, hg, h => by
    unfold tmF at h
    cases hf : fst1 sl (tmF sl n) most st with
    | none =>
      rw [hf] at h
      cases h
    | some y =>
      rw [hf] at h
      exact rst_J hsl h44 (tmF_J hsl h44 n) 120 most st y x hb hg (fst1_J (tmF_J hsl h44 n) hb hg hf) h
/-- what is read of a text -/
theorem wholeF_J {sl : List xSl} {t : List Nat} {L : List xIt} {D : Nat} {s' : List Nat} (hsl : ∀ e ∈ sl, ¬ e.1 = 0) (h44 : ∀ e ∈ sl, e.1 = 44 → e.2.2 = 1) (ht : t.length ≤ 120) (hg : gds t) (h : wholeF sl t = some (L, D, s')) : cstL L ≤ 10 * t.length ∧ (∀ p ∈ L, okP p) ∧ sfx t s' := by
  unfold wholeF at h
  cases hr : tmF sl 11 1200 (t, []) with
  | none =>
    rw [hr] at h
    cases h
  | some z =>
    obtain ⟨R, DR, st', pr'⟩ := z
    rw [hr] at h
    dsimp only at h
    split at h
    next hc =>
      cases h
      obtain ⟨⟨w, e, hw⟩, z2, z3⟩ := tmF_J hsl h44 11 1200 (t, []) _ (by dsimp only [List.length_nil]; omega) hg hr
      dsimp only at e hw z2 z3
      obtain ⟨w2, e2, hw2⟩ := nx_sfx (s := st'.1) (by omega)
      refine ⟨?_, z2, w ++ w2, by rw [e]; conv => lhs; rw [e2]
                                  rw [List.append_assoc]⟩
      have := congrArg List.length e
      rw [List.length_append] at this
      omega
    · cases h
