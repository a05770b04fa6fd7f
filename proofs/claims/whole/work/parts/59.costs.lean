-- what is read: what its parts may cost when they are written
def okN (l : List Nat) : Prop := l.length ≤ 24 ∧ ∀ c ∈ l, gdC c
def okP (p : xIt) : Prop := okN p.2.2.1 ∧ (p.1 = 0 → 0 ≤ p.2.1 ∧ p.2.1 ≤ 120) ∧ (p.1 = 1 → -2147483647 ≤ p.2.1 ∧ p.2.1 ≤ 2147483647)
def cst (p : xIt) : Nat := if p.1 = 0 then 4 else if p.1 = 1 then (if 0 ≤ p.2.1 ∧ p.2.1 ≤ 126 then 3 else if 0 ≤ p.2.1 then 10 else 11) else if p.1 = 2 then 2 * p.2.2.1.length + 4 else if p = dotP then 3 else 2 * p.2.2.1.length + 6 + p.2.2.2
def cstL (L : List xIt) : Nat := (L.map cst).sum
theorem cstL_c (p : xIt) (L : List xIt) : cstL (p :: L) = cst p + cstL L := by simp [cstL]
theorem cstL_a (L M : List xIt) : cstL (L ++ M) = cstL L + cstL M := by simp [cstL]
theorem cst3 (w : List Nat) (k : Nat) : cst (3, 0, w, k) ≤ 2 * w.length + 6 + k := by
  unfold cst
  rw [if_neg (by simp), if_neg (by simp), if_neg (by simp)]
  split
  · omega
  · exact Nat.le_refl _
theorem cst_dot : cst dotP = 3 := rfl
theorem cst_nil : cst nilP = 8 := rfl
def tkc (s : List Nat) (n : Nat) (s' : List Nat) : Prop := ∃ w, s = w ++ s' ∧ n ≤ 10 * w.length
theorem tkc.trans {s s' s2 : List Nat} {n m : Nat} (h : tkc s n s') (h' : tkc s' m s2) : tkc s (n + m) s2 := by
  obtain ⟨w, e, hw⟩ := h
  obtain ⟨w', e', hw'⟩ := h'
  exact ⟨w ++ w', by rw [e, e', List.append_assoc], by rw [List.length_append]; omega⟩
theorem tkc.le {s s' : List Nat} {n m : Nat} (h : tkc s n s') (hm : m ≤ n) : tkc s m s' := by
  obtain ⟨w, e, hw⟩ := h
  exact ⟨w, e, by omega⟩
theorem tkc.sfx {s s' : List Nat} {n : Nat} (h : tkc s n s') : sfx s s' := by
  obtain ⟨w, e, _⟩ := h
  exact ⟨w, e⟩
theorem nx_tkc {s : List Nat} (h : (nx s).1 < 6) : tkc s 10 (nx s).2.2.2 ∧ (nx s).2.2.2.length + 1 ≤ s.length := by
  obtain ⟨w, e, hw⟩ := nx_sfx h
  refine ⟨⟨w, e, by omega⟩, ?_⟩
  have := congrArg List.length e
  rw [List.length_append] at this
  omega
/-- a name's token, with what it may cost -/
theorem nm_tkc {s : List Nat} (h : (nx s).1 = 1 ∨ (nx s).1 = 2) : tkc s (2 * (nx s).2.2.1.length + 8) (nx s).2.2.2 := by
  obtain ⟨_, w, e, h1, h2⟩ := nx_nm h
  exact ⟨w, e, by omega⟩
theorem vnx_len (vs : List (List Nat)) (w : List Nat) : (vnx vs w).length ≤ vs.length + 1 := by
  unfold vnx
  split
  · simp
  · split
    · omega
    · simp
theorem vno_le (vs : List (List Nat)) (w : List Nat) : vno vs w ≤ vs.length := by
  unfold vno
  split
  · exact Nat.le_refl _
  · cases hx : vix w vs 0 with
    | none => exact Nat.le_refl _
    | some i =>
      have := (List.getElem?_eq_some_iff.mp (vix_some hx).2).1
      dsimp only
      omega
def gds (s : List Nat) : Prop := ∀ c ∈ s, 32 ≤ c ∧ c ≤ 126
theorem gds.sfx {s s' : List Nat} (h : gds s) (hs : sfx s s') : gds s' := fun c hc => h c (hs.mem c hc)
def rsJ (st : xSt) (L : List xIt) (k : Nat) (st' : xSt) : Prop := tkc st.1 (cstL L + k) st'.1 ∧ (∀ p ∈ L, okP p) ∧ st'.2.length + st'.1.length ≤ st.2.length + st.1.length
def hypJ (T : Int → xSt → Option xRs) : Prop := ∀ most st x, st.2.length + st.1.length ≤ 120 → gds st.1 → T most st = some x → rsJ st x.1 0 x.2.2.1
theorem okP_n {k : Nat} {w : List Nat} {a : Nat} (hk : 2 ≤ k) (h : okN w) : okP (k, 0, w, a) := ⟨h, fun z => by dsimp only at z; omega, fun z => by dsimp only at z; omega⟩
theorem okN_q {s : List Nat} (hs : gds s) (h : (nx s).1 = 1 ∨ (nx s).1 = 2) : okN (nx s).2.2.1 := ⟨(nx_nm h).1, nx_gd hs⟩
theorem okN_44 : okN [44] := ⟨by decide, fun c hc => by simp at hc; subst hc; exact ⟨Or.inr (Or.inr (by decide)), by decide⟩⟩
theorem okN_46 : okN [46] := ⟨by decide, fun c hc => by simp at hc; subst hc; exact ⟨Or.inr (Or.inr (by decide)), by decide⟩⟩
theorem okN_2 {a b : Nat} (ha : 32 ≤ a ∧ a ≤ 126) (hb : 32 ≤ b ∧ b ≤ 126) : okN [a, b] := ⟨by simp, fun c hc => by
  simp at hc
  rcases hc with hc | hc
  · subst hc; exact ⟨Or.inr (Or.inr ha.1), ha.2⟩
  · subst hc; exact ⟨Or.inr (Or.inr hb.1), hb.2⟩⟩
theorem okP_nil : okP nilP := okP_n (by decide) (okN_2 (by decide) (by decide))
theorem okP_dot : okP dotP := okP_n (by decide) okN_46
theorem rst_J {sl : List xSl} {T : Int → xSt → Option xRs} (hsl : ∀ e ∈ sl, ¬ e.1 = 0) (hT : hypJ T) : ∀ (n : Nat) (most : Int) (st0 : xSt) (y x : xRs), st0.2.length + st0.1.length ≤ 120 → gds st0.1 → rsJ st0 y.1 0 y.2.2.1 → rst sl T n most y = some x → rsJ st0 x.1 0 x.2.2.1
  | 0, most, st0, y, x, hb, hg, hy, h => by cases h
  | n + 1, most, st0, (L, D, st, pr), x, hb, hg, hy, h => by
    unfold rst at h
    split at h
    · cases h
    · cases ho : opB sl (tK (nx st.1)) with
      | none =>
        rw [ho] at h
        cases h
        exact hy
      | some e =>
        rw [ho] at h
        dsimp only at h
        have hk := opB_k hsl ho
        obtain ⟨y1, y2, y3⟩ := hy
        dsimp only at y1 y2 y3
        have hg1 := hg.sfx y1.sfx
        obtain ⟨t1, t2⟩ := nx_tkc hk
        have hg2 := hg1.sfx t1.sfx
        have hkk : (nx st.1).1 = 1 ∨ ((nx st.1).1 = 5 ∧ (nx st.1).2.1 = 44) := by
          unfold opB at ho
          cases hf : fnd false (tK (nx st.1)) sl 0 with
          | none =>
            rw [hf] at ho
            cases ho
          | some i =>
            obtain ⟨_, e', g1, g2, _⟩ := fnd_some hf
            have hne := hsl e' (List.mem_of_getElem? g1)
            rw [g2] at hne
            unfold tK at hne
            by_cases c1 : (nx st.1).1 = 1
            · exact Or.inl c1
            · rw [if_neg c1] at hne
              by_cases c5 : (nx st.1).1 = 5 ∧ (nx st.1).2.1 = 44
              · exact Or.inr c5
              · rw [if_neg c5] at hne
                exact absurd rfl hne
        have hnmq : okN (nmOf (nx st.1)) ∧ tkc st.1 (2 * (nmOf (nx st.1)).length + 8) (nx st.1).2.2.2 := by
          rcases hkk with c1 | c1
          · have e1 : nmOf (nx st.1) = (nx st.1).2.2.1 := by unfold nmOf; rw [if_pos c1]
            rw [e1]
            exact ⟨okN_q hg1 (Or.inl c1), nm_tkc (Or.inl c1)⟩
          · have e1 : nmOf (nx st.1) = [44] := by unfold nmOf; rw [if_neg (by omega)]
            rw [e1]
            exact ⟨okN_44, t1⟩
        split at h
        · split at h
          next hinf =>
            split at h
            · cases hr : T (oRight (some e)) ((nx st.1).2.2.2, st.2) with
              | none =>
                rw [hr] at h
                cases h
              | some z =>
                obtain ⟨R, DR, st', pr'⟩ := z
                rw [hr] at h
                obtain ⟨z1, z2, z3⟩ := hT _ _ _ (by dsimp only; omega) hg2 hr
                dsimp only at z1 z2 z3 h
                refine rst_J hsl hT n most st0 _ x hb hg ⟨?_, ?_, by dsimp only; omega⟩ h
                · refine ((y1.trans hnmq.2).trans z1).le ?_
                  dsimp only
                  rw [cstL_c, cstL_a]
                  have := cst3 (nmOf (nx st.1)) 2
                  omega
                · intro p hp
                  rcases List.mem_cons.mp hp with q | q
                  · rw [q]
                    exact okP_n (by decide) hnmq.1
                  · rcases List.mem_append.mp q with q | q
                    · exact y2 p q
                    · exact z2 p q
            · cases h
              exact ⟨y1, y2, y3⟩
          next hinf =>
            refine rst_J hsl hT n most st0 _ x hb hg ⟨?_, ?_, by dsimp only; omega⟩ h
            · rcases hkk with c1 | c1
              · refine (y1.trans (nm_tkc (Or.inl c1))).le ?_
                dsimp only
                rw [cstL_c]
                have := cst3 (nx st.1).2.2.1 1
                omega
              · refine (y1.trans t1).le ?_
                dsimp only
                rw [cstL_c]
                have h5 : (nx st.1).2.2.1 = [] := by
                  obtain ⟨s', g1, g2⟩ := nx_lay hk
                  rw [g2] at c1 ⊢
                  sorry
                have := cst3 (nx st.1).2.2.1 1
                rw [h5] at this ⊢
                simp only [List.length_nil] at this
                omega
            · intro p hp
              rcases List.mem_cons.mp hp with q | q
              · rw [q]
                sorry
              · exact y2 p q
        · cases h
          exact ⟨y1, y2, y3⟩
