-- what is read: what its parts may cost when they are written
def okN (l : List Nat) : Prop := l.length ≤ 24 ∧ ∀ c ∈ l, gdC c
def okP (p : xIt) : Prop := okN p.2.2.1 ∧ (p.1 = 0 → 0 ≤ p.2.1 ∧ p.2.1 ≤ 120) ∧ (p.1 = 1 → -2147483647 ≤ p.2.1 ∧ p.2.1 ≤ 2147483647)
def cst (p : xIt) : Nat := if p.1 = 0 then 4 else if p.1 = 1 then (if 0 ≤ p.2.1 ∧ p.2.1 ≤ 126 then 3 else if 0 ≤ p.2.1 then 10 else 11) else if p.1 = 2 then 2 * p.2.2.1.length + 4 else if p = dotP then 3 else 2 * p.2.2.1.length + 6 + p.2.2.2
def cstL (L : List xIt) : Nat := (L.map cst).sum
theorem cstL_c (p : xIt) (L : List xIt) : cstL (p :: L) = cst p + cstL L := by simp [cstL]
theorem cstL_a (L M : List xIt) : cstL (L ++ M) = cstL L + cstL M := by simp [cstL]
theorem cst3 (w : List Nat) (k : Nat) : cst (3, 0, w, k) ≤ 2 * w.length + 6 + k := by
  unfold cst
  rw [if_neg (by simp), if_neg (by simp), if_neg (by simp)]
  split
  · omega
  · exact Nat.le_refl _
theorem cst_dot : cst dotP = 3 := rfl
theorem cst_nil : cst nilP = 8 := rfl
def tkc (s : List Nat) (n : Nat) (s' : List Nat) : Prop := ∃ w, s = w ++ s' ∧ n ≤ 10 * w.length
theorem tkc.trans {s s' s2 : List Nat} {n m : Nat} (h : tkc s n s') (h' : tkc s' m s2) : tkc s (n + m) s2 := by
  obtain ⟨w, e, hw⟩ := h
  obtain ⟨w', e', hw'⟩ := h'
  exact ⟨w ++ w', by rw [e, e', List.append_assoc], by rw [List.length_append]; omega⟩
theorem tkc.le {s s' : List Nat} {n m : Nat} (h : tkc s n s') (hm : m ≤ n) : tkc s m s' := by
  obtain ⟨w, e, hw⟩ := h
  exact ⟨w, e, by omega⟩
theorem tkc.sfx {s s' : List Nat} {n : Nat} (h : tkc s n s') : sfx s s' := by
  obtain ⟨w, e, _⟩ := h
  exact ⟨w, e⟩
theorem nx_tkc {s : List Nat} (h : (nx s).1 < 6) : tkc s 10 (nx s).2.2.2 ∧ (nx s).2.2.2.length + 1 ≤ s.length := by
  obtain ⟨w, e, hw⟩ := nx_sfx h
  refine ⟨⟨w, e, by omega⟩, ?_⟩
  have := congrArg List.length e
  rw [List.length_append] at this
  omega
/-- a name's token, with what it may cost -/
theorem nm_tkc {s : List Nat} (h : (nx s).1 = 1 ∨ (nx s).1 = 2) : tkc s (2 * (nx s).2.2.1.length + 8) (nx s).2.2.2 := by
  obtain ⟨_, w, e, h1, h2⟩ := nx_nm h
  exact ⟨w, e, by omega⟩
theorem vnx_len (vs : List (List Nat)) (w : List Nat) : (vnx vs w).length ≤ vs.length + 1 := by
  unfold vnx
  split
  · simp
  · split
    · omega
    · simp
theorem vno_le (vs : List (List Nat)) (w : List Nat) : vno vs w ≤ vs.length := by
  unfold vno
  split
  · exact Nat.le_refl _
  · cases hx : vix w vs 0 with
    | none => exact Nat.le_refl _
    | some i =>
      have := (List.getElem?_eq_some_iff.mp (vix_some hx).2).1
      dsimp only
      omega
def gds (s : List Nat) : Prop := ∀ c ∈ s, 32 ≤ c ∧ c ≤ 126
theorem gds.sfx {s s' : List Nat} (h : gds s) (hs : sfx s s') : gds s' := fun c hc => h c (hs.mem c hc)
def rsJ (st : xSt) (L : List xIt) (k : Nat) (st' : xSt) : Prop := tkc st.1 (cstL L + k) st'.1 ∧ (∀ p ∈ L, okP p) ∧ st'.2.length + st'.1.length ≤ st.2.length + st.1.length
def hypJ (T : Int → xSt → Option xRs) : Prop := ∀ most st x, st.2.length + st.1.length ≤ 120 → gds st.1 → T most st = some x → rsJ st x.1 0 x.2.2.1
theorem okP_n {k : Nat} {w : List Nat} {a : Nat} (hk : 2 ≤ k) (h : okN w) : okP (k, 0, w, a) := ⟨h, fun z => by dsimp only at z; omega, fun z => by dsimp only at z; omega⟩
theorem okN_q {s : List Nat} (hs : gds s) (h : (nx s).1 = 1 ∨ (nx s).1 = 2) : okN (nx s).2.2.1 := ⟨(nx_nm h).1, nx_gd hs⟩
theorem okN_44 : okN [44] := ⟨by decide, fun c hc => by simp at hc; subst hc; exact ⟨Or.inr (Or.inr (by decide)), by decide⟩⟩
theorem okN_46 : okN [46] := ⟨by decide, fun c hc => by simp at hc; subst hc; exact ⟨Or.inr (Or.inr (by decide)), by decide⟩⟩
theorem okN_2 {a b : Nat} (ha : 32 ≤ a ∧ a ≤ 126) (hb : 32 ≤ b ∧ b ≤ 126) : okN [a, b] := ⟨by simp, fun c hc => by
  simp at hc
  rcases hc with hc | hc
  · subst hc; exact ⟨Or.inr (Or.inr ha.1), ha.2⟩
  · subst hc; exact ⟨Or.inr (Or.inr hb.1), hb.2⟩⟩
theorem okP_nil : okP nilP := okP_n (by decide) (okN_2 (by decide) (by decide))
theorem okP_dot : okP dotP := okP_n (by decide) okN_46
theorem opB_e {sl : List xSl} {key : Int64} {e : xSl} (h : opB sl key = some e) : e ∈ sl ∧ e.1 = key ∧ isPre e.2.2 = false := by
  unfold opB at h
  cases hf : fnd false key sl 0 with
  | none =>
    rw [hf] at h
    cases h
  | some i =>
    obtain ⟨_, e', g1, g2, g3⟩ := fnd_some hf
    rw [hf] at h
    have g4 : sl[i]? = some e := h
    rw [Nat.sub_zero, g4] at g1
    cases g1
    exact ⟨List.mem_of_getElem? g4, g2, g3⟩
theorem opB_44 {sl : List xSl} {q : xTok} {e : xSl} (h44 : ∀ e ∈ sl, e.1 = 44 → e.2.2 = 1) (ho : opB sl (tK q) = some e) (hi : ¬ oInf (some e) = true) (c : q.1 = 5 ∧ q.2.1 = 44) : False := by
  obtain ⟨g1, g2, _⟩ := opB_e ho
  have ht : tK q = 44 := by
    unfold tK
    rw [if_neg (by omega), if_pos c]
  have := h44 e g1 (by rw [g2, ht])
  exact hi (by simp [oInf, slT, this])
theorem rst_J {sl : List xSl} {T : Int → xSt → Option xRs} (hsl : ∀ e ∈ sl, ¬ e.1 = 0) (h44 : ∀ e ∈ sl, e.1 = 44 → e.2.2 = 1) (hT : hypJ T) : ∀ (n : Nat) (most : Int) (st0 : xSt) (y x : xRs), st0.2.length + st0.1.length ≤ 120 → gds st0.1 → rsJ st0 y.1 0 y.2.2.1 → rst sl T n most y = some x → rsJ st0 x.1 0 x.2.2.1
  | 0, most, st0, y, x, hb, hg, hy, h => by cases h
  | n + 1, most, st0, (L, D, st, pr), x, hb, hg, hy, h => by
    unfold rst at h
    split at h
    · cases h
    · cases ho : opB sl (tK (nx st.1)) with
      | none =>
        rw [ho] at h
        cases h
        exact hy
      | some e =>
        rw [ho] at h
        dsimp only at h
        have hk := opB_k hsl ho
        obtain ⟨y1, y2, y3⟩ := hy
        dsimp only at y1 y2 y3
        have hg1 := hg.sfx y1.sfx
        obtain ⟨t1, t2⟩ := nx_tkc hk
        have hg2 := hg1.sfx t1.sfx
        have hkk : (nx st.1).1 = 1 ∨ ((nx st.1).1 = 5 ∧ (nx st.1).2.1 = 44) := by
          unfold opB at ho
          cases hf : fnd false (tK (nx st.1)) sl 0 with
          | none =>
            rw [hf] at ho
            cases ho
          | some i =>
            obtain ⟨_, e', g1, g2, _⟩ := fnd_some hf
            have hne := hsl e' (List.mem_of_getElem? g1)
            rw [g2] at hne
            unfold tK at hne
            by_cases c1 : (nx st.1).1 = 1
            · exact Or.inl c1
            · rw [if_neg c1] at hne
              by_cases c5 : (nx st.1).1 = 5 ∧ (nx st.1).2.1 = 44
              · exact Or.inr c5
              · rw [if_neg c5] at hne
                exact absurd rfl hne
        have hnmq : okN (nmOf (nx st.1)) ∧ tkc st.1 (2 * (nmOf (nx st.1)).length + 8) (nx st.1).2.2.2 := by
          rcases hkk with c1 | c1
          · have e1 : nmOf (nx st.1) = (nx st.1).2.2.1 := by unfold nmOf; rw [if_pos c1]
            rw [e1]
            exact ⟨okN_q hg1 (Or.inl c1), nm_tkc (Or.inl c1)⟩
          · have e1 : nmOf (nx st.1) = [44] := by unfold nmOf; rw [if_neg (by omega)]
            rw [e1]
            exact ⟨okN_44, t1⟩
        split at h
        · split at h
          next hinf =>
            split at h
            · cases hr : T (oRight (some e)) ((nx st.1).2.2.2, st.2) with
              | none =>
                rw [hr] at h
                cases h
              | some z =>
                obtain ⟨R, DR, st', pr'⟩ := z
                rw [hr] at h
                obtain ⟨z1, z2, z3⟩ := hT _ _ _ (by dsimp only; omega) hg2 hr
                dsimp only at z1 z2 z3 h
                refine rst_J hsl h44 hT n most st0 _ x hb hg ⟨?_, ?_, by dsimp only; omega⟩ h
                · refine ((y1.trans hnmq.2).trans z1).le ?_
                  dsimp only
                  rw [cstL_c, cstL_a]
                  have := cst3 (nmOf (nx st.1)) 2
                  omega
                · intro p hp
                  rcases List.mem_cons.mp hp with q | q
                  · rw [q]
                    exact okP_n (by decide) hnmq.1
                  · rcases List.mem_append.mp q with q | q
                    · exact y2 p q
                    · exact z2 p q
            · cases h
              exact ⟨y1, y2, y3⟩
          next hinf =>
            have c1 : (nx st.1).1 = 1 := hkk.elim id fun c => (opB_44 h44 ho hinf c).elim
            refine rst_J hsl h44 hT n most st0 _ x hb hg ⟨?_, ?_, by dsimp only; omega⟩ h
            · refine (y1.trans (nm_tkc (Or.inl c1))).le ?_
              dsimp only
              rw [cstL_c]
              have := cst3 (nx st.1).2.2.1 1
              omega
            · intro p hp
              rcases List.mem_cons.mp hp with q | q
              · rw [q]
                exact okP_n (by decide) (okN_q hg1 (Or.inl c1))
              · exact y2 p q
        · cases h
          exact ⟨y1, y2, y3⟩
def agJ (st : xSt) (x : List xIt × Nat × Nat × xSt) : Prop := tkc st.1 (cstL x.1 + 10 * x.2.1) x.2.2.2.1 ∧ (∀ p ∈ x.1, okP p) ∧ x.2.2.2.2.length + x.2.2.2.1.length ≤ st.2.length + st.1.length
theorem args_J {T : Int → xSt → Option xRs} (hT : hypJ T) : ∀ (n : Nat) (st : xSt) (x : List xIt × Nat × Nat × xSt), st.2.length + st.1.length ≤ 120 → gds st.1 → args T n st = some x → agJ st x
  | 0, st, x, hb, hg, h => by cases h
  | n + 1, st, x, hb, hg, h => by
    unfold args at h
    cases hr : T 999 st with
    | none =>
      rw [hr] at h
      cases h
    | some z =>
      obtain ⟨R, DR, st', pr'⟩ := z
      rw [hr] at h
      obtain ⟨z1, z2, z3⟩ := hT _ _ _ hb hg hr
      dsimp only at z1 z2 z3 h
      have hg1 := hg.sfx z1.sfx
      split at h
      next hm =>
        obtain ⟨h2, h2'⟩ := nx_tkc (s := st'.1) (by rw [(isMk_k hm).1]; omega)
        cases ha : args T n ((nx st'.1).2.2.2, st'.2) with
        | none =>
          rw [ha] at h
          cases h
        | some y =>
          obtain ⟨As, k, DA, st2⟩ := y
          rw [ha] at h
          cases h
          obtain ⟨a1, a2, a3⟩ := args_J hT n _ _ (by dsimp only; omega) (hg1.sfx h2.sfx) ha
          dsimp only at a1 a2 a3
          refine ⟨((z1.trans h2).trans a1).le ?_, ?_, by dsimp only; omega⟩
          · dsimp only
            rw [cstL_a]
            omega
          · intro p hp
            rcases List.mem_append.mp hp with q | q
            · exact z2 p q
            · exact a2 p q
      next =>
        split at h
        next hm =>
          obtain ⟨h2, h2'⟩ := nx_tkc (s := st'.1) (by rw [(isMk_k hm).1]; omega)
          cases h
          exact ⟨(z1.trans h2).le (by dsimp only; omega), z2, by dsimp only; omega⟩
        next => cases h
theorem dotL (E M : List xIt) : cstL (dotP :: (E ++ M)) = 3 + cstL E + cstL M := by
  rw [cstL_c, cstL_a, cst_dot]
  omega
def lsJ' (st : xSt) (x : List xIt × Nat × xSt) : Prop := (∃ w, st.1 = w ++ x.2.2.1 ∧ cstL x.1 ≤ 10 * w.length + 1) ∧ (∀ p ∈ x.1, okP p) ∧ x.2.2.2.length + x.2.2.1.length ≤ st.2.length + st.1.length
theorem okP_l {E M : List xIt} (h1 : ∀ p ∈ E, okP p) (h2 : ∀ p ∈ M, okP p) : ∀ p ∈ dotP :: (E ++ M), okP p := by
  intro p hp
  rcases List.mem_cons.mp hp with q | q
  · rw [q]
    exact okP_dot
  · rcases List.mem_append.mp q with q | q
    · exact h1 p q
    · exact h2 p q
theorem lst_J {T : Int → xSt → Option xRs} (hT : hypJ T) : ∀ (n : Nat) (st : xSt) (x : List xIt × Nat × xSt), st.2.length + st.1.length ≤ 120 → gds st.1 → lst T n st = some x → lsJ' st x
  | 0, st, x, hb, hg, h => by cases h
  | n + 1, st, x, hb, hg, h => by
    unfold lst at h
    cases hr : T 999 st with
    | none =>
      rw [hr] at h
      cases h
    | some z =>
      obtain ⟨E, DE, st', pr'⟩ := z
      rw [hr] at h
      obtain ⟨z1, z2, z3⟩ := hT _ _ _ hb hg hr
      dsimp only at z1 z2 z3 h
      have hg1 := hg.sfx z1.sfx
      split at h
      next hm =>
        obtain ⟨h2, h2'⟩ := nx_tkc (s := st'.1) (by rw [(isMk_k hm).1]; omega)
        cases ha : lst T n ((nx st'.1).2.2.2, st'.2) with
        | none =>
          rw [ha] at h
          cases h
        | some y =>
          obtain ⟨M, DM, st2⟩ := y
          rw [ha] at h
          cases h
          obtain ⟨⟨wa, ea, hwa⟩, a2, a3⟩ := lst_J hT n _ _ (by dsimp only; omega) (hg1.sfx h2.sfx) ha
          obtain ⟨w, e, hw⟩ := z1.trans h2
          dsimp only at ea a2 a3 hwa
          refine ⟨⟨w ++ wa, by rw [e, ea, List.append_assoc], ?_⟩, okP_l z2 a2, by dsimp only; omega⟩
          dsimp only
          rw [dotL, List.length_append]
          omega
      next =>
        split at h
        next hm =>
          obtain ⟨h2, h2'⟩ := nx_tkc (s := st'.1) (by rw [(isMk_k hm).1]; omega)
          cases ha : T 999 ((nx st'.1).2.2.2, st'.2) with
          | none =>
            rw [ha] at h
            cases h
          | some y =>
            obtain ⟨M, DM, st2, pr2⟩ := y
            rw [ha] at h
            obtain ⟨a1, a2, a3⟩ := hT _ _ _ (by dsimp only; omega) (hg1.sfx h2.sfx) ha
            dsimp only at a1 a2 a3 h
            split at h
            next hm2 =>
              obtain ⟨h3, h3'⟩ := nx_tkc (s := st2.1) (by rw [(isMk_k hm2).1]; omega)
              cases h
              obtain ⟨w, e, hw⟩ := ((z1.trans h2).trans a1).trans h3
              refine ⟨⟨w, e, ?_⟩, okP_l z2 a2, by dsimp only; omega⟩
              dsimp only
              rw [dotL]
              omega
            next => cases h
        next =>
          split at h
          next hm =>
            obtain ⟨h2, h2'⟩ := nx_tkc (s := st'.1) (by rw [(isMk_k hm).1]; omega)
            cases h
            obtain ⟨w, e, hw⟩ := z1.trans h2
            refine ⟨⟨w, e, ?_⟩, okP_l z2 (fun p hp => by rw [List.mem_singleton.mp hp]; exact okP_nil), by dsimp only; omega⟩
            dsimp only
            rw [dotL, cstL_c, cst_nil]
            have : cstL [] = 0 := rfl
            omega
          next => cases h
