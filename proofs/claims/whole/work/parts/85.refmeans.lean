-- the steps come to what the reader by levels says
def stF (sl : List xSl) (σ : xGS) : Option xGS := match σ.2.2.2.2.getLast? with
  | none => some σ
  | some f => if f.2.2.1 < 0 then bgF sl σ.1 σ.2.1 σ.2.2.1 σ.2.2.2.1 σ.2.2.2.2.dropLast f else goF sl σ.1 σ.2.1 σ.2.2.1 σ.2.2.2.1 σ.2.2.2.2.dropLast f
def RC (sl : List xSl) : Nat → xGS → Option xGS → Prop
  | 0, σ, r => r = some σ
  | n + 1, σ, r => match stF sl σ with
    | none => r = none
    | some σ' => RC sl n σ' r
theorem RC.trans {sl : List xSl} : ∀ {n m : Nat} {σ σ' : xGS} {r : Option xGS}, RC sl n σ (some σ') → RC sl m σ' r → RC sl (n + m) σ r
  | 0, m, σ, σ', r, h, h' => by
    have e : some σ' = some σ := h
    cases e
    rw [Nat.zero_add]
    exact h'
  | n + 1, m, σ, σ', r, h, h' => by
    rw [show n + 1 + m = (n + m) + 1 by omega]
    unfold RC at h ⊢
    cases hs : stF sl σ with
    | none =>
      rw [hs] at h
      cases h
    | some σ2 =>
      rw [hs] at h
      exact RC.trans (n := n) h h'
def RS (sl : List xSl) (σ : xGS) (r : Option xGS) : Prop := ∃ n, RC sl n σ r
def RO (sl : List xSl) (r1 r : Option xGS) : Prop := match r1 with
  | none => r = none
  | some σ => RS sl σ r
section PB
variable {sl : List xSl} {F G : List xFr} {f h : xFr} {s s' : List Nat} {vs N vs' : List (List Nat)} {Q : List xIt}
theorem RS.refl (σ : xGS) : RS sl σ (some σ) := ⟨0, rfl⟩
theorem RO.refl (r : Option xGS) : RO sl r r := by
  cases r with
  | none => rfl
  | some σ => exact RS.refl σ
theorem RS.st {σ : xGS} {r : Option xGS} (h : RO sl (stF sl σ) r) : RS sl σ r := by
  cases hs : stF sl σ with
  | none =>
    rw [hs] at h
    refine ⟨1, ?_⟩
    unfold RC
    rw [hs]
    exact h
  | some σ' =>
    rw [hs] at h
    obtain ⟨n, h⟩ := h
    refine ⟨n + 1, ?_⟩
    unfold RC
    rw [hs]
    exact h
theorem RS.tr {σ : xGS} {r r' : Option xGS} (h : RS sl σ r) (h' : RO sl r r') : RS sl σ r' := by
  cases r with
  | none =>
    have e : r' = none := h'
    rw [e]
    exact h
  | some σ' =>
    obtain ⟨n, h⟩ := h
    obtain ⟨m, h'⟩ := h'
    exact ⟨n + m, h.trans h'⟩
theorem RO.tr {r1 r r' : Option xGS} (h : RO sl r1 r) (h' : RO sl r r') : RO sl r1 r' := by
  cases r1 with
  | none =>
    have e : r = none := h
    rw [e] at h'
    exact h'
  | some σ => exact RS.tr h h'
theorem stF_b (hf : f.2.2.1 < 0) : stF sl (s, vs, N, Q, F ++ [f]) = bgF sl s vs N Q F f := by
  unfold stF
  dsimp only
  rw [List.getLast?_concat, List.dropLast_concat]
  dsimp only
  rw [if_pos hf]
theorem stF_g (hf : ¬ f.2.2.1 < 0) : stF sl (s, vs, N, Q, F ++ [f]) = goF sl s vs N Q F f := by
  unfold stF
  dsimp only
  rw [List.getLast?_concat, List.dropLast_concat]
  dsimp only
  rw [if_neg hf]
/-- entering a frame, n levels being left, comes to what the reader says -/
def EN (sl : List xSl) (n : Nat) : Prop := ∀ (F : List xFr), F.length + n = 11 → ∀ (most : Int) (s : List Nat) (vs N : List (List Nat)) (Q : List xIt) (pu ow : Nat), s.length ≤ 120 →
  (tmF sl n most (s, vs) = none → RO sl (psh F s vs N Q most pu ow) none) ∧
  (∀ L D s' vs' pr, tmF sl n most (s, vs) = some (L, D, (s', vs'), pr) → ∃ N', RO sl (psh F s vs N Q most pu ow) (popF s' vs' N' (Q ++ L) F (most, Q.length, (pr : Int), pu, ow)))
theorem EN.no {n : Nat} (hE : EN sl n) (hF : F.length + n = 11) {most : Int} {pu ow : Nat} (hs : s.length ≤ 120) (ht : tmF sl n most (s, vs) = none) : RO sl (psh F s vs N Q most pu ow) none := (hE F hF most s vs N Q pu ow hs).1 ht
theorem EN.yes {n : Nat} (hE : EN sl n) (hF : F.length + n = 11) {most : Int} {pu ow : Nat} (hs : s.length ≤ 120) {L : List xIt} {D pr : Nat} (ht : tmF sl n most (s, vs) = some (L, D, (s', vs'), pr)) : ∃ N', RO sl (psh F s vs N Q most pu ow) (popF s' vs' N' (Q ++ L) F (most, Q.length, (pr : Int), pu, ow)) := (hE F hF most s vs N Q pu ow hs).2 L D s' vs' pr ht
theorem isMk_l {c : Nat} (hm : isMk s c = true) : (nx s).2.2.2.length + 1 ≤ s.length := (nx_tkc (isMk_6 hm)).2
theorem sL_l (h : xFr) (x y : Int) : sL (sL h x) y = sL h y := rfl
theorem mny_a {p : xIt} {R : List xIt} : mny (Q ++ p :: R) Q.length = p.2.2.2 := by
  unfold mny
  rw [List.getElem?_append_right (Nat.le_refl _), Nat.sub_self]
  rfl
theorem inc_a {p : xIt} {R : List xIt} : inc (Q ++ p :: R) Q.length = Q ++ (p.1, p.2.1, p.2.2.1, p.2.2.2 + 1) :: R := by
  unfold inc
  rw [List.getElem?_append_right (Nat.le_refl _), Nat.sub_self]
  simp
theorem tm_len {n : Nat} {most : Int} {st : xSt} {x : xRs} (hsl : ∀ e ∈ sl, ¬ e.1 = 0 ∧ e.2.1 ≤ 1200) (ht : tmF sl n most st = some x) : x.2.2.1.1.length + 1 ≤ st.1.length := by
  have q := tmF_I hsl n most st x ht
  have q1 := q.1.len
  have q2 := q.2.1
  omega
/-- arguments -/
theorem args_E {n : Nat} (hsl : ∀ e ∈ sl, ¬ e.1 = 0 ∧ e.2.1 ≤ 1200) (hE : EN sl n) (hF : F.length + 1 + n = 11) {w : List Nat} : ∀ (m j : Nat) (s : List Nat) (vs N : List (List Nat)) (As0 : List xIt) (h : xFr), j + m = 6 → s.length ≤ 120 →
    (args (tmF sl n) m (s, vs) = none → RO sl (psh (F ++ [h]) s vs N (Q ++ (3, 0, w, j) :: As0) 999 2 Q.length) none) ∧
    (∀ As k DA s' vs', args (tmF sl n) m (s, vs) = some (As, k, DA, (s', vs')) → ∃ N', RO sl (psh (F ++ [h]) s vs N (Q ++ (3, 0, w, j) :: As0) 999 2 Q.length) (some (s', vs', N', Q ++ (3, 0, w, j + k) :: (As0 ++ As), F ++ [sL h 0])))
  | m, j, s, vs, N, As0, h, hm, hs => by
    have hF1 : (F ++ [h]).length + n = 11 := by rw [List.length_append, List.length_singleton]; omega
    -- what is behind one argument
    have bh : ∀ R DR s1 vs1 pr, tmF sl n 999 (s, vs) = some (R, DR, (s1, vs1), pr) → ∃ N1, RO sl (psh (F ++ [h]) s vs N (Q ++ (3, 0, w, j) :: As0) 999 2 Q.length) (if j + 1 ≤ 6 then (if isMk s1 44 = true then psh (F ++ [sL h 0]) (nx s1).2.2.2 vs1 N1 (Q ++ (3, 0, w, j + 1) :: (As0 ++ R)) 999 2 Q.length else if isMk s1 41 = true then some ((nx s1).2.2.2, vs1, N1, Q ++ (3, 0, w, j + 1) :: (As0 ++ R), F ++ [sL h 0]) else none) else none) := by
      intro R DR s1 vs1 pr ht
      obtain ⟨N1, h1⟩ := hE.yes (N := N) (Q := Q ++ (3, 0, w, j) :: As0) (pu := 2) (ow := Q.length) hF1 hs ht
      refine ⟨N1, ?_⟩
      rw [popF_c] at h1
      unfold whF at h1
      dsimp only at h1
      rw [if_neg (by decide), if_neg (by decide), if_neg (by decide), if_neg (by decide), if_pos rfl, List.append_assoc, List.cons_append, mny_a, inc_a] at h1
      exact h1
    cases m with
    | zero =>
      have ej : j = 6 := by omega
      refine ⟨fun _ => ?_, fun As k DA s' vs' ha => by cases ha⟩
      cases ht : tmF sl n 999 (s, vs) with
      | none => exact hE.no hF1 hs ht
      | some x =>
        obtain ⟨R, DR, ⟨s1, vs1⟩, pr⟩ := x
        obtain ⟨N1, h1⟩ := bh R DR s1 vs1 pr ht
        rw [if_neg (by omega)] at h1
        exact h1
    | succ m =>
      cases ht : tmF sl n 999 (s, vs) with
      | none =>
        have e : args (tmF sl n) (m + 1) (s, vs) = none := by
          unfold args
          rw [ht]
        rw [e]
        exact ⟨fun _ => hE.no hF1 hs ht, fun As k DA s' vs' ha => by cases ha⟩
      | some x =>
        obtain ⟨R, DR, ⟨s1, vs1⟩, pr⟩ := x
        obtain ⟨N1, h1⟩ := bh R DR s1 vs1 pr ht
        rw [if_pos (by omega)] at h1
        have hl := tm_len hsl ht
        dsimp only at hl
        have e : args (tmF sl n) (m + 1) (s, vs) = (if isMk s1 44 = true then (match args (tmF sl n) m ((nx s1).2.2.2, vs1) with
            | none => none
            | some (As, k, DA, st2) => some (R ++ As, k + 1, max DR DA, st2))
          else if isMk s1 41 = true then some (R, 1, DR, ((nx s1).2.2.2, vs1)) else none) := by
          conv => lhs; unfold args
          rw [ht]
          rfl
        rw [e]
        by_cases h44 : isMk s1 44 = true
        · rw [if_pos h44] at h1 ⊢
          have hl2 := isMk_l h44
          obtain ⟨i0, i1⟩ := args_E hsl hE hF m (j + 1) (nx s1).2.2.2 vs1 N1 (As0 ++ R) (sL h 0) (by omega) (by omega)
          cases ha : args (tmF sl n) m ((nx s1).2.2.2, vs1) with
          | none => exact ⟨fun _ => h1.tr (i0 ha), fun As k DA s' vs' hx => by cases hx⟩
          | some y =>
            obtain ⟨As2, k2, DA2, ⟨s2, vs2⟩⟩ := y
            refine ⟨fun hx => (by cases hx), fun As k DA s' vs' hx => ?_⟩
            cases hx
            obtain ⟨N2, h2⟩ := i1 As2 k2 DA2 s2 vs2 ha
            refine ⟨N2, h1.tr ?_⟩
            rw [sL_l, List.append_assoc, show j + 1 + k2 = j + (k2 + 1) by omega] at h2
            exact h2
        · rw [if_neg h44] at h1 ⊢
          by_cases h41 : isMk s1 41 = true
          · rw [if_pos h41] at h1 ⊢
            refine ⟨fun hx => (by cases hx), fun As k DA s' vs' hx => ?_⟩
            cases hx
            exact ⟨N1, h1⟩
          · rw [if_neg h41] at h1 ⊢
            exact ⟨fun _ => h1, fun As k DA s' vs' hx => by cases hx⟩
/-- lists -/
theorem lst_E {n : Nat} (hsl : ∀ e ∈ sl, ¬ e.1 = 0 ∧ e.2.1 ≤ 1200) (hE : EN sl n) (hF : F.length + 1 + n = 11) : ∀ (m : Nat) (s : List Nat) (vs N : List (List Nat)) (Q : List xIt) (h : xFr), s.length < m → s.length ≤ 120 →
    (lst (tmF sl n) m (s, vs) = none → RO sl (psh (F ++ [h]) s vs N (Q ++ [dotP]) 999 3 0) none) ∧
    (∀ M DM s' vs', lst (tmF sl n) m (s, vs) = some (M, DM, (s', vs')) → ∃ N', RO sl (psh (F ++ [h]) s vs N (Q ++ [dotP]) 999 3 0) (some (s', vs', N', Q ++ M, F ++ [sL h 0])))
  | 0, s, vs, N, Q, h, hm, hs => by omega
  | m + 1, s, vs, N, Q, h, hm, hs => by
    have hF1 : (F ++ [h]).length + n = 11 := by rw [List.length_append, List.length_singleton]; omega
    cases ht : tmF sl n 999 (s, vs) with
    | none =>
      have e : lst (tmF sl n) (m + 1) (s, vs) = none := by
        unfold lst
        rw [ht]
      rw [e]
      exact ⟨fun _ => hE.no hF1 hs ht, fun M DM s' vs' ha => by cases ha⟩
    | some x =>
      obtain ⟨E, DE, ⟨s1, vs1⟩, pr⟩ := x
      have hl := tm_len hsl ht
      dsimp only at hl
      obtain ⟨N1, h1⟩ := hE.yes (N := N) (Q := Q ++ [dotP]) (pu := 3) (ow := 0) hF1 hs ht
      rw [popF_c] at h1
      unfold whF at h1
      dsimp only at h1
      rw [if_neg (by decide), if_neg (by decide), if_neg (by decide), if_neg (by decide), if_neg (by decide)] at h1
      have e : lst (tmF sl n) (m + 1) (s, vs) = (if isMk s1 44 = true then (match lst (tmF sl n) m ((nx s1).2.2.2, vs1) with
          | none => none
          | some (M, DM, st2) => some (dotP :: (E ++ M), max DE DM + 1, st2))
        else if isMk s1 124 = true then (match tmF sl n 999 ((nx s1).2.2.2, vs1) with
          | none => none
          | some (M, DM, st2, _) => if isMk st2.1 93 = true then some (dotP :: (E ++ M), max DE DM + 1, ((nx st2.1).2.2.2, st2.2)) else none)
        else if isMk s1 93 = true then some (dotP :: (E ++ [nilP]), max DE 1 + 1, ((nx s1).2.2.2, vs1)) else none) := by
        conv => lhs; unfold lst
        rw [ht]
        rfl
      rw [e]
      by_cases h44 : isMk s1 44 = true
      · rw [if_pos h44] at h1 ⊢
        have hl2 := isMk_l h44
        obtain ⟨i0, i1⟩ := lst_E hsl hE hF m (nx s1).2.2.2 vs1 (nmA N1 [46]) (Q ++ [dotP] ++ E) (sL h 0) (by omega) (by omega)
        cases ha : lst (tmF sl n) m ((nx s1).2.2.2, vs1) with
        | none => exact ⟨fun _ => h1.tr (i0 ha), fun M DM s' vs' hx => by cases hx⟩
        | some y =>
          obtain ⟨M2, DM2, ⟨s2, vs2⟩⟩ := y
          refine ⟨fun hx => (by cases hx), fun M DM s' vs' hx => ?_⟩
          cases hx
          obtain ⟨N2, h2⟩ := i1 M2 DM2 s2 vs2 ha
          refine ⟨N2, h1.tr ?_⟩
          have e3 : Q ++ [dotP] ++ E ++ M2 = Q ++ dotP :: (E ++ M2) := by simp
          rw [sL_l, e3] at h2
          exact h2
      · rw [if_neg h44] at h1 ⊢
        by_cases h124 : isMk s1 124 = true
        · rw [if_pos h124] at h1 ⊢
          have hl2 := isMk_l h124
          have hF2 : (F ++ [sL h 0]).length + n = 11 := by rw [List.length_append, List.length_singleton]; omega
          cases ha : tmF sl n 999 ((nx s1).2.2.2, vs1) with
          | none => exact ⟨fun _ => h1.tr (hE.no hF2 (by omega) ha), fun M DM s' vs' hx => by cases hx⟩
          | some y =>
            obtain ⟨M2, DM2, ⟨s2, vs2⟩, pr2⟩ := y
            obtain ⟨N2, h2⟩ := hE.yes (N := N1) (Q := Q ++ [dotP] ++ E) (pu := 4) (ow := 0) hF2 (by omega) ha
            rw [popF_c] at h2
            unfold whF at h2
            dsimp only at h2
            rw [if_neg (by decide), if_neg (by decide), if_pos rfl] at h2
            have h3 := h1.tr h2
            dsimp only
            by_cases h93 : isMk s2 93 = true
            · rw [if_pos h93] at h3 ⊢
              refine ⟨fun hx => (by cases hx), fun M DM s' vs' hx => ?_⟩
              cases hx
              rw [sL_l, List.append_assoc, List.append_assoc] at h3
              exact ⟨N2, h3⟩
            · rw [if_neg h93] at h3 ⊢
              exact ⟨fun _ => h3, fun M DM s' vs' hx => by cases hx⟩
        · rw [if_neg h124] at h1 ⊢
          by_cases h93 : isMk s1 93 = true
          · rw [if_pos h93] at h1 ⊢
            refine ⟨fun hx => (by cases hx), fun M DM s' vs' hx => ?_⟩
            cases hx
            rw [List.append_assoc, List.append_assoc] at h1
            exact ⟨_, h1⟩
          · rw [if_neg h93] at h1 ⊢
            exact ⟨fun _ => h1, fun M DM s' vs' hx => by cases hx⟩
end PB
