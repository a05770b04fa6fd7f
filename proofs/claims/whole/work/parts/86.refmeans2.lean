-- the steps come to what the reader by levels says: terms
section PC
variable {sl : List xSl} {F G : List xFr} {f h : xFr} {s s' : List Nat} {vs N vs' : List (List Nat)} {Q : List xIt}
theorem ins_a {L : List xIt} {p : xIt} : ins (Q ++ L) Q.length p = Q ++ p :: L := by
  unfold ins
  rw [List.take_left, List.drop_left]
theorem rst_E {n : Nat} (hsl : ∀ e ∈ sl, ¬ e.1 = 0 ∧ e.2.1 ≤ 1200) (hE : EN sl n) (hF : F.length + 1 + n = 11) {most : Int} {pu ow : Nat} : ∀ (m : Nat) (s : List Nat) (vs N : List (List Nat)) (L : List xIt) (D pr : Nat), s.length < m → s.length ≤ 120 →
    (rst sl (tmF sl n) m most (L, D, (s, vs), pr) = none → RS sl (s, vs, N, Q ++ L, F ++ [(most, Q.length, (pr : Int), pu, ow)]) none) ∧
    (∀ L' D' s' vs' pr', rst sl (tmF sl n) m most (L, D, (s, vs), pr) = some (L', D', (s', vs'), pr') → ∃ N', RS sl (s, vs, N, Q ++ L, F ++ [(most, Q.length, (pr : Int), pu, ow)]) (popF s' vs' N' (Q ++ L') F (most, Q.length, (pr' : Int), pu, ow)))
  | 0, s, vs, N, L, D, pr, hm, hs => by omega
  | m + 1, s, vs, N, L, D, pr, hm, hs => by
    have hg : stF sl (s, vs, N, Q ++ L, F ++ [(most, Q.length, (pr : Int), pu, ow)]) = goF sl s vs N (Q ++ L) F (most, Q.length, (pr : Int), pu, ow) := stF_g (by dsimp only; omega)
    have stay : ∀ N1, goF sl s vs N (Q ++ L) F (most, Q.length, (pr : Int), pu, ow) = popF s vs N1 (Q ++ L) F (most, Q.length, (pr : Int), pu, ow) → rst sl (tmF sl n) (m + 1) most (L, D, (s, vs), pr) = some (L, D, (s, vs), pr) →
        (rst sl (tmF sl n) (m + 1) most (L, D, (s, vs), pr) = none → RS sl (s, vs, N, Q ++ L, F ++ [(most, Q.length, (pr : Int), pu, ow)]) none) ∧
        (∀ L' D' s' vs' pr', rst sl (tmF sl n) (m + 1) most (L, D, (s, vs), pr) = some (L', D', (s', vs'), pr') → ∃ N', RS sl (s, vs, N, Q ++ L, F ++ [(most, Q.length, (pr : Int), pu, ow)]) (popF s' vs' N' (Q ++ L') F (most, Q.length, (pr' : Int), pu, ow))) := by
      intro N1 h1 h2
      rw [h2]
      refine ⟨fun hx => (by cases hx), fun L' D' s' vs' pr' hx => ?_⟩
      cases hx
      refine ⟨N1, RS.st ?_⟩
      rw [hg, h1]
      exact RO.refl _
    by_cases h7 : (nx s).1 = 7
    · have e : rst sl (tmF sl n) (m + 1) most (L, D, (s, vs), pr) = none := by
        unfold rst
        rw [if_pos h7]
      rw [e]
      refine ⟨fun _ => RS.st ?_, fun L' D' s' vs' pr' hx => by cases hx⟩
      rw [hg, goF_7 h7]
      rfl
    · cases hx : opB sl (tK (nx s)) with
      | none =>
        refine stay N ?_ ?_
        · unfold goF
          rw [if_neg h7, hx]
        · unfold rst
          rw [if_neg h7, hx]
      | some e =>
        by_cases hc : (e.2.1 : Int) ≤ most ∧ (pr : Int) ≤ oLeft (some e)
        · have h6 : (nx s).1 < 6 := opB_k (fun e he => (hsl e he).1) hx
          have hl := (nx_tkc h6).2
          by_cases hi : oInf (some e) = true
          · by_cases hb : bgn (nx (nx s).2.2.2) = true
            · have e1 : goF sl s vs N (Q ++ L) F (most, Q.length, (pr : Int), pu, ow) = psh (F ++ [(most, Q.length, (pr : Int), pu, ow)]) (nx s).2.2.2 vs (nmA N (nmOf (nx s))) (Q ++ (3, 0, nmOf (nx s), 2) :: L) (oRight (some e)) 7 e.2.1 := by
                unfold goF
                rw [if_neg h7, hx]
                dsimp only
                rw [if_pos hc, if_pos hi, if_pos hb, ins_a]
              have e2 : rst sl (tmF sl n) (m + 1) most (L, D, (s, vs), pr) = (match tmF sl n (oRight (some e)) ((nx s).2.2.2, vs) with
                  | none => none
                  | some (R, DR, st', _) => rst sl (tmF sl n) m most ((3, 0, nmOf (nx s), 2) :: (L ++ R), max D DR + 1, st', e.2.1)) := by
                conv => lhs; unfold rst
                rw [if_neg h7, hx]
                dsimp only
                rw [if_pos hc, if_pos hi, if_pos hb]
                rfl
              rw [e2]
              have hF1 : (F ++ [(most, Q.length, (pr : Int), pu, ow)]).length + n = 11 := by rw [List.length_append, List.length_singleton]; omega
              cases ht : tmF sl n (oRight (some e)) ((nx s).2.2.2, vs) with
              | none =>
                refine ⟨fun _ => RS.st ?_, fun L' D' s' vs' pr' hx => by cases hx⟩
                rw [hg, e1]
                exact hE.no hF1 (by omega) ht
              | some x =>
                obtain ⟨R, DR, ⟨s1, vs1⟩, pr1⟩ := x
                have hl1 := tm_len hsl ht
                dsimp only at hl1
                obtain ⟨N1, h1⟩ := hE.yes (N := nmA N (nmOf (nx s))) (Q := Q ++ (3, 0, nmOf (nx s), 2) :: L) (pu := 7) (ow := e.2.1) hF1 (by omega) ht
                rw [popF_c] at h1
                unfold whF at h1
                dsimp only at h1
                rw [if_pos (Or.inr rfl), List.append_assoc, List.cons_append] at h1
                have h2 : RS sl (s, vs, N, Q ++ L, F ++ [(most, Q.length, (pr : Int), pu, ow)]) (some (s1, vs1, N1, Q ++ (3, 0, nmOf (nx s), 2) :: (L ++ R), F ++ [(most, Q.length, (e.2.1 : Int), pu, ow)])) := RS.st (by
                  rw [hg, e1]
                  exact h1)
                obtain ⟨i0, i1⟩ := rst_E hsl hE hF (most := most) (pu := pu) (ow := ow) m s1 vs1 N1 ((3, 0, nmOf (nx s), 2) :: (L ++ R)) (max D DR + 1) e.2.1 (by omega) (by omega)
                refine ⟨fun hx => h2.tr (i0 hx), fun L' D' s' vs' pr' hx => ?_⟩
                obtain ⟨N2, h3⟩ := i1 L' D' s' vs' pr' hx
                exact ⟨N2, h2.tr h3⟩
            · refine stay (nmA N (nmOf (nx s))) ?_ ?_
              · unfold goF
                rw [if_neg h7, hx]
                dsimp only
                rw [if_pos hc, if_pos hi, if_neg hb]
              · unfold rst
                rw [if_neg h7, hx]
                dsimp only
                rw [if_pos hc, if_pos hi, if_neg hb]
          · have e1 : goF sl s vs N (Q ++ L) F (most, Q.length, (pr : Int), pu, ow) = some ((nx s).2.2.2, vs, nmA N (nx s).2.2.1, Q ++ (3, 0, (nx s).2.2.1, 1) :: L, F ++ [(most, Q.length, (e.2.1 : Int), pu, ow)]) := by
              unfold goF
              rw [if_neg h7, hx]
              dsimp only
              rw [if_pos hc, if_neg hi, ins_a]
              rfl
            have e2 : rst sl (tmF sl n) (m + 1) most (L, D, (s, vs), pr) = rst sl (tmF sl n) m most ((3, 0, (nx s).2.2.1, 1) :: L, D + 1, ((nx s).2.2.2, vs), e.2.1) := by
              conv => lhs; unfold rst
              rw [if_neg h7, hx]
              dsimp only
              rw [if_pos hc, if_neg hi]
            rw [e2]
            have h2 : RS sl (s, vs, N, Q ++ L, F ++ [(most, Q.length, (pr : Int), pu, ow)]) (some ((nx s).2.2.2, vs, nmA N (nx s).2.2.1, Q ++ (3, 0, (nx s).2.2.1, 1) :: L, F ++ [(most, Q.length, (e.2.1 : Int), pu, ow)])) := RS.st (by
              rw [hg, e1]
              exact RO.refl _)
            obtain ⟨i0, i1⟩ := rst_E hsl hE hF (most := most) (pu := pu) (ow := ow) m (nx s).2.2.2 vs (nmA N (nx s).2.2.1) ((3, 0, (nx s).2.2.1, 1) :: L) (D + 1) e.2.1 (by omega) (by omega)
            refine ⟨fun hx => h2.tr (i0 hx), fun L' D' s' vs' pr' hx => ?_⟩
            obtain ⟨N2, h3⟩ := i1 L' D' s' vs' pr' hx
            exact ⟨N2, h2.tr h3⟩
        · refine stay N ?_ ?_
          · unfold goF
            rw [if_neg h7, hx]
            dsimp only
            rw [if_neg hc]
          · unfold rst
            rw [if_neg h7, hx]
            dsimp only
            rw [if_neg hc]
theorem fst1_E {n : Nat} (hsl : ∀ e ∈ sl, ¬ e.1 = 0 ∧ e.2.1 ≤ 1200) (hE : EN sl n) (hF : F.length + 1 + n = 11) {most : Int} {pu ow : Nat} (hs : s.length ≤ 120) :
    (fst1 sl (tmF sl n) most (s, vs) = none → RS sl (s, vs, N, Q, F ++ [(most, Q.length, -1, pu, ow)]) none) ∧
    (∀ L D s' vs' pr, fst1 sl (tmF sl n) most (s, vs) = some (L, D, (s', vs'), pr) → ∃ N', RS sl (s, vs, N, Q, F ++ [(most, Q.length, -1, pu, ow)]) (some (s', vs', N', Q ++ L, F ++ [(most, Q.length, (pr : Int), pu, ow)]))) := by
  have hg : stF sl (s, vs, N, Q, F ++ [(most, Q.length, -1, pu, ow)]) = bgF sl s vs N Q F (most, Q.length, -1, pu, ow) := stF_b (show (-1 : Int) < 0 by decide)
  have hF1 : (F ++ [((most, Q.length, -1, pu, ow) : xFr)]).length + n = 11 := by rw [List.length_append, List.length_singleton]; omega
  -- at once
  have one : ∀ (L : List xIt) (D : Nat) (s1 : List Nat) (vs1 N1 : List (List Nat)), fst1 sl (tmF sl n) most (s, vs) = some (L, D, (s1, vs1), 0) → bgF sl s vs N Q F (most, Q.length, -1, pu, ow) = some (s1, vs1, N1, Q ++ L, F ++ [sL (most, Q.length, -1, pu, ow) 0]) →
      (fst1 sl (tmF sl n) most (s, vs) = none → RS sl (s, vs, N, Q, F ++ [(most, Q.length, -1, pu, ow)]) none) ∧
      (∀ L D s' vs' pr, fst1 sl (tmF sl n) most (s, vs) = some (L, D, (s', vs'), pr) → ∃ N', RS sl (s, vs, N, Q, F ++ [(most, Q.length, -1, pu, ow)]) (some (s', vs', N', Q ++ L, F ++ [(most, Q.length, (pr : Int), pu, ow)]))) := by
    intro L D s1 vs1 N1 e1 e2
    rw [e1]
    refine ⟨fun hx => (by cases hx), fun L' D' s' vs' pr hx => ?_⟩
    cases hx
    refine ⟨N1, RS.st ?_⟩
    rw [hg, e2]
    exact RO.refl _
  have bad : fst1 sl (tmF sl n) most (s, vs) = none → RO sl (bgF sl s vs N Q F (most, Q.length, -1, pu, ow)) none →
      (fst1 sl (tmF sl n) most (s, vs) = none → RS sl (s, vs, N, Q, F ++ [(most, Q.length, -1, pu, ow)]) none) ∧
      (∀ L D s' vs' pr, fst1 sl (tmF sl n) most (s, vs) = some (L, D, (s', vs'), pr) → ∃ N', RS sl (s, vs, N, Q, F ++ [(most, Q.length, -1, pu, ow)]) (some (s', vs', N', Q ++ L, F ++ [(most, Q.length, (pr : Int), pu, ow)]))) := by
    intro e1 e2
    rw [e1]
    refine ⟨fun _ => RS.st ?_, fun L' D' s' vs' pr hx => by cases hx⟩
    rw [hg]
    exact e2
  have good : ∀ (L : List xIt) (D : Nat) (s1 : List Nat) (vs1 N1 : List (List Nat)) (pr : Nat), fst1 sl (tmF sl n) most (s, vs) = some (L, D, (s1, vs1), pr) → RO sl (bgF sl s vs N Q F (most, Q.length, -1, pu, ow)) (some (s1, vs1, N1, Q ++ L, F ++ [(most, Q.length, (pr : Int), pu, ow)])) →
      (fst1 sl (tmF sl n) most (s, vs) = none → RS sl (s, vs, N, Q, F ++ [(most, Q.length, -1, pu, ow)]) none) ∧
      (∀ L D s' vs' pr, fst1 sl (tmF sl n) most (s, vs) = some (L, D, (s', vs'), pr) → ∃ N', RS sl (s, vs, N, Q, F ++ [(most, Q.length, -1, pu, ow)]) (some (s', vs', N', Q ++ L, F ++ [(most, Q.length, (pr : Int), pu, ow)]))) := by
    intro L D s1 vs1 N1 pr e1 e2
    rw [e1]
    refine ⟨fun hx => (by cases hx), fun L' D' s' vs' pr' hx => ?_⟩
    cases hx
    refine ⟨N1, RS.st ?_⟩
    rw [hg]
    exact e2
  by_cases k3 : (nx s).1 = 3
  · refine one [(1, ((nx s).2.1 : Int), [], 0)] 1 (nx s).2.2.2 vs N ?_ ?_
    · unfold fst1
      rw [if_pos k3]
    · unfold bgF
      rw [if_pos k3]
  by_cases k2 : (nx s).1 = 2
  · refine one [(0, (vno vs (nx s).2.2.1 : Int), [], 0)] 1 (nx s).2.2.2 (vnx vs (nx s).2.2.1) (nmA N (nx s).2.2.1) ?_ ?_
    · unfold fst1
      rw [if_neg k3, if_pos k2]
    · unfold bgF
      rw [if_neg k3, if_pos k2]
  by_cases k4 : (nx s).1 = 4
  · refine one (strL (nx s).2.2.1) ((nx s).2.2.1.length + 1) (nx s).2.2.2 vs (nmA (nmA N [46]) [91, 93]) ?_ ?_
    · unfold fst1
      rw [if_neg k3, if_neg k2, if_pos k4]
    · unfold bgF
      rw [if_neg k3, if_neg k2, if_pos k4]
  by_cases k1 : (nx s).1 = 1
  · have eB : bgF sl s vs N Q F (most, Q.length, -1, pu, ow) = nbF sl s vs N Q F (most, Q.length, -1, pu, ow) := by
      unfold bgF
      rw [if_neg k3, if_neg k2, if_neg k4, if_pos k1]
    have hl := (nx_tkc (s := s) (by omega)).2
    by_cases hm : isMin s (nx s) = true
    · by_cases h3 : (nx (nx s).2.2.2).1 = 3
      · refine one [(1, -((nx (nx s).2.2.2).2.1 : Int), [], 0)] 1 (nx (nx s).2.2.2).2.2.2 vs N ?_ ?_
        · unfold fst1
          rw [if_neg k3, if_neg k2, if_neg k4, if_pos k1, if_pos hm, if_pos h3]
        · rw [eB]
          unfold nbF
          rw [if_pos hm, if_pos h3]
      · refine bad ?_ ?_
        · unfold fst1
          rw [if_neg k3, if_neg k2, if_neg k4, if_pos k1, if_pos hm, if_neg h3]
        · rw [eB]
          unfold nbF
          rw [if_pos hm, if_neg h3]
          rfl
    by_cases hc : isCal (nx s) = true
    · have eF : fst1 sl (tmF sl n) most (s, vs) = (match args (tmF sl n) 6 ((nx s).2.2.2.tail, vs) with
          | none => none
          | some (As, k, DA, st') => some ((3, 0, (nx s).2.2.1, k) :: As, DA + 1, st', 0)) := by
        unfold fst1
        rw [if_neg k3, if_neg k2, if_neg k4, if_pos k1, if_neg hm, if_pos hc]
        rfl
      have eN : bgF sl s vs N Q F (most, Q.length, -1, pu, ow) = psh (F ++ [(most, Q.length, -1, pu, ow)]) (nx s).2.2.2.tail vs (nmA N (nx s).2.2.1) (Q ++ [(3, 0, (nx s).2.2.1, 0)]) 999 2 Q.length := by
        rw [eB]
        unfold nbF
        rw [if_neg hm, if_pos hc]
      have hl2 : (nx s).2.2.2.tail.length ≤ 120 := by
        rw [List.length_tail]
        omega
      obtain ⟨i0, i1⟩ := args_E hsl hE hF (Q := Q) (w := (nx s).2.2.1) 6 0 (nx s).2.2.2.tail vs (nmA N (nx s).2.2.1) [] (most, Q.length, -1, pu, ow) (by omega) hl2
      cases ha : args (tmF sl n) 6 ((nx s).2.2.2.tail, vs) with
      | none =>
        refine bad (by rw [eF, ha]) ?_
        rw [eN]
        exact i0 ha
      | some y =>
        obtain ⟨As, k, DA, ⟨s1, vs1⟩⟩ := y
        obtain ⟨N1, h1⟩ := i1 As k DA s1 vs1 ha
        refine good ((3, 0, (nx s).2.2.1, k) :: As) (DA + 1) s1 vs1 N1 0 (by rw [eF, ha]) ?_
        rw [eN]
        rw [Nat.zero_add, List.nil_append] at h1
        exact h1
    · cases hp : pfx sl most s with
      | none =>
        refine one [(2, 0, (nx s).2.2.1, 0)] 1 (nx s).2.2.2 vs (nmA N (nx s).2.2.1) ?_ ?_
        · unfold fst1
          rw [if_neg k3, if_neg k2, if_neg k4, if_pos k1, if_neg hm, if_neg hc, hp]
        · rw [eB]
          unfold nbF
          rw [if_neg hm, if_neg hc]
          dsimp only
          rw [hp]
      | some e =>
        have eF : fst1 sl (tmF sl n) most (s, vs) = (match tmF sl n (oRight (some e)) ((nx s).2.2.2, vs) with
            | none => none
            | some (R, DR, st', _) => some ((3, 0, (nx s).2.2.1, 1) :: R, DR + 1, st', e.2.1)) := by
          unfold fst1
          rw [if_neg k3, if_neg k2, if_neg k4, if_pos k1, if_neg hm, if_neg hc, hp]
          rfl
        have eN : bgF sl s vs N Q F (most, Q.length, -1, pu, ow) = psh (F ++ [(most, Q.length, -1, pu, ow)]) (nx s).2.2.2 vs (nmA N (nx s).2.2.1) (Q ++ [(3, 0, (nx s).2.2.1, 1)]) (oRight (some e)) 6 e.2.1 := by
          rw [eB]
          unfold nbF
          rw [if_neg hm, if_neg hc]
          dsimp only
          rw [hp]
        cases ht : tmF sl n (oRight (some e)) ((nx s).2.2.2, vs) with
        | none =>
          refine bad (by rw [eF, ht]) ?_
          rw [eN]
          exact hE.no hF1 (by omega) ht
        | some x =>
          obtain ⟨R, DR, ⟨s1, vs1⟩, pr1⟩ := x
          obtain ⟨N1, h1⟩ := hE.yes (N := nmA N (nx s).2.2.1) (Q := Q ++ [(3, 0, (nx s).2.2.1, 1)]) (pu := 6) (ow := e.2.1) hF1 (by omega) ht
          rw [popF_c] at h1
          unfold whF at h1
          dsimp only at h1
          rw [if_pos (Or.inl rfl), List.append_assoc] at h1
          refine good ((3, 0, (nx s).2.2.1, 1) :: R) (DR + 1) s1 vs1 N1 e.2.1 (by rw [eF, ht]) ?_
          rw [eN]
          exact h1
  by_cases m40 : isMk s 40 = true
  · have hl := isMk_l m40
    have eF : fst1 sl (tmF sl n) most (s, vs) = (match tmF sl n 1200 ((nx s).2.2.2, vs) with
        | none => none
        | some (R, DR, st', _) => if isMk st'.1 41 = true then some (R, DR, ((nx st'.1).2.2.2, st'.2), 0) else none) := by
      unfold fst1
      rw [if_neg k3, if_neg k2, if_neg k4, if_neg k1, if_pos m40]
      rfl
    have eN : bgF sl s vs N Q F (most, Q.length, -1, pu, ow) = psh (F ++ [(most, Q.length, -1, pu, ow)]) (nx s).2.2.2 vs N Q 1200 1 0 := by
      unfold bgF
      rw [if_neg k3, if_neg k2, if_neg k4, if_neg k1, if_pos m40]
    cases ht : tmF sl n 1200 ((nx s).2.2.2, vs) with
    | none =>
      refine bad (by rw [eF, ht]) ?_
      rw [eN]
      exact hE.no hF1 (by omega) ht
    | some x =>
      obtain ⟨R, DR, ⟨s1, vs1⟩, pr1⟩ := x
      obtain ⟨N1, h1⟩ := hE.yes (N := N) (Q := Q) (pu := 1) (ow := 0) hF1 (by omega) ht
      rw [popF_c] at h1
      unfold whF at h1
      dsimp only at h1
      rw [if_neg (by decide), if_pos rfl] at h1
      rw [ht] at eF
      dsimp only at eF
      by_cases m41 : isMk s1 41 = true
      · rw [if_pos m41] at h1 eF
        refine good R DR (nx s1).2.2.2 vs1 N1 0 eF ?_
        rw [eN]
        exact h1
      · rw [if_neg m41] at h1 eF
        refine bad eF ?_
        rw [eN]
        exact h1
  by_cases m123 : isMk s 123 = true
  · have hl := isMk_l m123
    have n91 : ¬ isMk s 91 = true := fun q => by
      have q1 := (isMk_5.mp q).2
      have q2 := (isMk_5.mp m123).2
      omega
    have eF : fst1 sl (tmF sl n) most (s, vs) = (match tmF sl n 1200 ((nx s).2.2.2, vs) with
        | none => none
        | some (R, DR, st', _) => if isMk st'.1 125 = true then some ((3, 0, [123, 125], 1) :: R, DR + 1, ((nx st'.1).2.2.2, st'.2), 0) else none) := by
      unfold fst1
      rw [if_neg k3, if_neg k2, if_neg k4, if_neg k1, if_neg m40, if_pos m123]
      rfl
    have eN : bgF sl s vs N Q F (most, Q.length, -1, pu, ow) = psh (F ++ [(most, Q.length, -1, pu, ow)]) (nx s).2.2.2 vs (nmA N [123, 125]) (Q ++ [(3, 0, [123, 125], 1)]) 1200 5 0 := by
      unfold bgF
      rw [if_neg k3, if_neg k2, if_neg k4, if_neg k1, if_neg m40, if_neg n91, if_pos m123]
    cases ht : tmF sl n 1200 ((nx s).2.2.2, vs) with
    | none =>
      refine bad (by rw [eF, ht]) ?_
      rw [eN]
      exact hE.no hF1 (by omega) ht
    | some x =>
      obtain ⟨R, DR, ⟨s1, vs1⟩, pr1⟩ := x
      obtain ⟨N1, h1⟩ := hE.yes (N := nmA N [123, 125]) (Q := Q ++ [(3, 0, [123, 125], 1)]) (pu := 5) (ow := 0) hF1 (by omega) ht
      rw [popF_c] at h1
      unfold whF at h1
      dsimp only at h1
      rw [if_neg (by decide), if_neg (by decide), if_neg (by decide), if_pos rfl, List.append_assoc] at h1
      rw [ht] at eF
      dsimp only at eF
      by_cases m125 : isMk s1 125 = true
      · rw [if_pos m125] at h1 eF
        refine good ((3, 0, [123, 125], 1) :: R) (DR + 1) (nx s1).2.2.2 vs1 N1 0 eF ?_
        rw [eN]
        exact h1
      · rw [if_neg m125] at h1 eF
        refine bad eF ?_
        rw [eN]
        exact h1
  by_cases m91 : isMk s 91 = true
  · have hl := isMk_l m91
    have eF : fst1 sl (tmF sl n) most (s, vs) = (match lst (tmF sl n) 120 ((nx s).2.2.2, vs) with
        | none => none
        | some (M, DM, st') => some (M, DM, st', 0)) := by
      unfold fst1
      rw [if_neg k3, if_neg k2, if_neg k4, if_neg k1, if_neg m40, if_neg m123, if_pos m91]
      rfl
    have eN : bgF sl s vs N Q F (most, Q.length, -1, pu, ow) = psh (F ++ [(most, Q.length, -1, pu, ow)]) (nx s).2.2.2 vs (nmA N [46]) (Q ++ [dotP]) 999 3 0 := by
      unfold bgF
      rw [if_neg k3, if_neg k2, if_neg k4, if_neg k1, if_neg m40, if_pos m91]
    obtain ⟨i0, i1⟩ := lst_E hsl hE hF 120 (nx s).2.2.2 vs (nmA N [46]) Q (most, Q.length, -1, pu, ow) (by omega) (by omega)
    cases ha : lst (tmF sl n) 120 ((nx s).2.2.2, vs) with
    | none =>
      refine bad (by rw [eF, ha]) ?_
      rw [eN]
      exact i0 ha
    | some y =>
      obtain ⟨M, DM, ⟨s1, vs1⟩⟩ := y
      obtain ⟨N1, h1⟩ := i1 M DM s1 vs1 ha
      refine good M DM s1 vs1 N1 0 (by rw [eF, ha]) ?_
      rw [eN]
      exact h1
  · refine bad ?_ ?_
    · unfold fst1
      rw [if_neg k3, if_neg k2, if_neg k4, if_neg k1, if_neg m40, if_neg m123, if_neg m91]
    · unfold bgF
      rw [if_neg k3, if_neg k2, if_neg k4, if_neg k1, if_neg m40, if_neg m91, if_neg m123]
      rfl
theorem EN_all (hsl : ∀ e ∈ sl, ¬ e.1 = 0 ∧ e.2.1 ≤ 1200) : ∀ n, EN sl n
  | 0 => by
    intro F hF most s vs N Q pu ow hs
    refine ⟨fun _ => ?_, fun L D s' vs' pr h => by cases h⟩
    unfold psh
    rw [if_neg (by omega)]
    rfl
  | n + 1 => by
    intro F hF most s vs N Q pu ow hs
    have hE := EN_all hsl n
    have hp : psh F s vs N Q most pu ow = some (s, vs, N, Q, F ++ [(most, Q.length, -1, pu, ow)]) := by
      unfold psh
      rw [if_pos (by omega)]
    rw [hp]
    obtain ⟨i0, i1⟩ := fst1_E hsl hE (F := F) (N := N) (Q := Q) (vs := vs) (most := most) (pu := pu) (ow := ow) (by omega) hs
    have eT : tmF sl (n + 1) most (s, vs) = (fst1 sl (tmF sl n) most (s, vs)).bind (rst sl (tmF sl n) 120 most) := rfl
    cases hf : fst1 sl (tmF sl n) most (s, vs) with
    | none =>
      rw [eT, hf]
      exact ⟨fun _ => i0 hf, fun L D s' vs' pr h => by cases h⟩
    | some x =>
      obtain ⟨L, D, ⟨s1, vs1⟩, pr⟩ := x
      rw [eT, hf]
      obtain ⟨N1, h1⟩ := i1 L D s1 vs1 pr hf
      have hI := fst1_I hsl (tmF_I hsl n) hf
      have hl := hI.1.len
      have hl2 := hI.2.1
      dsimp only at hl hl2
      obtain ⟨j0, j1⟩ := rst_E hsl hE (F := F) (Q := Q) (most := most) (pu := pu) (ow := ow) (by omega) 120 s1 vs1 N1 L D pr (by omega) (by omega)
      refine ⟨fun h => h1.tr (j0 h), fun L' D' s' vs' pr' h => ?_⟩
      obtain ⟨N2, h2⟩ := j1 L' D' s' vs' pr' h
      exact ⟨N2, h1.tr h2⟩
end PC
