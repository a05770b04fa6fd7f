-- what the pile writes: lists, terms
section PH
variable {sl : List xSl} {N : List (List Nat)} {Q : List xIt} {K : List (Int32 × Int32) → List Nat → Prop}
theorem dr_tl {L R : List xIt} {p : xIt} {k : Nat} (h : Q.drop k = p :: L ++ R) : Q.drop (k + 1) = L ++ R := by
  have := congrArg List.tail h
  rwa [List.tail_drop] at this
theorem dr_sk {L X : List xIt} {k : Nat} (h : Q.drop k = L ++ X) : Q.drop (k + L.length) = X := by
  rw [← List.drop_drop, h, List.drop_left]
theorem dr_lt {X : List xIt} {p : xIt} {k : Nat} (h : Q.drop k = p :: X) : Q[k]? = some p ∧ k < Q.length := by
  have h1 := dr_get (L := []) (q := p) (R := X) (k := k) (Q := Q) h
  rw [List.length_nil, Nat.add_zero] at h1
  exact ⟨h1, (List.getElem?_eq_some_iff.mp h1).1⟩
theorem nil_no {q : xIt} (h : isDotP q = true) : isNilP q = false := by
  unfold isDotP at h
  unfold isNilP
  simp only [Bool.and_eq_true, decide_eq_true_eq] at h
  rw [decide_eq_false (by omega)]
  rfl
theorem ls_K {f Dm : Nat} (hK : KC sl N Q K) (hQ : Q.length ≤ 1000) (hPT : ∀ D, D ≤ Dm → PTP sl Q K f D) (hX : ∀ D L, D ≤ Dm → trP D L → okL anyN L → ∀ most : Int, ∃ o, ∀ R, wrt sl f most (L ++ R) = (o, R)) : ∀ (n D De : Nat) (E M : List xIt) (q : xIt) (M1 R : List xIt) (r : Nat) (S : List (Int32 × Int32)) (w : List Nat), trP D M → D ≤ n → D ≤ Dm → trP De E → De ≤ Dm → okL anyN E → okL anyN M → M = q :: M1 → Q.drop (r + 1) = E ++ (M ++ R) → S.length + 14 * Dm + 6 ≤ 880 → w.length + ((wrt sl f 999 (E ++ (M ++ R))).1 ++ ((lsW (wrt sl f) n (M ++ R)).1 ++ [93])).length ≤ 2500 → K S (w ++ ((wrt sl f 999 (E ++ (M ++ R))).1 ++ ((lsW (wrt sl f) n (M ++ R)).1 ++ [93]))) → K (lsS S r (r + 1 + E.length) q) w
  | 0, D, De, E, M, q, M1, R, r, S, w, hM, hn, _, _, _, _, _, _, _, _, _, _ => by
    have : D = 0 := by omega
    subst this
    exact hM.elim
  | n + 1, 0, De, E, M, q, M1, R, r, S, w, hM, hn, _, _, _, _, _, _, _, _, _, _ => hM.elim
  | n + 1, D + 1, De, E, M, q, M1, R, r, S, w, hM, hn, hDm, hE, hDe, okE, okM, eM, hd, hS, hw, kk => by
    have hM0 := hM
    obtain ⟨q', M1', eM', hqi, hq3, hch⟩ := hM
    rw [eM] at eM'
    cases eM'
    obtain ⟨oE, hoE⟩ := hX De E hDe hE okE 999
    rw [hoE (M ++ R)] at hw kk
    dsimp only at hw kk
    have hqp : okP q := (okM q (by rw [eM]; exact List.mem_cons_self)).1
    have eoE : outY sl f 999 999 (E ++ (M ++ R)) = oE := by
      unfold outY
      rw [if_neg (by decide), hoE]
    rw [List.length_append, List.length_append, List.length_singleton] at hw
    -- the element first
    have elem : ∀ S', S'.length ≤ S.length + 4 → K S' (w ++ oE) → K ((nI (r + 1), 999) :: S') w := by
      intro S' hS' k'
      exact hPT De hDe E (M ++ R) (r + 1) 999 999 S' w hE okE hd (by decide) (fun e _ => by omega) (by omega) (by rw [eoE]; omega) (by rw [eoE]; exact k')
    have hdM : Q.drop (r + 1 + E.length) = M ++ R := dr_sk hd
    by_cases hdt : isDotP q = true
    · have hnl := nil_no hdt
      obtain ⟨_, h2⟩ := dot_2 hdt
      rw [h2] at hch
      obtain ⟨E2, M2, t1, t2, eL⟩ := chP_2 hch
      obtain ⟨q2, M3, e2, hqi2, hq32⟩ := trP_hd t2
      have okM1 : okL anyN (E2 ++ M2) := by
        rw [← eL]
        rw [eM] at okM
        exact okM.tail
      obtain ⟨oE2, hoE2⟩ := hX D E2 (by omega) t1 okM1.left 999
      have e4 : (lsW (wrt sl f) (n + 1) (M ++ R)).1 = 44 :: (oE2 ++ (lsW (wrt sl f) n (M2 ++ R)).1) := by
        rw [eM]
        show (if isDotP q = true then _ else _ : List Nat × List xIt).1 = _
        rw [if_pos hdt]
        have e5 : (q :: M1 ++ R).tail = E2 ++ (M2 ++ R) := by
          rw [List.cons_append, List.tail_cons, eL, List.append_assoc]
        rw [e5, hoE2]
      rw [e4] at hw kk
      rw [List.length_cons, List.length_append] at hw
      have els : lsS S r (r + 1 + E.length) q = (nI (r + 1), 999) :: (nI (r + 1 + E.length), 5000) :: S := by
        unfold lsS
        rw [if_neg (by simp [hnl]), if_pos hdt]
      rw [els]
      refine elem _ (by rw [List.length_cons]; omega) ?_
      rw [eM] at hdM
      have hlt := (dr_lt (X := M1 ++ R) hdM).2
      have hd2 : Q.drop (r + 1 + E.length + 1) = E2 ++ (M2 ++ R) := by
        have := dr_tl hdM
        rwa [eL, List.append_assoc] at this
      refine hK.2.2.1 (r + 1 + E.length) E2 (M3 ++ R) q2 S (w ++ oE) (by rw [hd2, e2]; rfl) (trP_tm t1) (okM1.right q2 (by rw [e2]; exact List.mem_cons_self)).1 hqi2 (by omega) (by rw [List.length_append]; omega) (by omega) ?_
      refine ls_K hK hQ hPT hX n D D E2 M2 q2 M3 R (r + 1 + E.length) S (w ++ oE ++ [44]) t2 (by omega) (by omega) t1 (by omega) okM1.left okM1.right e2 hd2 hS ?_ ?_
      · rw [hoE2]
        rw [List.length_append, List.length_append, List.length_singleton, List.length_append, List.length_append, List.length_singleton]
        dsimp only
        omega
      · rw [hoE2]
        have e7 : w ++ oE ++ [44] ++ ((oE2, M2 ++ R).1 ++ ((lsW (wrt sl f) n (M2 ++ R)).1 ++ [93])) = w ++ (oE ++ (44 :: (oE2 ++ (lsW (wrt sl f) n (M2 ++ R)).1) ++ [93])) := by simp
        rw [e7]
        exact kk
    · have hdt' : isDotP q = false := by simpa using hdt
      by_cases hnl : isNilP q = true
      · have e4 : (lsW (wrt sl f) (n + 1) (M ++ R)).1 = [] := by
          rw [eM]
          show (if isDotP q = true then _ else if isNilP q = true then _ else _ : List Nat × List xIt).1 = _
          rw [if_neg hdt, if_pos hnl]
        rw [e4] at hw kk
        have els : lsS S r (r + 1 + E.length) q = (nI (r + 1), 999) :: (-93, 0) :: S := by
          unfold lsS
          rw [if_pos hnl]
        rw [els]
        refine elem _ (by rw [List.length_cons]; omega) ?_
        exact hK.1 93 (-93) 0 S (w ++ oE) (by decide) (by decide) (by decide) (by rw [List.length_append]; omega) (by rw [List.append_assoc]; exact kk)
      · obtain ⟨oM, hoM⟩ := hX (D + 1) M hDm hM0 okM 999
        have e4 : (lsW (wrt sl f) (n + 1) (M ++ R)).1 = 124 :: oM := by
          have e5 := hoM R
          rw [eM] at e5 ⊢
          show (if isDotP q = true then _ else if isNilP q = true then _ else _ : List Nat × List xIt).1 = _
          rw [if_neg hdt, if_neg hnl, e5]
        rw [e4] at hw kk
        rw [List.length_cons] at hw
        have els : lsS S r (r + 1 + E.length) q = (nI (r + 1), 999) :: (-124, 0) :: (nI (r + 1 + E.length), 999) :: (-93, 0) :: S := by
          unfold lsS
          rw [if_neg hnl, if_neg hdt]
        rw [els]
        refine elem _ (by rw [List.length_cons, List.length_cons, List.length_cons]; omega) ?_
        refine hK.1 124 (-124) 0 _ (w ++ oE) (by decide) (by decide) (by decide) (by rw [List.length_append]; omega) ?_
        have eoM : outY sl f 999 999 (M ++ R) = oM := by
          unfold outY
          rw [if_neg (by decide), hoM]
        refine hPT (D + 1) hDm M R (r + 1 + E.length) 999 999 _ (w ++ oE ++ [124]) hM0 okM hdM (by decide) (fun e _ => by omega) (by rw [List.length_cons]; omega) (by rw [eoM, List.length_append, List.length_append, List.length_singleton]; omega) ?_
        rw [eoM]
        refine hK.1 93 (-93) 0 S _ (by decide) (by decide) (by decide) (by rw [List.length_append, List.length_append, List.length_append, List.length_singleton]; omega) ?_
        have e7 : w ++ oE ++ [124] ++ oM ++ [93] = w ++ (oE ++ (124 :: oM ++ [93])) := by simp
        rw [e7]
        exact kk
end PH
