-- what the pile writes: whole terms
section PI
variable {sl : List xSl} {N : List (List Nat)} {Q : List xIt} {K : List (Int32 × Int32) → List Nat → Prop}
theorem brk_ln2 (b : Bool) (o : List Nat) : o.length ≤ (brk b o).length ∧ (brk b o).length ≤ o.length + 2 := by
  unfold brk
  split
  · rw [List.length_cons, List.length_append, List.length_singleton]
    omega
  · omega
theorem br_tot (b : Bool) (w inn : List Nat) : (brW b w).length + inn.length ≤ w.length + (brk b inn).length := by
  cases b with
  | true =>
    show (w ++ [40]).length + inn.length ≤ w.length + (40 :: (inn ++ [41])).length
    simp only [List.length_append, List.length_cons, List.length_nil]
    omega
  | false => exact Nat.le_refl _
theorem pre_o {e : xSl} (h : isPre e.2.2 = true) : oPre (some e) = true := by
  unfold isPre at h
  unfold oPre
  rw [show slT (some e) = (e.2.2 : Int) from rfl]
  simp only [Bool.or_eq_true, decide_eq_true_eq] at h ⊢
  omega
theorem pre_n {e : xSl} (h : isPre e.2.2 = false) : oPre (some e) = false := by
  unfold isPre at h
  unfold oPre
  rw [show slT (some e) = (e.2.2 : Int) from rfl]
  simp only [Bool.or_eq_false_iff, decide_eq_false_iff_not] at h ⊢
  omega
theorem K_op {p : xIt} (hK : KC sl N Q K) {r Y : Nat} {e : xSl} {L L' R : List xIt} {q : xIt} {S : List (Int32 × Int32)} {w : List Nat} : Q[r]? = some p → okP p → okIt p → slF sl p = some e → isDotP p = false → isBrcP p = false → isTm L → L = q :: L' → okP q → okIt q → Q.drop (r + 1) = L ++ R → Y < 4000 → S.length + 9 ≤ 900 → w.length + (nmW p.2.2.1).length ≤ 2570 →
    (p.2.2.2 = 1 → opP sl (kP p) = some e → K ((nI (r + 1), nI (2000 + (oRight (some e)).toNat)) :: brS (brB sl p Y) S) (brW (brB sl p Y) w ++ (nmW p.2.2.1 ++ [32]))) →
    (p.2.2.2 = 1 → opP sl (kP p) = none → opB sl (kP p) = some e → ∀ j : Nat, N[j]? = some p.2.2.1 → K ((nI (r + 1), nI (2000 + lfN sl q e)) :: (-32, 0) :: (nI j, 6000) :: brS (brB sl p Y) S) (brW (brB sl p Y) w)) →
    (p.2.2.2 = 2 → opB sl (kP p) = some e → ∀ j : Nat, N[j]? = some p.2.2.1 → K (if kP p = 44 then (nI (r + 1), nI (2000 + lfN sl q e)) :: (-44, 6000) :: (nI (r + 1 + L.length), nI (2000 + (oRight (some e)).toNat)) :: brS (brB sl p Y) S else (nI (r + 1), nI (2000 + lfN sl q e)) :: (-32, 0) :: (nI j, 6000) :: (-32, 0) :: (nI (r + 1 + L.length), nI (2000 + (oRight (some e)).toNat)) :: brS (brB sl p Y) S) (brW (brB sl p Y) w)) → K ((nI r, nI Y) :: S) w := hK.2.2.2.2.2.2.1 r p Y e L L' R q S w
theorem opr_pre {W : xW1} {e : xSl} {p : xIt} {L : List xIt} (h : oPre (some e) = true) : (opr sl W e p L).1 = nmW p.2.2.1 ++ 32 :: (opd sl W (oRight (some e)) L).1 := by
  unfold opr
  rw [if_pos h]
theorem opr_post {W : xW1} {e : xSl} {p : xIt} {L : List xIt} (h : oPre (some e) = false) (h2 : oPost (some e) = true) : (opr sl W e p L).1 = (opd sl W (lfm sl e L) L).1 ++ 32 :: nmW p.2.2.1 := by
  unfold opr
  rw [if_neg (by simp [h]), if_pos h2]
theorem opr_inf {W : xW1} {e : xSl} {p : xIt} {L : List xIt} (h : oPre (some e) = false) (h2 : oPost (some e) = false) : (opr sl W e p L).1 = (opd sl W (lfm sl e L) L).1 ++ (ifx p ++ (opd sl W (oRight (some e)) (opd sl W (lfm sl e L) L).2).1) := by
  unfold opr
  rw [if_neg (by simp [h]), if_neg (by simp [h2])]
set_option maxHeartbeats 4000000 in
theorem PT_op {f D : Nat} (hK : KC sl N Q K) (hQ : Q.length ≤ 1000) (hpr : ∀ e ∈ sl, 1 ≤ e.2.1 ∧ e.2.1 ≤ 1200) (h46 : ∀ e ∈ sl, ¬ e.1 = 46) (h32 : ∀ e ∈ sl, ¬ e.1 = 32123) (hPT : PTP sl Q K f D) (hX : ∀ L, trP D L → okL anyN L → ∀ most : Int, ∃ o, ∀ R, wrt sl f most (L ++ R) = (o, R)) {p : xIt} {L1 R : List xIt} {r Y : Nat} {most : Int} {S : List (Int32 × Int32)} {w : List Nat} {e : xSl} (he : slF sl p = some e) (hp : okP p) (hi : okIt p) (hch : chP (trP D) p.2.2.2 L1) (hok : okL anyN L1) (hd : Q.drop r = p :: (L1 ++ R)) (hY : Y < 4000) (hm : most < (e.2.1 : Int) ↔ Y % 2000 < e.2.1) (hS : S.length + 14 * (D + 1) ≤ 880) (hw : w.length + (outY sl (f + 1) most Y (p :: (L1 ++ R))).length ≤ 2500) (k : K S (w ++ outY sl (f + 1) most Y (p :: (L1 ++ R)))) : K ((nI r, nI Y) :: S) w := by
  obtain ⟨h3, he1, he2, he3⟩ := slF_e he
  have heb := hpr e he1
  have hRb := oR_b heb
  have hlb := fun q => lfN_b (sl := sl) (q := q) heb
  obtain ⟨hr, hrl⟩ := dr_lt hd
  have hd1 : Q.drop (r + 1) = L1 ++ R := by
    have := congrArg List.tail hd
    rwa [List.tail_drop] at this
  have hnd : isDotP p = false := by
    cases h : isDotP p with
    | false => rfl
    | true =>
      rw [slF_dot h46 h] at he
      cases he
  have hnb : isBrcP p = false := by
    cases h : isBrcP p with
    | false => rfl
    | true =>
      rw [slF_brc h32 h] at he
      cases he
  have ew : (wrt sl (f + 1) most (p :: (L1 ++ R))).1 = brk (decide (most < (e.2.1 : Int))) (opr sl (wrt sl f) e p (L1 ++ R)).1 := by
    unfold wrt
    rw [if_neg (by omega), if_neg (by omega), if_neg (by omega), he]
  have eo := outY_b (Y := Y) ew (by rw [he]; exact decide_eq_decide.mpr hm) (fun q => by rw [opn2_3 h3] at q; cases q)
  rw [eo] at hw k
  have hbl := br_tot (brB sl p Y) w (opr sl (wrt sl f) e p (L1 ++ R)).1
  have hb2 := brk_ln2 (brB sl p Y) (opr sl (wrt sl f) e p (L1 ++ R)).1
  have hbl : (brW (brB sl p Y) w).length + (opr sl (wrt sl f) e p (L1 ++ R)).1.length ≤ 2500 := by omega
  have k1 := kbr hK (by omega) k
  clear hb2 hw
  have hbs := brS_len (brB sl p Y) S
  have hbw := brW_len (brB sl p Y) w
  have hbw2 : w.length ≤ (brW (brB sl p Y) w).length := by
    unfold brW
    split
    · rw [List.length_append]
      omega
    · exact Nat.le_refl _
  generalize hS1 : brS (brB sl p Y) S = S1 at k1 hbs
  generalize hw1 : brW (brB sl p Y) w = w1 at k1 hbw hbl hbw2
  -- the operand as it is written
  have opn : ∀ (A X : List xIt) (k0 Y' : Nat) (m : Int) (S' : List (Int32 × Int32)) (w' : List Nat), trP D A → okL anyN A → Q.drop k0 = A ++ X → Y' ≤ 1200 → (∀ e', slF sl (hdI A) = some e' → (m < (e'.2.1 : Int) ↔ Y' < e'.2.1)) → S'.length ≤ S.length + 6 → w'.length + (opd sl (wrt sl f) m (A ++ X)).1.length ≤ 2500 → K S' (w' ++ (opd sl (wrt sl f) m (A ++ X)).1) → K ((nI k0, nI (2000 + Y')) :: S') w' := by
    intro A X k0 Y' m S' w' hA okA hdA hY' hm' hS' hw' kk
    have e1 : outY sl f m (2000 + Y') (A ++ X) = (opd sl (wrt sl f) m (A ++ X)).1 := if_pos (by omega)
    have e2 : (2000 + Y') % 2000 = Y' := by omega
    exact hPT A X k0 (2000 + Y') m S' w' hA okA hdA (by omega) (fun e' h => by rw [e2]; exact hm' e' h) (by omega) (by rw [e1]; exact hw') (by rw [e1]; exact kk)
  have har : p.2.2.2 = 1 ∨ p.2.2.2 = 2 := by omega
  -- the first operand
  obtain ⟨A, X, hA, okA, hdA, hX2⟩ : ∃ A X, trP D A ∧ okL anyN A ∧ Q.drop (r + 1) = A ++ X ∧ L1 ++ R = A ++ X ∧ (p.2.2.2 = 1 → X = R) ∧ (p.2.2.2 = 2 → ∃ A2, trP D A2 ∧ okL anyN A2 ∧ X = A2 ++ R) := by
    rcases har with h | h
    · rw [h] at hch
      exact ⟨L1, R, chP_1 hch, hok, hd1, rfl, fun _ => rfl, fun q => by omega⟩
    · rw [h] at hch
      obtain ⟨A, A2, t1, t2, eL⟩ := chP_2 hch
      rw [eL] at hok
      exact ⟨A, A2 ++ R, t1, hok.left, by rw [hd1, eL, List.append_assoc], by rw [eL, List.append_assoc], fun q => by omega, fun _ => ⟨A2, t2, hok.right, rfl⟩⟩
  obtain ⟨eLR, hX1, hX2⟩ := hX2
  obtain ⟨q, A', eA, hqi, hq3⟩ := trP_hd hA
  have hqp : okP q := (okA q (by rw [eA]; exact List.mem_cons_self)).1
  have hqh : hdI A = q := by rw [eA]; rfl
  rw [eLR] at k1 hbl
  have nmlen : (nmW p.2.2.1).length ≤ 60 := by
    have h1 := nmW_len p.2.2.1
    have h2 := hp.1.1
    omega
  refine K_op hK hr hp hi he hnd hnb (trP_tm hA) eA hqp hqi hdA hY (by omega) (by omega) (fun a1 a2 => ?_) (fun a1 a2 a3 j hj => ?_) (fun a1 a2 j hj => ?_)
  · -- prefix
    rw [hS1, hw1]
    have hpre : oPre (some e) = true := pre_o (opP_e a2).2.2
    rw [opr_pre hpre] at k1 hbl
    rw [List.length_append, List.length_cons] at hbl
    refine opn A X (r + 1) (oRight (some e)).toNat (oRight (some e)) S1 _ hA okA hdA (by omega) (fun e' _ => by omega) (by omega) (by rw [List.length_append, List.length_append, List.length_singleton]; omega) ?_
    have e7 : w1 ++ (nmW p.2.2.1 ++ [32]) ++ (opd sl (wrt sl f) (oRight (some e)) (A ++ X)).1 = w1 ++ (nmW p.2.2.1 ++ 32 :: (opd sl (wrt sl f) (oRight (some e)) (A ++ X)).1) := by simp
    rw [e7]
    exact k1
  · -- postfix
    rw [hS1, hw1]
    have hnp : oPre (some e) = false := pre_n (opB_e a3).2.2
    have hpo : oPost (some e) = true := by
      rcases he3 with y | y | y
      · rw [hnp] at y
        cases y.2
      · exact y.2.2
      · omega
    rw [opr_post hnp hpo] at k1 hbl
    rw [List.length_append, List.length_cons] at hbl
    refine opn A X (r + 1) (lfN sl q e) (lfm sl e (A ++ X)) _ w1 hA okA hdA (hlb q) (fun e' h' => ?_) (by rw [List.length_cons, List.length_cons]; omega) (by omega) ?_
    · rw [hqh] at h'
      rw [eA]
      exact lf_eq heb.1 h'
    · refine hK.1 32 (-32) 0 _ _ (by decide) (by decide) (by decide) (by rw [List.length_append]; omega) ?_
      refine hK.2.1 j _ S1 _ hj (by rw [List.length_append, List.length_append, List.length_singleton]; omega) ?_
      have e7 : w1 ++ (opd sl (wrt sl f) (lfm sl e (A ++ X)) (A ++ X)).1 ++ [32] ++ nmW p.2.2.1 = w1 ++ ((opd sl (wrt sl f) (lfm sl e (A ++ X)) (A ++ X)).1 ++ 32 :: nmW p.2.2.1) := by simp
      rw [e7]
      exact k1
  · -- infix
    rw [hS1, hw1]
    obtain ⟨A2, hA2, okA2, eX⟩ := hX2 a1
    have hnp : oPre (some e) = false := pre_n (opB_e a2).2.2
    have hpo : oPost (some e) = false := by
      rcases he3 with y | y | y
      · rw [hnp] at y
        cases y.2
      · omega
      · exact y.2.2
    obtain ⟨oA, hoA⟩ := hX A hA okA (lfm sl e (A ++ X))
    have e2 : (opd sl (wrt sl f) (lfm sl e (A ++ X)) (A ++ X)).2 = X := by
      unfold opd
      rw [hoA]
    rw [opr_inf hnp hpo, e2] at k1 hbl
    rw [List.length_append, List.length_append] at hbl
    have hdX : Q.drop (r + 1 + A.length) = A2 ++ R := by
      have := dr_sk hdA
      rwa [eX] at this
    have right : ∀ w', w'.length + (opd sl (wrt sl f) (oRight (some e)) X).1.length ≤ 2500 → K S1 (w' ++ (opd sl (wrt sl f) (oRight (some e)) X).1) → K ((nI (r + 1 + A.length), nI (2000 + (oRight (some e)).toNat)) :: S1) w' := by
      intro w' hw' k'
      rw [eX] at hw' k'
      exact opn A2 R (r + 1 + A.length) (oRight (some e)).toNat (oRight (some e)) S1 w' hA2 okA2 hdX (by omega) (fun e' _ => by omega) (by omega) hw' k'
    have hlf : ∀ e', slF sl (hdI A) = some e' → (lfm sl e (A ++ X) < (e'.2.1 : Int) ↔ lfN sl q e < e'.2.1) := fun e' h' => by
      rw [hqh] at h'
      rw [eA]
      exact lf_eq heb.1 h'
    by_cases h44 : kP p = 44
    · rw [if_pos h44]
      have eif : ifx p = [44] := if_pos h44
      rw [eif] at k1 hbl
      rw [List.length_singleton] at hbl
      refine opn A X (r + 1) (lfN sl q e) (lfm sl e (A ++ X)) _ w1 hA okA hdA (hlb q) hlf (by rw [List.length_cons, List.length_cons]; omega) (by omega) ?_
      refine hK.1 44 (-44) 6000 _ _ (by decide) (by decide) (by decide) (by rw [List.length_append]; omega) ?_
      refine right _ (by rw [List.length_append, List.length_append, List.length_singleton]; omega) ?_
      have e7 : w1 ++ (opd sl (wrt sl f) (lfm sl e (A ++ X)) (A ++ X)).1 ++ [44] ++ (opd sl (wrt sl f) (oRight (some e)) X).1 = w1 ++ ((opd sl (wrt sl f) (lfm sl e (A ++ X)) (A ++ X)).1 ++ ([44] ++ (opd sl (wrt sl f) (oRight (some e)) X).1)) := by simp
      rw [e7]
      exact k1
    · rw [if_neg h44]
      have eif : ifx p = 32 :: (nmW p.2.2.1 ++ [32]) := if_neg h44
      rw [eif] at k1 hbl
      rw [List.length_cons, List.length_append, List.length_singleton] at hbl
      refine opn A X (r + 1) (lfN sl q e) (lfm sl e (A ++ X)) _ w1 hA okA hdA (hlb q) hlf (by rw [List.length_cons, List.length_cons, List.length_cons, List.length_cons]; omega) (by omega) ?_
      refine hK.1 32 (-32) 0 _ _ (by decide) (by decide) (by decide) (by rw [List.length_append]; omega) ?_
      refine hK.2.1 j _ _ _ hj (by rw [List.length_append, List.length_append, List.length_singleton]; omega) ?_
      refine hK.1 32 (-32) 0 _ _ (by decide) (by decide) (by decide) (by rw [List.length_append, List.length_append, List.length_append, List.length_singleton]; omega) ?_
      refine right _ (by rw [List.length_append, List.length_append, List.length_append, List.length_append, List.length_singleton]; omega) ?_
      have e7 : w1 ++ (opd sl (wrt sl f) (lfm sl e (A ++ X)) (A ++ X)).1 ++ [32] ++ nmW p.2.2.1 ++ [32] ++ (opd sl (wrt sl f) (oRight (some e)) X).1 = w1 ++ ((opd sl (wrt sl f) (lfm sl e (A ++ X)) (A ++ X)).1 ++ (32 :: (nmW p.2.2.1 ++ [32]) ++ (opd sl (wrt sl f) (oRight (some e)) X).1)) := by simp
      rw [e7]
      exact k1
set_option maxHeartbeats 4000000 in
theorem PT_all (hK : KC sl N Q K) (hQ : Q.length ≤ 1000) (hpr : ∀ e ∈ sl, 1 ≤ e.2.1 ∧ e.2.1 ≤ 1200) (h46 : ∀ e ∈ sl, ¬ e.1 = 46) (h32 : ∀ e ∈ sl, ¬ e.1 = 32123) : ∀ (f D : Nat), D ≤ f → D ≤ 15 → PTP sl Q K f D
  | f, 0, hf, h15 => fun L R r Y most S w ht => ht.elim
  | 0, D + 1, hf, h15 => by omega
  | f + 1, D + 1, hf, h15 => by
    intro L R r Y most S w ht hok hd hY hm hS hw k
    obtain ⟨p, L1, eL, hi, h3, hch⟩ := ht
    subst eL
    have hp : okP p := (hok p List.mem_cons_self).1
    have hok1 := hok.tail
    have hPT : ∀ D', D' ≤ D → PTP sl Q K f D' := fun D' h => PT_all hK hQ hpr h46 h32 f D' (by omega) (by omega)
    have hX : ∀ D' L, D' ≤ D → trP D' L → okL anyN L → ∀ most : Int, ∃ o, ∀ R, wrt sl f most (L ++ R) = (o, R) := fun D' L h1 h2 h3 m => by
      obtain ⟨o, ho⟩ := wrt_X (al := anyN) h46 trivial f D' L h2 (by omega) (by omega) h3 m
      exact ⟨o, ho.1⟩
    rw [List.cons_append] at hd hw k
    obtain ⟨hr, hrl⟩ := dr_lt hd
    have hd1 : Q.drop (r + 1) = L1 ++ R := by
      have := congrArg List.tail hd
      rwa [List.tail_drop] at this
    have hbs := brS_len (brB sl p Y) S
    have hbw := brW_len (brB sl p Y) w
    have hbw2 : w.length ≤ (brW (brB sl p Y) w).length := by
      unfold brW
      split
      · rw [List.length_append]
        omega
      · exact Nat.le_refl _
    by_cases h2 : p.1 ≤ 2
    · -- no compound
      have e0 : slF sl p = none := slF_3 (by omega)
      have ew : (wrt sl (f + 1) most (p :: (L1 ++ R))).1 = brk false (lfW p) := by
        unfold wrt lfW
        by_cases a0 : p.1 = 0
        · rw [if_pos a0, if_pos a0]
          rfl
        · rw [if_neg a0, if_neg a0]
          by_cases a1 : p.1 = 1
          · rw [if_pos a1, if_pos a1]
            rfl
          · rw [if_neg a1, if_neg a1, if_pos (by omega)]
            rfl
      have eo := outY_b (Y := Y) ew (by rw [e0]; exact (decide_eq_false (Nat.not_lt_zero _)).symm) (fun _ => rfl)
      rw [eo] at hw k
      have hbl := brk_ln2 (brB sl p Y) (lfW p)
      exact hK.2.2.2.1 r p Y S w hr hp hi h2 hY (by omega) (by omega) (kbr hK (by omega) k)
    · have p3 : p.1 = 3 := by omega
      cases he : slF sl p with
      | some e =>
        exact PT_op hK hQ hpr h46 h32 (hPT D (Nat.le_refl _)) (fun L a1 a2 => hX D L (Nat.le_refl _) a1 a2) he hp hi hch hok1 hd hY (hm e he) hS hw k
      | none =>
        have hsl0 : slP (slF sl p) = 0 := by rw [he]; rfl
        have plain : ∀ inn, (wrt sl (f + 1) most (p :: (L1 ++ R))).1 = inn → (brW (brB sl p Y) w).length + inn.length ≤ 2500 ∧ K (brS (brB sl p Y) S) (brW (brB sl p Y) w ++ inn) := by
          intro inn ei
          have eo := outY_b (Y := Y) (bb := false) (inn := inn) ei (by rw [hsl0]; exact (decide_eq_false (Nat.not_lt_zero _)).symm) (fun _ => rfl)
          rw [eo] at hw k
          have hbl := brk_ln2 (brB sl p Y) inn
          have hbt := br_tot (brB sl p Y) w inn
          exact ⟨by omega, kbr hK (by omega) k⟩
        by_cases hdt : isDotP p = true
        · -- a list
          obtain ⟨_, ha2⟩ := dot_2 hdt
          rw [ha2] at hch
          obtain ⟨E, M, t1, t2, e1⟩ := chP_2 hch
          rw [e1] at hok1 hd1
          rw [List.append_assoc] at hd1
          obtain ⟨q, M1, e2, hqi, hq3⟩ := trP_hd t2
          obtain ⟨oE, hoE⟩ := hX D E (Nat.le_refl _) t1 hok1.left 999
          obtain ⟨hb, kk⟩ := plain (91 :: (oE ++ ((lsW (wrt sl f) 15 (M ++ R)).1 ++ [93]))) (by
            unfold wrt
            rw [if_neg (by omega), if_neg (by omega), if_neg (by omega), he]
            dsimp only
            rw [if_pos hdt, e1, List.append_assoc, hoE])
          rw [List.length_cons, List.length_append, List.length_append, List.length_singleton] at hb
          refine hK.2.2.2.2.1 r p Y E (M1 ++ R) q S w hr hp hi hdt (by rw [hd1, e2]; rfl) (trP_tm t1) (hok1.right q (by rw [e2]; exact List.mem_cons_self)).1 hqi hY (by omega) (by omega) ?_
          refine ls_K hK hQ hPT hX 15 D D E M q M1 R r _ _ t2 (by omega) (Nat.le_refl _) t1 (Nat.le_refl _) hok1.left hok1.right e2 hd1 (by omega) ?_ ?_
          · rw [hoE]
            rw [List.length_append, List.length_append, List.length_append, List.length_singleton, List.length_singleton]
            dsimp only
            omega
          · rw [hoE]
            rw [List.append_assoc]
            exact kk
        · have hnd : isDotP p = false := by simpa using hdt
          by_cases hbr : isBrcP p = true
          · -- curly brackets
            have ha1 : p.2.2.2 = 1 := by
              unfold isBrcP at hbr
              simp only [Bool.and_eq_true, decide_eq_true_eq] at hbr
              exact hbr.2.2
            rw [ha1] at hch
            have t1 := chP_1 hch
            obtain ⟨oE, hoE⟩ := hX D L1 (Nat.le_refl _) t1 hok1 1200
            obtain ⟨hb, kk⟩ := plain (123 :: (oE ++ [125])) (by
              unfold wrt
              rw [if_neg (by omega), if_neg (by omega), if_neg (by omega), he]
              dsimp only
              rw [if_neg hdt, if_pos hbr, hoE])
            rw [List.length_cons, List.length_append, List.length_singleton] at hb
            refine hK.2.2.2.2.2.1 r p Y S w hr hp hi hbr hY (by omega) (by omega) ?_
            have eo : outY sl f 1200 1200 (L1 ++ R) = oE := by
              unfold outY
              rw [if_neg (by decide), hoE]
            refine hPT D (Nat.le_refl _) L1 R (r + 1) 1200 1200 _ _ t1 hok1 hd1 (by decide) (fun e _ => by omega) (by rw [List.length_cons]; omega) (by rw [eo, List.length_append, List.length_singleton]; omega) ?_
            rw [eo]
            refine hK.1 125 (-125) 0 _ _ (by decide) (by decide) (by decide) (by rw [List.length_append, List.length_append, List.length_singleton]; omega) ?_
            have e7 : brW (brB sl p Y) w ++ [123] ++ oE ++ [125] = brW (brB sl p Y) w ++ 123 :: (oE ++ [125]) := by simp
            rw [e7]
            exact kk
          · -- any other
            have hnb : isBrcP p = false := by simpa using hbr
            obtain ⟨As, b1, b2, b3⟩ := chP_ls hch
            have ha := hi.2.1 p3
            obtain ⟨A, As', eAs⟩ : ∃ A As', As = A :: As' := by
              cases As with
              | nil =>
                rw [List.length_nil] at b1
                omega
              | cons A As' => exact ⟨A, As', rfl⟩
            subst eAs
            rw [b2] at hok1 hd1
            have okA : ∀ B ∈ A :: As', trP D B ∧ okL anyN B := fun B hB => ⟨b3 B hB, fun q hq => hok1 q (List.mem_flatten.mpr ⟨B, hB, hq⟩)⟩
            obtain ⟨oA, hoA⟩ := hX D A (Nat.le_refl _) (okA A List.mem_cons_self).1 (okA A List.mem_cons_self).2 999
            have efl : (A :: As').flatten ++ R = A ++ (As'.flatten ++ R) := by rw [List.flatten_cons, List.append_assoc]
            rw [List.length_cons] at b1
            have eag : (agW (wrt sl f) p.2.2.2 40 (L1 ++ R)).1 = 40 :: (oA ++ (agW (wrt sl f) As'.length 44 (As'.flatten ++ R)).1) := by
              rw [← b1, agW, b2, efl, hoA]
            obtain ⟨hb, kk⟩ := plain (nmW p.2.2.1 ++ (40 :: (oA ++ (agW (wrt sl f) As'.length 44 (As'.flatten ++ R)).1) ++ [41])) (by
              unfold wrt
              rw [if_neg (by omega), if_neg (by omega), if_neg (by omega), he]
              dsimp only
              rw [if_neg hdt, if_neg hbr, eag])
            rw [List.length_append, List.length_append, List.length_cons, List.length_append, List.length_singleton] at hb
            refine hK.2.2.2.2.2.2.2 r p Y (A :: As') R S w hr hp hi p3 he hnd hnb (by rw [List.length_cons]; omega) (fun B hB => trP_tm (b3 B hB)) hd1 hY (by rw [List.length_cons]; omega) (by omega) ?_
            refine ag_K hK (hPT D (Nat.le_refl _)) (fun L a1 a2 => hX D L (Nat.le_refl _) a1 a2) As' A R (r + 1) _ _ okA hd1 (by rw [List.length_cons]; omega) ?_ ?_
            · rw [efl, hoA]
              rw [List.length_append, List.length_append, List.length_append, List.length_singleton]
              dsimp only
              omega
            · rw [efl, hoA]
              refine hK.1 41 (-41) 0 _ _ (by decide) (by decide) (by decide) ?_ ?_
              · rw [List.length_append, List.length_append, List.length_append, List.length_singleton, List.length_append]
                dsimp only
                omega
              · have e7 : brW (brB sl p Y) w ++ (nmW p.2.2.1 ++ [40]) ++ ((oA, As'.flatten ++ R).1 ++ (agW (wrt sl f) As'.length 44 (As'.flatten ++ R)).1) ++ [41] = brW (brB sl p Y) w ++ (nmW p.2.2.1 ++ (40 :: (oA ++ (agW (wrt sl f) As'.length 44 (As'.flatten ++ R)).1) ++ [41])) := by simp
                rw [e7]
                exact kk
end PI
