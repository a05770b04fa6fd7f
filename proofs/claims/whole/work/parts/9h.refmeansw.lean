-- what the pile writes is what the writer by terms writes
section PG
variable {sl : List xSl} {N : List (List Nat)} {Q : List xIt} {K : List (Int32 × Int32) → List Nat → Prop}
def anyN : List Nat → Prop := fun _ => True
theorem kbr {b : Bool} {S : List (Int32 × Int32)} {w inn : List Nat} (hK : KC sl N Q K) (hw : w.length + inn.length + 2 ≤ 2600) (k : K S (w ++ brk b inn)) : K (brS b S) (brW b w ++ inn) := by
  cases b with
  | false => exact k
  | true =>
    have e : w ++ brk true inn = (w ++ [40] ++ inn) ++ [41] := by simp [brk]
    rw [e] at k
    exact hK.1 41 (-41) 0 S (w ++ [40] ++ inn) (by decide) (by decide) (by decide) (by rw [List.length_append, List.length_append, List.length_singleton]; omega) k
theorem opdB_e {p : xIt} {L : List xIt} : opdB sl (p :: L) = opn2 sl p := by
  unfold opdB opn2
  rw [show hdI (p :: L) = p from rfl, opP_s, opB_s]
/-- what is written of a part in its place -/
def outY (sl : List xSl) (f : Nat) (most : Int) (Y : Nat) (L : List xIt) : List Nat := if 2000 ≤ Y then (opd sl (wrt sl f) most L).1 else (wrt sl f most L).1
theorem outY_b {f Y : Nat} {most : Int} {p : xIt} {L : List xIt} {bb : Bool} {inn : List Nat} (h : (wrt sl f most (p :: L)).1 = brk bb inn) (hbb : bb = decide (Y % 2000 < slP (slF sl p))) (hop : opn2 sl p = true → bb = false) : outY sl f most Y (p :: L) = brk (brB sl p Y) inn := by
  unfold outY brB opd
  rw [← hbb, h, opdB_e]
  cases ho : opn2 sl p with
  | true =>
    rw [hop ho]
    by_cases hY : 2000 ≤ Y
    · rw [if_pos hY, decide_eq_true hY]
      rfl
    · rw [if_neg hY, decide_eq_false hY]
      rfl
  | false =>
    have e : (bb || (decide (2000 ≤ Y) && false)) = bb := by cases bb <;> simp
    rw [e]
    split
    · rfl
    · rfl
theorem opn2_3 {p : xIt} (h : p.1 = 3) : opn2 sl p = false := by
  unfold opn2
  rw [decide_eq_false (by omega)]
  rfl
theorem lf_eq {q : xIt} {e e' : xSl} {L : List xIt} (he : 1 ≤ e.2.1) (hq : slF sl q = some e') : (lfm sl e (q :: L) < (e'.2.1 : Int)) ↔ lfN sl q e < e'.2.1 := by
  have hl : oLeft (some e) = (e.2.1 : Int) ∨ oLeft (some e) = (e.2.1 : Int) - 1 := by
    unfold oLeft
    rw [show slP (some e) = e.2.1 from rfl]
    split
    · exact Or.inl rfl
    · exact Or.inr rfl
  unfold lfm lfN tko
  rw [show hdI (q :: L) = q from rfl, hq, show slP (some e') = e'.2.1 from rfl]
  cases ho : oOpen (some e') with
  | true =>
    rw [if_pos rfl, Bool.and_true]
    by_cases h : e'.2.1 = e.2.1
    · rw [decide_eq_true h, if_pos rfl]
      omega
    · rw [decide_eq_false h, if_neg (by decide)]
      omega
  | false =>
    rw [if_neg (by decide), Bool.and_false, if_neg (by decide)]
    omega
theorem lfN_b {q : xIt} {e : xSl} (he : 1 ≤ e.2.1 ∧ e.2.1 ≤ 1200) : lfN sl q e ≤ 1200 := by
  have := oR_b he
  unfold lfN
  split <;> omega
theorem chP_ls {T : List xIt → Prop} : ∀ {k : Nat} {L : List xIt}, chP T k L → ∃ As : List (List xIt), As.length = k ∧ L = As.flatten ∧ ∀ A ∈ As, T A
  | 0, L, h => ⟨[], rfl, h, fun A hA => by cases hA⟩
  | k + 1, L, h => by
    obtain ⟨L1, L2, h1, h2, h3⟩ := h
    obtain ⟨As, a1, a2, a3⟩ := chP_ls h3
    refine ⟨L1 :: As, by rw [List.length_cons, a1], by rw [h2, a2]; rfl, fun A hA => ?_⟩
    rcases List.mem_cons.mp hA with y | y
    · rw [y]; exact h1
    · exact a3 A y
/-- at this depth: parts in their places -/
def PTP (sl : List xSl) (Q : List xIt) (K : List (Int32 × Int32) → List Nat → Prop) (f D : Nat) : Prop := ∀ (L R : List xIt) (r Y : Nat) (most : Int) (S : List (Int32 × Int32)) (w : List Nat), trP D L → okL anyN L → Q.drop r = L ++ R → Y < 4000 → (∀ e, slF sl (hdI L) = some e → (most < (e.2.1 : Int) ↔ Y % 2000 < e.2.1)) → S.length + 14 * D ≤ 880 → w.length + (outY sl f most Y (L ++ R)).length ≤ 2500 → K S (w ++ outY sl f most Y (L ++ R)) → K ((nI r, nI Y) :: S) w
theorem trP_hd {D : Nat} {L : List xIt} (h : trP D L) : ∃ p L1, L = p :: L1 ∧ okIt p ∧ p.1 ≤ 3 := by
  cases D with
  | zero => cases h
  | succ D =>
    obtain ⟨p, L1, h1, h2, h3, _⟩ := h
    exact ⟨p, L1, h1, h2, h3⟩
variable {f D : Nat}
/-- arguments -/
theorem ag_K (hK : KC sl N Q K) (hPT : PTP sl Q K f D) (hX : ∀ L, trP D L → okL anyN L → ∀ most : Int, ∃ o, ∀ R, wrt sl f most (L ++ R) = (o, R)) : ∀ (As : List (List xIt)) (A : List xIt) (R : List xIt) (k : Nat) (T : List (Int32 × Int32)) (w : List Nat), (∀ B ∈ A :: As, trP D B ∧ okL anyN B) → Q.drop k = (A :: As).flatten ++ R → T.length + 2 * As.length + 14 * D ≤ 878 → w.length + ((wrt sl f 999 ((A :: As).flatten ++ R)).1 ++ (agW (wrt sl f) As.length 44 (As.flatten ++ R)).1).length ≤ 2500 → K T (w ++ ((wrt sl f 999 ((A :: As).flatten ++ R)).1 ++ (agW (wrt sl f) As.length 44 (As.flatten ++ R)).1)) → K (agS T (ixs k (A :: As))) w
  | [], A, R, k, T, w, ht, hd, hT, hw, kk => by
    obtain ⟨h1, h2⟩ := ht A List.mem_cons_self
    have e0 : ([A] : List (List xIt)).flatten = A := by simp
    have e1 : ([] : List (List xIt)).flatten ++ R = R := rfl
    rw [e0] at hd hw kk
    have e2 : (agW (wrt sl f) ([] : List (List xIt)).length 44 (([] : List (List xIt)).flatten ++ R)).1 = [] := rfl
    rw [e2, List.append_nil] at hw kk
    have eo : outY sl f 999 999 (A ++ R) = (wrt sl f 999 (A ++ R)).1 := if_neg (by decide)
    exact hPT A R k 999 999 T w h1 h2 hd (by decide) (fun e _ => by omega) (by omega) (by rw [eo]; exact hw) (by rw [eo]; exact kk)
  | A2 :: As, A, R, k, T, w, ht, hd, hT, hw, kk => by
    obtain ⟨h1, h2⟩ := ht A List.mem_cons_self
    have e0 : (A :: A2 :: As).flatten ++ R = A ++ ((A2 :: As).flatten ++ R) := by
      rw [List.flatten_cons, List.append_assoc]
    rw [e0] at hd hw kk
    obtain ⟨oA, hA⟩ := hX A h1 h2 999
    rw [hA ((A2 :: As).flatten ++ R)] at hw kk
    dsimp only at hw kk
    obtain ⟨h3, h4⟩ := ht A2 (by simp)
    obtain ⟨oB, hB⟩ := hX A2 h3 h4 999
    have e5 : (A2 :: As).flatten ++ R = A2 ++ (As.flatten ++ R) := by rw [List.flatten_cons, List.append_assoc]
    have e6 : (agW (wrt sl f) (A2 :: As).length 44 ((A2 :: As).flatten ++ R)).1 = 44 :: (oB ++ (agW (wrt sl f) As.length 44 (As.flatten ++ R)).1) := by
      rw [List.length_cons, agW, e5, hB (As.flatten ++ R)]
    rw [e6] at hw kk
    rw [List.length_append, List.length_cons, List.length_append] at hw
    rw [List.length_cons] at hT
    have eo : outY sl f 999 999 (A ++ ((A2 :: As).flatten ++ R)) = oA := by
      unfold outY
      rw [if_neg (by decide), hA]
    have hd2 : Q.drop (k + A.length) = (A2 :: As).flatten ++ R := by
      rw [← List.drop_drop, hd, List.drop_left]
    have ih := ag_K hK hPT hX As A2 R (k + A.length) T (w ++ oA ++ [44]) (fun B hB => ht B (List.mem_cons_of_mem A hB)) hd2 (by omega) (by
      rw [e5, hB (As.flatten ++ R)]
      rw [List.length_append, List.length_append, List.length_singleton, List.length_append]
      dsimp only
      omega) (by
      rw [e5, hB (As.flatten ++ R)]
      have e7 : w ++ oA ++ [44] ++ ((oB, As.flatten ++ R).1 ++ (agW (wrt sl f) As.length 44 (As.flatten ++ R)).1) = w ++ (oA ++ 44 :: (oB ++ (agW (wrt sl f) As.length 44 (As.flatten ++ R)).1)) := by simp
      rw [e7]
      exact kk)
    have hl := agS_len T (ixs (k + A.length) (A2 :: As))
    rw [ixs_len, List.length_cons] at hl
    have st : K ((-44, 0) :: agS T (ixs (k + A.length) (A2 :: As))) (w ++ oA) := hK.1 44 (-44) 0 _ (w ++ oA) (by decide) (by decide) (by decide) (by rw [List.length_append]; omega) ih
    have := hPT A ((A2 :: As).flatten ++ R) k 999 999 ((-44, 0) :: agS T (ixs (k + A.length) (A2 :: As))) w h1 h2 hd (by decide) (fun e _ => by omega) (by rw [List.length_cons]; omega) (by rw [eo]; omega) (by rw [eo]; exact st)
    exact this
end PG
