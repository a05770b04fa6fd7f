-- depths of flat terms
def chD (T : Nat → List xIt → Prop) : Nat → List xIt → Nat → Prop
  | 0, L, m => L = [] ∧ m = 0
  | k + 1, L, m => ∃ L1 L2 D1 m2, T D1 L1 ∧ L = L1 ++ L2 ∧ m = max D1 m2 ∧ chD T k L2 m2
/-- a term of just this depth -/
def dTr : Nat → Nat → List xIt → Prop
  | 0, _, _ => False
  | e + 1, D, L => ∃ p L1 m, L = p :: L1 ∧ D = m + 1 ∧ chD (dTr e) p.2.2.2 L1 m
theorem chD.mono {T T' : Nat → List xIt → Prop} (h : ∀ D L, T D L → T' D L) : ∀ {k : Nat} {L : List xIt} {m : Nat}, chD T k L m → chD T' k L m
  | 0, L, m, q => q
  | k + 1, L, m, q => by
    obtain ⟨L1, L2, D1, m2, q1, q2, q3, q4⟩ := q
    exact ⟨L1, L2, D1, m2, h _ _ q1, q2, q3, q4.mono h⟩
theorem dTr.up : ∀ {e D : Nat} {L : List xIt}, dTr e D L → ∀ e', e ≤ e' → dTr e' D L
  | 0, D, L, h, e', he => by cases h
  | e + 1, D, L, h, e', he => by
    obtain ⟨p, L1, m, h1, h2, h3⟩ := h
    cases e' with
    | zero => omega
    | succ e' => exact ⟨p, L1, m, h1, h2, h3.mono (fun D L q => q.up e' (by omega))⟩
def dT (D : Nat) (L : List xIt) : Prop := ∃ e, dTr e D L
def chE (k : Nat) (L : List xIt) (m : Nat) : Prop := ∃ e, chD (dTr e) k L m
theorem chE.nil : chE 0 [] 0 := ⟨0, rfl, rfl⟩
theorem chE.cons {k D m : Nat} {L1 L2 : List xIt} (h1 : dT D L1) (h2 : chE k L2 m) : chE (k + 1) (L1 ++ L2) (max D m) := by
  obtain ⟨e1, h1⟩ := h1
  obtain ⟨e2, h2⟩ := h2
  exact ⟨max e1 e2, L1, L2, D, m, h1.up _ (by omega), rfl, rfl, h2.mono (fun D L q => q.up _ (by omega))⟩
theorem dT.mk {p : xIt} {L : List xIt} {m : Nat} (h : chE p.2.2.2 L m) : dT (m + 1) (p :: L) := by
  obtain ⟨e, h⟩ := h
  exact ⟨e + 1, p, L, m, rfl, rfl, h⟩
theorem dT.leaf {p : xIt} (h : p.2.2.2 = 0) : dT 1 [p] := dT.mk (by rw [h]; exact chE.nil)
theorem dT.one {p : xIt} {L : List xIt} {D : Nat} (hp : p.2.2.2 = 1) (h : dT D L) : dT (D + 1) (p :: L) := by
  refine dT.mk ?_
  rw [hp]
  have q := chE.cons h chE.nil
  rw [List.append_nil, Nat.max_eq_left (Nat.zero_le D)] at q
  exact q
theorem dT.two {p : xIt} {L1 L2 : List xIt} {D1 D2 : Nat} (hp : p.2.2.2 = 2) (h1 : dT D1 L1) (h2 : dT D2 L2) : dT (max D1 D2 + 1) (p :: (L1 ++ L2)) := by
  refine dT.mk ?_
  rw [hp]
  have q := chE.cons h2 chE.nil
  rw [List.append_nil, Nat.max_eq_left (Nat.zero_le D2)] at q
  exact chE.cons h1 q
theorem dT_str : ∀ w : List Nat, dT (w.length + 1) (strL w)
  | [] => dT.leaf rfl
  | c :: w => by
    have q := dT.two (p := dotP) rfl (dT.leaf (p := (1, (c : Int), [], 0)) rfl) (dT_str w)
    rw [Nat.max_eq_right (by omega)] at q
    rw [List.length_cons]
    exact q
def rsD (x : xRs) : Prop := dT x.2.1 x.1
section PF
variable {sl : List xSl} {T : Int → xSt → Option xRs}
theorem rst_D (hT : ∀ most st x, T most st = some x → rsD x) : ∀ (n : Nat) (most : Int) (y x : xRs), rsD y → rst sl T n most y = some x → rsD x
  | 0, most, y, x, hy, h => by cases h
  | n + 1, most, (L, D, st, pr), x, hy, h => by
    unfold rst at h
    split at h
    · cases h
    · cases hx : opB sl (tK (nx st.1)) with
      | none =>
        rw [hx] at h
        cases h
        exact hy
      | some e =>
        rw [hx] at h
        dsimp only at h
        split at h
        · split at h
          · split at h
            · cases hr : T (oRight (some e)) ((nx st.1).2.2.2, st.2) with
              | none =>
                rw [hr] at h
                cases h
              | some z =>
                obtain ⟨R, DR, st', pr'⟩ := z
                rw [hr] at h
                dsimp only at h
                exact rst_D hT n most ((3, 0, nmOf (nx st.1), 2) :: (L ++ R), max D DR + 1, st', e.2.1) x (dT.two (p := (3, 0, nmOf (nx st.1), 2)) rfl hy (hT _ _ _ hr)) h
            · cases h
              exact hy
          · exact rst_D hT n most ((3, 0, (nx st.1).2.2.1, 1) :: L, D + 1, ((nx st.1).2.2.2, st.2), e.2.1) x (dT.one (p := (3, 0, (nx st.1).2.2.1, 1)) rfl hy) h
        · cases h
          exact hy
theorem args_D (hT : ∀ most st x, T most st = some x → rsD x) : ∀ (n : Nat) (st : xSt) (x : List xIt × Nat × Nat × xSt), args T n st = some x → chE x.2.1 x.1 x.2.2.1
  | 0, st, x, h => by cases h
  | n + 1, st, x, h => by
    unfold args at h
    cases hr : T 999 st with
    | none =>
      rw [hr] at h
      cases h
    | some z =>
      obtain ⟨R, DR, st', pr'⟩ := z
      rw [hr] at h
      dsimp only at h
      split at h
      · cases ha : args T n ((nx st'.1).2.2.2, st'.2) with
        | none =>
          rw [ha] at h
          cases h
        | some y =>
          obtain ⟨As, k, DA, st2⟩ := y
          rw [ha] at h
          cases h
          exact chE.cons (hT _ _ _ hr) (args_D hT n _ _ ha)
      · split at h
        · cases h
          have q := chE.cons (hT _ _ _ hr) chE.nil
          rw [List.append_nil, Nat.max_eq_left (Nat.zero_le _)] at q
          exact q
        · cases h
theorem lst_D (hT : ∀ most st x, T most st = some x → rsD x) : ∀ (n : Nat) (st : xSt) (x : List xIt × Nat × xSt), lst T n st = some x → dT x.2.1 x.1
  | 0, st, x, h => by cases h
  | n + 1, st, x, h => by
    unfold lst at h
    cases hr : T 999 st with
    | none =>
      rw [hr] at h
      cases h
    | some z =>
      obtain ⟨E, DE, st', pr'⟩ := z
      rw [hr] at h
      dsimp only at h
      split at h
      · cases ha : lst T n ((nx st'.1).2.2.2, st'.2) with
        | none =>
          rw [ha] at h
          cases h
        | some y =>
          obtain ⟨M, DM, st2⟩ := y
          rw [ha] at h
          cases h
          exact dT.two (p := dotP) rfl (hT _ _ _ hr) (lst_D hT n _ _ ha)
      · split at h
        · cases ha : T 999 ((nx st'.1).2.2.2, st'.2) with
          | none =>
            rw [ha] at h
            cases h
          | some y =>
            obtain ⟨M, DM, st2, pr2⟩ := y
            rw [ha] at h
            dsimp only at h
            split at h
            · cases h
              exact dT.two (p := dotP) rfl (hT _ _ _ hr) (hT _ _ _ ha)
            · cases h
        · split at h
          · cases h
            exact dT.two (p := dotP) rfl (hT _ _ _ hr) (dT.leaf rfl)
          · cases h
theorem fst1_D (hT : ∀ most st x, T most st = some x → rsD x) {most : Int} {st : xSt} {x : xRs} (h : fst1 sl T most st = some x) : rsD x := by
  unfold fst1 at h
  split at h
  · cases h
    exact dT.leaf rfl
  split at h
  · cases h
    exact dT.leaf rfl
  split at h
  · cases h
    exact dT_str _
  split at h
  · split at h
    · split at h
      · cases h
        exact dT.leaf rfl
      · cases h
    split at h
    · cases ha : args T 6 ((nx st.1).2.2.2.tail, st.2) with
      | none =>
        rw [ha] at h
        cases h
      | some y =>
        obtain ⟨As, k, DA, st2⟩ := y
        rw [ha] at h
        cases h
        exact dT.mk (args_D hT 6 _ _ ha)
    · cases hp : pfx sl most st.1 with
      | none =>
        rw [hp] at h
        cases h
        exact dT.leaf rfl
      | some e =>
        rw [hp] at h
        dsimp only at h
        cases hr : T (oRight (some e)) ((nx st.1).2.2.2, st.2) with
        | none =>
          rw [hr] at h
          cases h
        | some z =>
          obtain ⟨R, DR, st', pr'⟩ := z
          rw [hr] at h
          cases h
          exact dT.one rfl (hT _ _ _ hr)
  split at h
  · cases hr : T 1200 ((nx st.1).2.2.2, st.2) with
    | none =>
      rw [hr] at h
      cases h
    | some z =>
      obtain ⟨R, DR, st', pr'⟩ := z
      rw [hr] at h
      dsimp only at h
      split at h
      · cases h
        exact hT 1200 _ (R, DR, st', pr') hr
      · cases h
  split at h
  · cases hr : T 1200 ((nx st.1).2.2.2, st.2) with
    | none =>
      rw [hr] at h
      cases h
    | some z =>
      obtain ⟨R, DR, st', pr'⟩ := z
      rw [hr] at h
      dsimp only at h
      split at h
      · cases h
        exact dT.one rfl (hT _ _ _ hr)
      · cases h
  split at h
  · cases ha : lst T 120 ((nx st.1).2.2.2, st.2) with
    | none =>
      rw [ha] at h
      cases h
    | some y =>
      obtain ⟨M, DM, st2⟩ := y
      rw [ha] at h
      cases h
      exact lst_D hT 120 _ _ ha
  · cases h
theorem tmF_D : ∀ (n : Nat) (most : Int) (st : xSt) (x : xRs), tmF sl n most st = some x → rsD x
  | 0, most, st, x, h => by cases h
  | n + 1, most, st, x, h => by
    unfold tmF at h
    cases hf : fst1 sl (tmF sl n) most st with
    | none =>
      rw [hf] at h
      cases h
    | some y =>
      rw [hf] at h
      exact rst_D (tmF_D n) 120 most y x (fst1_D (tmF_D n) hf) h
end PF
/-- the reference's way: a pile of what is still to come -/
def popZ : List Nat → List Nat
  | [] => []
  | 0 :: r => popZ r
  | (x + 1) :: r => (x + 1) :: r
def decT : List Nat → List Nat
  | [] => []
  | x :: r => (x - 1) :: r
def dpR : List xIt → List Nat → Nat → Nat
  | [], _, m => m
  | p :: L, S, m => dpR L (if p.2.2.2 = 0 then decT (popZ S) else p.2.2.2 :: decT (popZ S)) (max m ((decT (popZ S)).length + 1))
theorem popZ_2 : ∀ S, popZ (popZ S) = popZ S
  | [] => rfl
  | 0 :: r => popZ_2 r
  | (x + 1) :: r => rfl
theorem decT_len (S : List Nat) : (decT S).length = S.length := by
  cases S <;> rfl
theorem dpR_e {S S' : List Nat} (h : popZ S = popZ S') (L : List xIt) (m : Nat) : dpR L S m = dpR L S' m := by
  cases L with
  | nil => rfl
  | cons p L =>
    unfold dpR
    rw [h]
theorem dpR_T : ∀ (e : Nat) {D : Nat} {L : List xIt}, dTr e D L → ∀ (R : List xIt) (S : List Nat) (m : Nat), dpR (L ++ R) S m = dpR R (decT (popZ S)) (max m ((popZ S).length + D))
  | 0, D, L, h, R, S, m => by cases h
  | e + 1, D, L, h, R, S, m => by
    obtain ⟨p, L1, mm, h1, h2, h3⟩ := h
    -- the children
    have ch : ∀ (k : Nat) (L1 : List xIt) (mm : Nat), chD (dTr e) k L1 mm → ∀ (S1 : List Nat) (m : Nat), S1.length + 1 ≤ m → dpR (L1 ++ R) (k :: S1) m = dpR R (0 :: S1) (max m (S1.length + 1 + mm)) := by
      intro k
      induction k with
      | zero =>
        intro L1 mm q S1 m hm
        rw [q.1, q.2, List.nil_append, Nat.max_eq_left (by omega)]
      | succ k ih =>
        intro L1 mm q S1 m hm
        obtain ⟨M1, M2, D1, m2, q1, q2, q3, q4⟩ := q
        rw [q2, List.append_assoc, dpR_T e q1 (M2 ++ R) ((k + 1) :: S1) m]
        have e1 : decT (popZ ((k + 1) :: S1)) = k :: S1 := rfl
        have e2 : (popZ ((k + 1) :: S1)).length = S1.length + 1 := rfl
        rw [e1, e2, ih M2 m2 q4 S1 _ (by omega)]
        congr 1
        omega
    rw [h1, List.cons_append]
    have e0 : dpR (p :: (L1 ++ R)) S m = dpR (L1 ++ R) (if p.2.2.2 = 0 then decT (popZ S) else p.2.2.2 :: decT (popZ S)) (max m ((decT (popZ S)).length + 1)) := rfl
    rw [e0]
    have hl := decT_len (popZ S)
    by_cases hk : p.2.2.2 = 0
    · rw [hk] at h3
      rw [if_pos hk, h3.1, List.nil_append, h2, h3.2, hl]
    · rw [if_neg hk, ch p.2.2.2 L1 mm h3 _ _ (by omega), h2, hl]
      have e3 : max (max m ((popZ S).length + 1)) ((popZ S).length + 1 + mm) = max m ((popZ S).length + (mm + 1)) := by omega
      rw [e3]
      exact dpR_e (S := 0 :: decT (popZ S)) (S' := decT (popZ S)) rfl R _
theorem dpR_D {D : Nat} {L : List xIt} (h : dT D L) : dpR L [] 1 = max 1 D := by
  obtain ⟨e, h⟩ := h
  have q := dpR_T e h [] [] 1
  rw [List.append_nil] at q
  rw [q]
  show max 1 (0 + D) = max 1 D
  rw [Nat.zero_add]
theorem dT_1 {D : Nat} {L : List xIt} (h : dT D L) : 1 ≤ D := by
  obtain ⟨e, h⟩ := h
  cases e with
  | zero => cases h
  | succ e =>
    obtain ⟨p, L1, m, h1, h2, h3⟩ := h
    omega
