-- the reference: behindLayout, signs, single
section MU
variable {sc : xSc} {d g : Nat} {B C : List xC} {v : Nat → Int32} {a : Nat → Nat → Int32} {o : Nat → Int64} {t : List Nat} {P : xO → xH → Prop}
theorem drop_l2 {p : Nat} {s : List Nat} (h : t.drop p = s) (hp : p ≤ t.length) : s.length + p = t.length := by
  have := congrArg List.length h
  rw [List.length_drop] at this
  omega
theorem nI_p2 (n : Nat) : nI n + 2 = nI (n + 2) := nI_add n 2
theorem nI_p3 (n : Nat) : nI n + 3 = nI (n + 3) := nI_add n 3
set_option maxRecDepth 100000 in
theorem q_comLoop {x1 x3 : Int32} (hB : B.length = 28) (ht : zT v a t) : ∀ (s : List Nat) (p : Nat), t.drop p = s → p ≤ t.length →
    (∀ r, incom s = some r → xP sc (d + 1) 154 102 [(0, .ref 28), (1, .int x1), (2, .int (nI (t.length - r.length - 2))), (3, .int x3)] [] (mH B C v a o, g) P) →
    (incom s = none → xP sc (d + 1) 154 102 [(0, .ref 28), (1, .int x1), (2, .int (nI t.length)), (3, .int x3)] [] (mH B C v a o, g) P) →
    xP sc (d + 1) 154 66 [(0, .ref 28), (1, .int x1), (2, .int (nI p)), (3, .int x3)] [] (mH B C v a o, g) P
  | [], p, hd, hp, k1, k2 => by
    have hl := drop_l2 hd hp
    have h120 := ht.2.1
    have hP : (nI p).toInt = (p : Int) := nI_toInt (by omega)
    have hL : (nI t.length).toInt = (t.length : Int) := nI_toInt (by omega)
    rw [List.length_nil, Nat.zero_add] at hl
    subst hl
    refine xP_s rfl rfl rfl ?_
    refine xP_s rfl rfl rfl ?_
    refine xP_zg rfl hB rfl ht.1 ?_
    refine xP_s rfl rfl rfl ?_
    refine xP_if (fun hq => ?_) (fun hq => ?_)
    · exact k2 rfl
    · have := xc_f hq
      dsimp only at this
      omega
  | c :: r, p, hd, hp, k1, k2 => by
    have hl := drop_l2 hd hp
    obtain ⟨hd', hp'⟩ := drop_c hd
    have h120 := ht.2.1
    have hP : (nI p).toInt = (p : Int) := nI_toInt (by omega)
    have hL : (nI t.length).toInt = (t.length : Int) := nI_toInt (by omega)
    have h42 : (42 : Int32).toInt = 42 := rfl
    have h47 : (47 : Int32).toInt = 47 := rfl
    have hlt : c < 128 := by
      have := ht.lt p
      rwa [oz_0 hd] at this
    have hlt2 : oz r 0 < 128 := by
      have := ht.lt (p + 1)
      rwa [oz_0 hd'] at this
    have hC : (nI c).toInt = (c : Int) := nI_toInt (by omega)
    have hD : (nI (oz r 0)).toInt = (oz r 0 : Int) := nI_toInt (by omega)
    rw [List.length_cons] at hl
    have next : ¬ (c = 42 ∧ r.head? = some 47) → xP sc (d + 1) 154 96 [(0, .ref 28), (1, .int x1), (2, .int (nI p)), (3, .int x3)] [] (mH B C v a o, g) P := by
      intro hn
      have e : incom (c :: r) = incom r := by
        conv => lhs; unfold incom
        rw [if_neg hn]
      rw [e] at k1 k2
      refine xP_s rfl rfl rfl ?_
      refine xP_s rfl rfl rfl ?_
      rw [nI_p1]
      exact q_comLoop hB ht r (p + 1) hd' hp' k1 k2
    refine xP_s rfl rfl rfl ?_
    refine xP_s rfl rfl rfl ?_
    refine xP_zg rfl hB rfl ht.1 ?_
    refine xP_s rfl rfl rfl ?_
    refine xP_if (fun hq => ?_) (fun hq => ?_)
    · have := xc_t hq
      dsimp only at this
      omega
    · refine xP_s rfl rfl rfl ?_
      refine xP_s rfl rfl rfl ?_
      refine xP_cv rfl rfl rfl rfl rfl (mH_28 hB) (q_charAt hB ht (by omega) (oz_0 hd) ?_)
      refine xP_s rfl rfl rfl ?_
      refine xP_s rfl rfl rfl ?_
      refine xP_if (fun hq2 => ?_) (fun hq2 => ?_)
      · have z := xc_t hq2
        dsimp only [oz_c] at z
        exact next (fun h => by omega)
      · have z := xc_f hq2
        dsimp only [oz_c] at z
        refine xP_s rfl rfl rfl ?_
        refine xP_s rfl rfl rfl ?_
        refine xP_s rfl rfl rfl ?_
        refine xP_s rfl rfl rfl ?_
        rw [nI_p1]
        refine xP_cv rfl rfl rfl rfl rfl (mH_28 hB) (q_charAt hB ht (by omega) (oz_0 hd') ?_)
        refine xP_s rfl rfl rfl ?_
        refine xP_s rfl rfl rfl ?_
        refine xP_if (fun hq3 => ?_) (fun hq3 => ?_)
        · have z3 := xc_t hq3
          dsimp only at z3
          cases r with
          | nil =>
            rw [oz_n] at z3
            have : (nI 0).toInt = 0 := rfl
            omega
          | cons b r =>
            rw [oz_c] at z3 hD
            have e : incom (c :: b :: r) = some r := by
              unfold incom
              rw [if_pos ⟨by omega, by rw [List.head?_cons]; congr 1; omega⟩]
              rfl
            have kk := k1 r e
            rw [List.length_cons] at hl
            rw [show t.length - r.length - 2 = p by omega] at kk
            exact kk
        · have z3 := xc_f hq3
          dsimp only at z3
          refine next (fun h => ?_)
          cases r with
          | nil => exact absurd h.2 (by simp)
          | cons b r =>
            rw [oz_c] at z3 hD
            have := h.2
            rw [List.head?_cons] at this
            cases this
            omega
def lyR (t s : List Nat) (n : Nat) : Nat := match lay n s with
  | some s' => t.length - s'.length
  | none => 200
set_option maxRecDepth 100000 in
theorem q_layLoop {x1 : Int32} (hB : B.length = 28) (ht : zT v a t) : ∀ (n : Nat) (s : List Nat) (p : Nat), s.length < n → t.drop p = s → p ≤ t.length → P (.inl (some (.int (nI (lyR t s n))))) (mH B C v a o, g) →
    xP sc (d + 1) 154 10 [(0, .ref 28), (1, .int x1), (2, .int (nI p)), (3, .int 0)] [] (mH B C v a o, g) P
  | 0, s, p, hn, hd, hp, k => by omega
  | n + 1, s, p, hn, hd, hp, k => by
    have hl := drop_l2 hd hp
    have h120 := ht.2.1
    have hlt : oz s 0 < 128 := by
      have := ht.lt p
      rwa [oz_0 hd] at this
    have hC : (nI (oz s 0)).toInt = (oz s 0 : Int) := nI_toInt (by omega)
    have h32 : (32 : Int32).toInt = 32 := rfl
    have h37 : (37 : Int32).toInt = 37 := rfl
    have h42 : (42 : Int32).toInt = 42 := rfl
    have h47 : (47 : Int32).toInt = 47 := rfl
    have h0 : (nI 0).toInt = 0 := rfl
    have hL : (nI t.length).toInt = (t.length : Int) := nI_toInt (by omega)
    have out : lay (n + 1) s = some s → xP sc (d + 1) 154 4 [(0, .ref 28), (1, .int x1), (2, .int (nI p)), (3, .int 0)] [] (mH B C v a o, g) P := by
      intro e
      unfold lyR at k
      rw [e] at k
      dsimp only at k
      rw [show t.length - s.length = p by omega] at k
      repeat' first
        | refine xP_s rfl rfl rfl ?_
        | refine xP_if (fun hc => ?_) (fun hc => ?_)
        | refine xP_ret rfl rfl rfl ?_
      exact k
    refine xP_s rfl rfl rfl ?_
    refine xP_s rfl rfl rfl ?_
    refine xP_cv rfl rfl rfl rfl rfl (mH_28 hB) (q_charAt hB ht (by omega) (oz_0 hd) ?_)
    refine xP_s rfl rfl rfl ?_
    refine xP_s rfl rfl rfl ?_
    refine xP_if (fun hq => ?_) (fun hq => ?_)
    · have z := xc_t hq
      dsimp only at z
      refine xP_s rfl rfl rfl ?_
      refine xP_s rfl rfl rfl ?_
      refine xP_cv rfl rfl rfl rfl rfl (mH_28 hB) (q_charAt hB ht (by omega) (oz_0 hd) ?_)
      refine xP_s rfl rfl rfl ?_
      refine xP_s rfl rfl rfl ?_
      refine xP_if (fun hq2 => ?_) (fun hq2 => ?_)
      · have z2 := xc_t hq2
        dsimp only at z2
        refine xP_s rfl rfl rfl ?_
        refine xP_s rfl rfl rfl ?_
        refine xP_cv rfl rfl rfl rfl rfl (mH_28 hB) (q_charAt hB ht (by omega) (oz_0 hd) ?_)
        refine xP_s rfl rfl rfl ?_
        refine xP_s rfl rfl rfl ?_
        refine xP_if (fun hq3 => ?_) (fun hq3 => ?_)
        · have z3 := xc_t hq3
          dsimp only at z3
          refine out ?_
          cases s with
          | nil => rfl
          | cons c r =>
            rw [oz_c] at hC z z2 z3
            unfold lay
            rw [if_neg (by omega), if_neg (by omega), if_neg (by omega)]
        · have z3 := xc_f hq3
          dsimp only at z3
          cases s with
          | nil =>
            rw [oz_n] at z3
            omega
          | cons c r =>
            rw [oz_c] at hC z z2 z3 hlt
            obtain ⟨hd', hp'⟩ := drop_c hd
            have hlt2 : oz r 0 < 128 := by
              have := ht.lt (p + 1)
              rwa [oz_0 hd'] at this
            have hD : (nI (oz r 0)).toInt = (oz r 0 : Int) := nI_toInt (by omega)
            have e47 : c = 47 := by omega
            refine xP_s rfl rfl rfl ?_
            refine xP_s rfl rfl rfl ?_
            refine xP_s rfl rfl rfl ?_
            refine xP_s rfl rfl rfl ?_
            rw [nI_p1]
            refine xP_cv rfl rfl rfl rfl rfl (mH_28 hB) (q_charAt hB ht (by omega) (oz_0 hd') ?_)
            refine xP_s rfl rfl rfl ?_
            refine xP_s rfl rfl rfl ?_
            refine xP_if (fun hq4 => ?_) (fun hq4 => ?_)
            · have z4 := xc_t hq4
              dsimp only at z4
              refine out ?_
              unfold lay
              rw [if_neg (by omega), if_neg (by omega), if_neg ?_]
              intro h
              cases r with
              | nil => exact absurd h.2 (by simp)
              | cons b r =>
                rw [oz_c] at z4 hD
                have := h.2
                rw [List.head?_cons] at this
                cases this
                omega
            · have z4 := xc_f hq4
              dsimp only at z4
              cases r with
              | nil =>
                rw [oz_n] at z4
                omega
              | cons b r =>
                rw [oz_c] at z4 hD
                have e42 : b = 42 := by omega
                obtain ⟨hd2, hp2⟩ := drop_c hd'
                rw [List.length_cons, List.length_cons] at hl hn
                have e : lay (n + 1) (c :: b :: r) = (match incom r with | some z => lay n z | none => none) := by
                  rw [e47, e42]
                  rfl
                refine xP_s rfl rfl rfl ?_
                rw [nI_p2]
                refine q_comLoop hB ht r (p + 2) hd2 hp2 (fun r' hr' => ?_) (fun hr' => ?_)
                · have hlr := incom_len hr'
                  obtain ⟨w, hw⟩ := incom_sfx hr'
                  have hQ : (nI (t.length - r'.length - 2)).toInt = ((t.length - r'.length - 2 : Nat) : Int) := nI_toInt (by omega)
                  refine xP_s rfl rfl rfl ?_
                  refine xP_s rfl rfl rfl ?_
                  refine xP_zg rfl hB rfl ht.1 ?_
                  refine xP_s rfl rfl rfl ?_
                  refine xP_if (fun hq5 => ?_) (fun hq5 => ?_)
                  · have := xc_t hq5
                    dsimp only at this
                    omega
                  · refine xP_s rfl rfl rfl ?_
                    refine xP_s rfl rfl rfl ?_
                    refine xP_s rfl rfl rfl ?_
                    rw [nI_p2, show t.length - r'.length - 2 + 2 = t.length - r'.length by omega]
                    have hQ2 : (nI (t.length - r'.length)).toInt = ((t.length - r'.length : Nat) : Int) := nI_toInt (by omega)
                    refine xP_s rfl rfl rfl ?_
                    refine xP_s rfl rfl rfl ?_
                    refine xP_s rfl rfl rfl ?_
                    refine xP_s rfl rfl rfl ?_
                    refine xP_zg rfl hB rfl ht.1 ?_
                    refine xP_s rfl rfl rfl ?_
                    refine xP_if (fun hq6 => ?_) (fun hq6 => ?_)
                    · have := xc_t hq6
                      dsimp only at this
                      omega
                    · refine xP_s rfl rfl rfl ?_
                      refine xP_s rfl rfl rfl ?_
                      refine xP_s rfl rfl rfl ?_
                      refine xP_s rfl rfl rfl ?_
                      refine xP_s rfl rfl rfl ?_
                      refine xP_s rfl rfl rfl ?_
                      refine xP_s rfl rfl rfl ?_
                      refine xP_s rfl rfl rfl ?_
                      refine q_layLoop hB ht n r' (t.length - r'.length) (by omega) ?_ (by omega) ?_
                      · have e2 : t = (t.take (p + 2) ++ w) ++ r' := by
                          rw [List.append_assoc, ← hw, ← hd2, List.take_append_drop]
                        exact (sfx.drop ⟨_, e2⟩).1
                      · unfold lyR at k ⊢
                        rw [e, hr'] at k
                        exact k
                · unfold lyR at k
                  rw [e, hr'] at k
                  dsimp only at k
                  refine xP_s rfl rfl rfl ?_
                  refine xP_s rfl rfl rfl ?_
                  refine xP_zg rfl hB rfl ht.1 ?_
                  refine xP_s rfl rfl rfl ?_
                  refine xP_if (fun hq5 => ?_) (fun hq5 => ?_)
                  · have h200 : (200 : Int32).toInt = 200 := rfl
                    refine xP_s rfl rfl rfl ?_
                    refine xP_s rfl rfl rfl ?_
                    refine xP_s rfl rfl rfl ?_
                    refine xP_s rfl rfl rfl ?_
                    refine xP_zg rfl hB rfl ht.1 ?_
                    refine xP_s rfl rfl rfl ?_
                    refine xP_if (fun hq6 => ?_) (fun hq6 => ?_)
                    · repeat' first
                        | refine xP_s rfl rfl rfl ?_
                        | refine xP_if (fun hc => ?_) (fun hc => ?_)
                        | refine xP_ret rfl rfl rfl ?_
                      exact k
                    · have := xc_f hq6
                      dsimp only at this
                      omega
                  · have := xc_f hq5
                    dsimp only at this
                    omega
      · have z2 := xc_f hq2
        dsimp only at z2
        cases s with
        | nil =>
          rw [oz_n] at z2
          omega
        | cons c r =>
          rw [oz_c] at z2 hC
          have e : lay (n + 1) (c :: r) = some [] := by
            unfold lay
            rw [if_neg (by omega), if_pos (by omega), lay_nil]
          unfold lyR at k
          rw [e] at k
          dsimp only [List.length_nil] at k
          refine xP_s rfl rfl rfl ?_
          refine xP_zg rfl hB rfl ht.1 ?_
          have e0 : oz t t.length = 0 := by
            unfold oz
            rw [List.getElem?_eq_none (Nat.le_refl _)]
            rfl
          refine xP_s rfl rfl rfl ?_
          refine xP_s rfl rfl rfl ?_
          refine xP_s rfl rfl rfl ?_
          refine xP_cv rfl rfl rfl rfl rfl (mH_28 hB) (q_charAt hB ht (by omega) e0 ?_)
          refine xP_s rfl rfl rfl ?_
          refine xP_s rfl rfl rfl ?_
          refine xP_if (fun hq3 => ?_) (fun hq3 => ?_)
          · repeat' first
              | refine xP_s rfl rfl rfl ?_
              | refine xP_if (fun hc => ?_) (fun hc => ?_)
              | refine xP_ret rfl rfl rfl ?_
            exact k
          · have := xc_f hq3
            dsimp only at this
            omega
    · have z := xc_f hq
      dsimp only at z
      cases s with
      | nil =>
        rw [oz_n] at z
        omega
      | cons c r =>
        rw [oz_c] at z hC
        obtain ⟨hd', hp'⟩ := drop_c hd
        rw [List.length_cons] at hn
        have e : lay (n + 1) (c :: r) = lay n r := by
          conv => lhs; unfold lay
          rw [if_pos (by omega)]
        refine xP_s rfl rfl rfl ?_
        refine xP_s rfl rfl rfl ?_
        rw [nI_p1]
        refine q_layLoop hB ht n r (p + 1) (by omega) hd' hp' ?_
        unfold lyR at k ⊢
        rw [e] at k
        exact k
set_option maxRecDepth 100000 in
theorem q_behindLayout {s : List Nat} {p : Nat} (hB : B.length = 28) (ht : zT v a t) (hd : t.drop p = s) (hp : p ≤ t.length) (k : P (.inl (some (.int (nI (lyR t s 121))))) (mH B C v a o, g)) : xM1 sc (d + 1) 154 [.ref 28, .int (nI p)] (mH B C v a o, g) P := by
  have hl := drop_l2 hd hp
  have h120 := ht.2.1
  unfold xM1
  refine xP_s rfl rfl rfl ?_
  refine xP_s rfl rfl rfl ?_
  refine xP_s rfl rfl rfl ?_
  refine xP_s rfl rfl rfl ?_
  refine xP_s rfl rfl rfl ?_
  refine xP_s rfl rfl rfl ?_
  refine xP_s rfl rfl rfl ?_
  refine xP_s rfl rfl rfl ?_
  exact q_layLoop hB ht 121 s p (by omega) hd hp k
set_option maxRecDepth 100000 in
theorem q_behindLayoutF {p : Nat} (hB : B.length = 28) (ht : zT v a t) (hp : t.length < p) (hp2 : p < 2 ^ 20) (k : P (.inl (some (.int (nI p)))) (mH B C v a o, g)) : xM1 sc (d + 1) 154 [.ref 28, .int (nI p)] (mH B C v a o, g) P := by
  have e0 : oz t p = 0 := by
    unfold oz
    rw [List.getElem?_eq_none (by omega)]
    rfl
  have h0 : (nI 0).toInt = 0 := rfl
  have h32 : (32 : Int32).toInt = 32 := rfl
  have h37 : (37 : Int32).toInt = 37 := rfl
  have h47 : (47 : Int32).toInt = 47 := rfl
  unfold xM1
  refine xP_s rfl rfl rfl ?_
  refine xP_s rfl rfl rfl ?_
  refine xP_s rfl rfl rfl ?_
  refine xP_s rfl rfl rfl ?_
  refine xP_s rfl rfl rfl ?_
  refine xP_s rfl rfl rfl ?_
  refine xP_s rfl rfl rfl ?_
  refine xP_s rfl rfl rfl ?_
  refine xP_s rfl rfl rfl ?_
  refine xP_s rfl rfl rfl ?_
  refine xP_cv rfl rfl rfl rfl rfl (mH_28 hB) (q_charAt hB ht (by omega) e0 ?_)
  refine xP_s rfl rfl rfl ?_
  refine xP_s rfl rfl rfl ?_
  refine xP_if (fun hq => ?_) (fun hq => ?_)
  · refine xP_s rfl rfl rfl ?_
    refine xP_s rfl rfl rfl ?_
    refine xP_cv rfl rfl rfl rfl rfl (mH_28 hB) (q_charAt hB ht (by omega) e0 ?_)
    refine xP_s rfl rfl rfl ?_
    refine xP_s rfl rfl rfl ?_
    refine xP_if (fun hq => ?_) (fun hq => ?_)
    · refine xP_s rfl rfl rfl ?_
      refine xP_s rfl rfl rfl ?_
      refine xP_cv rfl rfl rfl rfl rfl (mH_28 hB) (q_charAt hB ht (by omega) e0 ?_)
      refine xP_s rfl rfl rfl ?_
      refine xP_s rfl rfl rfl ?_
      refine xP_if (fun hq => ?_) (fun hq => ?_)
      · repeat' first
          | refine xP_s rfl rfl rfl ?_
          | refine xP_if (fun hc => ?_) (fun hc => ?_)
          | refine xP_ret rfl rfl rfl ?_
        exact k
      · have := xc_f hq
        dsimp only at this
        omega
    · have := xc_f hq
      dsimp only at this
      omega
  · have := xc_f hq
    dsimp only at this
    omega
end MU
