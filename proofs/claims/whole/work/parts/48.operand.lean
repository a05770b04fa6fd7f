-- Writer: operands, operators
theorem xTr.rootN {F : xF} {nm : List Nat} {D lo hi n : Nat} {L : List xIt} (h : xTr F nm D lo hi L) (hn : hi ≤ n) : ∃ D' p L1, D = D' + 1 ∧ L = p :: L1 ∧ lo < hi ∧ okIt p ∧ ndK F nm (hi - 1) p ∧ p.2.2.2 ≤ 6 ∧ xCn F n (F.2.2.2.1 (hi - 1)) p.2.2.2 ∧ xCh F (fun a b l => xTr F nm D' a b l) p.2.2.2 (F.2.2.2.1 (hi - 1)) lo (hi - 1) L1 := by
  cases D with
  | zero => exact h.elim
  | succ D =>
    obtain ⟨h0, p, L1, h1, h2, h3, h4⟩ := h
    refine ⟨D, p, L1, rfl, h1, h0, h2, h3, ?_, h4.cn (by omega), h4⟩
    rcases Nat.lt_or_ge p.1 3 with z | z
    · have := h2.1 z
      omega
    · have := h3.2.1
      exact (h2.2.1 (by omega)).2
theorem slF_cases {sl : List xSl} {p : xIt} {e : xSl} (h : slF sl p = some e) : p.1 = 3 ∧ ((oPre (some e) = true ∧ p.2.2.2 = 1) ∨ (oPre (some e) = false ∧ oPost (some e) = true ∧ p.2.2.2 = 1) ∨ (oPre (some e) = false ∧ oPost (some e) = false ∧ oInf (some e) = true ∧ p.2.2.2 = 2)) := by
  have pre : ∀ b key, slE sl (fnd b key sl 0) = some e → isPre e.2.2 = b := by
    intro b key hh
    cases hf : fnd b key sl 0 with
    | none =>
      rw [hf] at hh
      cases hh
    | some i =>
      rw [hf] at hh
      obtain ⟨_, e', g1, _, g3⟩ := fnd_some hf
      rw [Nat.sub_zero] at g1
      have : sl[i]? = some e := hh
      rw [this] at g1
      cases g1
      exact g3
  have hoP : oPre (some e) = isPre e.2.2 := by
    simp only [oPre, slT, isPre]
    congr 1
    · exact decide_eq_decide.mpr (by omega)
    · exact decide_eq_decide.mpr (by omega)
  unfold slF at h
  split at h
  next h3 =>
    refine ⟨h3, ?_⟩
    split at h
    next h1 => exact Or.inl ⟨by rw [hoP]; exact pre true _ h, h1.1⟩
    next =>
      split at h
      next h2 =>
        have hb : opB sl (kP p) = some e := h
        have hp : oPre (some e) = false := by rw [hoP]; exact pre false _ h
        rw [hb] at h2
        rcases h2 with h2 | h2
        · exact Or.inr (Or.inl ⟨hp, h2.2, h2.1⟩)
        · refine Or.inr (Or.inr ⟨hp, ?_, h2.2, h2.1⟩)
          have hi := h2.2
          simp only [oInf, Bool.or_eq_true, decide_eq_true_eq] at hi
          simp only [oPost, Bool.or_eq_false_iff, decide_eq_false_iff_not]
          omega
      next => cases h
  next => cases h
def xWc (sc : xSc) (dd g : Nat) (nm : List Nat) (sl : List xSl) (n : Nat) (F : xF) (D lv : Nat) : Prop := ∀ (A : List xC) (o : List Nat) (lo hi : Nat) (L R : List xIt) (x : Int32) (most : Int) (f : Nat) (P : xO → xH → Prop), xTr F nm D lo hi L → hi ≤ n → D ≤ f → xWw A nm sl n F → xRw A 3 1200 o → x.toInt = most → o.length + (wrt sl f most (L ++ R)).1.length ≤ 1200 → (∀ A', xRw A' 3 1200 (o ++ (wrt sl f most (L ++ R)).1) → xSame A A' [3, 4] → P (.inl none) (A', g)) → xM1 sc dd 115 [.ref 26, .int (nI (hi - 1)), .int x, .int (nI lv)] (A, g) P
section WE
variable {sc : xSc} {d g : Nat} {A : List xC} {nm : List Nat} {sl : List xSl} {n : Nat} {F : xF} {P : xO → xH → Prop}
/-- a character more -/
theorem p_put {c : Nat} {o : List Nat} (ho : xRw A 3 1200 o) (hc : c < 128) (hr : o.length < 1200) (k : ∀ A', xRw A' 3 1200 (o ++ [c]) → xSame A A' [3, 4] → P (.inl none) (A', g)) : xM1 sc d 14 [.ref 3, .int (nI c)] (A, g) P := p_add ho (by decide) (by decide) hc hr k
set_option maxHeartbeats 4000000 in
set_option maxRecDepth 100000 in
theorem p_operand {D lv lo hi f : Nat} {L R : List xIt} {o : List Nat} {x : Int32} {most : Int} (IH : xWc sc (d + 3) g nm sl n F D lv) (ht : xTr F nm D lo hi L) (hn' : hi ≤ n) (hf : D ≤ f) (hw : xWw A nm sl n F) (ho : xRw A 3 1200 o) (hx : x.toInt = most) (hr : o.length + (opd sl (wrt sl f) most (L ++ R)).1.length ≤ 1200)
    (k : ∀ A', xRw A' 3 1200 (o ++ (opd sl (wrt sl f) most (L ++ R)).1) → xSame A A' [3, 4] → P (.inl none) (A', g)) : xM1 sc (d + 4) 122 [.ref 26, .int (nI (hi - 1)), .int x, .int (nI lv)] (A, g) P := by
  obtain ⟨h26, hnm, hop, hp⟩ := id hw
  unfold xWo at h26
  obtain ⟨D', p, L1, e1, e2, h0, hok, hnd, har, hcn, hch⟩ := ht.rootN hn'
  have hj : hi - 1 < n := by omega
  have hv : ∀ i, some (hi - 1) = some i → i < n := fun i h => Option.some.inj h ▸ hj
  have q1 := hnd.1
  have q2 := hnd.2.1
  have h2 : (2 : Int32).toInt = 2 := rfl
  have hK : (nI p.1).toInt = (p.1 : Int) := nI_toInt (by omega)
  have hhd : hdI (L ++ R) = p := by rw [e2]; rfl
  have eb : opdB sl (L ++ R) = (decide (p.1 = 2) && ((fnd true (kP p) sl 0).isSome || (fnd false (kP p) sl 0).isSome)) := by
    unfold opdB
    rw [hhd]
  unfold opd at hr k
  dsimp only at hr k
  generalize hB : opdB sl (L ++ R) = b at hr k eb
  generalize hO : (wrt sl f most (L ++ R)).1 = w at hr k
  -- the part itself, with or without brackets
  have plain : b = false → xP sc (d + 4) 122 34 [(0, .ref 26), (1, .int (nI (hi - 1))), (2, .int x), (3, .int (nI lv))] [] (A, g) P := by
    intro hb
    rw [hb] at hr k
    unfold brk at hr k
    simp only [Bool.false_eq_true, if_false] at hr k
    refine xP_s rfl rfl rfl ?_
    refine xP_s rfl rfl rfl ?_
    refine xP_s rfl rfl rfl ?_
    refine xP_s rfl rfl rfl ?_
    refine xP_s rfl rfl rfl ?_
    refine xP_s rfl rfl rfl ?_
    refine xP_s rfl rfl rfl ?_
    refine xP_s rfl rfl rfl ?_
    refine xP_cv rfl rfl rfl rfl rfl h26 (IH A o lo hi L R x most f _ ht hn' hf hw ho hx (by rw [hO]; exact hr) (fun A2 w1 w2 => ?_))
    rw [hO] at w1
    repeat' first
      | refine xP_s rfl rfl rfl ?_
      | refine xP_ret rfl rfl rfl ?_
    exact k A2 w1 w2
  have brackets : b = true → xP sc (d + 4) 122 30 [(0, .ref 26), (1, .int (nI (hi - 1))), (2, .int x), (3, .int (nI lv))] [] (A, g) P := by
    intro hb
    rw [hb] at hr k
    unfold brk at hr k
    simp only [if_true, List.length_cons, List.length_append, List.length_nil] at hr k
    refine xP_s rfl rfl rfl ?_
    refine xP_s rfl rfl rfl ?_
    refine xP_s rfl rfl rfl ?_
    refine xP_s rfl rfl rfl ?_
    refine xP_s rfl rfl rfl ?_
    refine xP_s rfl rfl rfl ?_
    refine xP_get rfl h26 rfl ?_
    refine xP_s rfl rfl rfl ?_
    refine xP_cv rfl rfl rfl rfl rfl ho.obj (p_put (c := 40) ho (by decide) (by omega) (fun A2 w1 w2 => ?_))
    have hw2 := hw.same w2
    have h26b := hw2.1
    unfold xWo at h26b
    refine xP_s rfl rfl rfl ?_
    refine xP_s rfl rfl rfl ?_
    refine xP_s rfl rfl rfl ?_
    refine xP_s rfl rfl rfl ?_
    refine xP_cv rfl rfl rfl rfl rfl h26b (IH A2 _ lo hi L R x most f _ ht hn' hf hw2 w1 hx (by rw [hO, List.length_append, List.length_singleton]; omega) (fun A3 v1 v2 => ?_))
    rw [hO] at v1
    have hw3 := hw2.same v2
    have h26c := hw3.1
    unfold xWo at h26c
    refine xP_s rfl rfl rfl ?_
    refine xP_s rfl rfl rfl ?_
    refine xP_s rfl rfl rfl ?_
    refine xP_get rfl h26c rfl ?_
    refine xP_s rfl rfl rfl ?_
    refine xP_cv rfl rfl rfl rfl rfl v1.obj (p_put (c := 41) v1 (by decide) (by rw [List.length_append, List.length_append, List.length_singleton]; omega) (fun A4 u1 u2 => ?_))
    repeat' first
      | refine xP_s rfl rfl rfl ?_
      | refine xP_ret rfl rfl rfl ?_
    refine k A4 ?_ (((w2.trans v2).trans u2).wide (by decide))
    rw [List.append_assoc, List.append_assoc] at u1
    exact u1
  unfold xM1
  refine xP_s rfl rfl rfl ?_
  refine xP_get rfl h26 rfl ?_
  refine xP_s rfl rfl rfl ?_
  refine xP_cv rfl rfl rfl rfl rfl hp.2.1 (p_kind (o := some (hi - 1)) hp hv ?_)
  rw [show ptG F.1 (-1) (some (hi - 1)) = nI p.1 from q1]
  refine xP_s rfl rfl rfl ?_
  refine xP_s rfl rfl rfl ?_
  refine xP_if (fun hc => ?_) (fun hc => ?_)
  · have z := xc_t hc
    dsimp only at z
    rw [hK, h2] at z
    exact plain (by rw [eb, decide_eq_false (fun q => z (by rw [q]; rfl)), Bool.false_and])
  · have z := xc_f hc
    dsimp only at z
    rw [hK, h2] at z
    have hk2 : p.1 = 2 := Int.ofNat.inj z
    rw [decide_eq_true hk2, Bool.true_and] at eb
    refine xP_s rfl rfl rfl ?_
    refine xP_get rfl h26 rfl ?_
    refine xP_s rfl rfl rfl ?_
    refine xP_get rfl h26 rfl ?_
    refine xP_s rfl rfl rfl ?_
    refine xP_cv rfl rfl rfl rfl rfl hp.2.1 (p_key hp hnm hj hnd ?_)
    refine xP_cv rfl rfl rfl rfl rfl hop.obj (p_isOperator hop ?_)
    rw [← eb]
    cases hb2 : b
    · have pl := plain hb2
      repeat' first
        | exact pl
        | refine xP_s rfl rfl rfl ?_
    · have br := brackets hb2
      repeat' first
        | exact br
        | refine xP_s rfl rfl rfl ?_
end WE
