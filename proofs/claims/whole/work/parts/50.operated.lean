-- Writer: terms with operators
section WG
variable {sc : xSc} {d g : Nat} {A : List xC} {nm : List Nat} {sl : List xSl} {n : Nat} {F : xF} {P : xO → xH → Prop}
set_option maxHeartbeats 4000000 in
set_option maxRecDepth 100000 in
theorem p_operated {D lv lo hi f js : Nat} {p : xIt} {L1 R : List xIt} {o : List Nat} {e : xSl} (IH : xWc sc (d + 4) g nm sl n F D (lv + 1)) (h0 : lo < hi) (hn' : hi ≤ n) (hnd : ndK F nm (hi - 1) p) (hch : xCh F (fun a b l => xTr F nm D a b l) p.2.2.2 (F.2.2.2.1 (hi - 1)) lo (hi - 1) L1) (hs : slF sl p = some e) (hjs : sl[js]? = some e) (hf : D ≤ f) (h15 : D ≤ 15) (hw : xWw A nm sl n F) (ho : xRw A 3 1200 o) (hr : o.length + (opr sl (wrt sl f) e p (L1 ++ R)).1.length ≤ 1200)
    (k : ∀ A', xRw A' 3 1200 (o ++ (opr sl (wrt sl f) e p (L1 ++ R)).1) → xSame A A' [3, 4] → P (.inl none) (A', g)) : xM1 sc (d + 6) 119 [.ref 26, .int (nI (hi - 1)), .int (nI js), .int (nI lv)] (A, g) P := by
  obtain ⟨h26, hnm, hop, hp⟩ := id hw
  have h26w := h26
  unfold xWo at h26
  have hj : hi - 1 < n := by omega
  have hpn := hp.1
  have hjl : js < sl.length := (List.getElem?_eq_some_iff.mp hjs).1
  have hv : ∀ i, some js = some i → i < sl.length := fun i h => Option.some.inj h ▸ hjl
  have hsE : slE sl (some js) = some e := hjs
  obtain ⟨hk3, hcs⟩ := slF_cases hs
  obtain ⟨zz, z1, z2, z3⟩ := hnd.2.2.2 (by omega)
  -- the first argument
  obtain ⟨a1, b1, C, R1, g1, g2, g3, g4, t1, eC⟩ : ∃ a1 b1 C R1, lo ≤ a1 ∧ a1 < b1 ∧ b1 ≤ hi - 1 ∧ F.2.2.2.1 (hi - 1) = nI (b1 - 1) ∧ xTr F nm D a1 b1 C ∧ L1 ++ R = C ++ R1 := by
    rcases hcs with ⟨_, c2⟩ | ⟨_, _, c2⟩ | ⟨_, _, _, c2⟩
    · rw [c2] at hch
      obtain ⟨a, b, q1, q2, q3, q4, q5⟩ := ch_one hch
      exact ⟨a, b, L1, R, q1, q2, q3, q4, q5, rfl⟩
    · rw [c2] at hch
      obtain ⟨a, b, q1, q2, q3, q4, q5⟩ := ch_one hch
      exact ⟨a, b, L1, R, q1, q2, q3, q4, q5, rfl⟩
    · rw [c2] at hch
      obtain ⟨a, b, a', b', E, T, q1, q2, q3, _, _, _, q4, _, q5, _, q6⟩ := ch_two hch
      exact ⟨a, b, E, T ++ R, q1, q2, q3, q4, q5, by rw [q6, List.append_assoc]⟩
  have hrest := fun most => wrt_rest (sl := sl) f D a1 b1 C t1 hf h15 most R1
  obtain ⟨D2, p2, C2, _, ec2, _, _, hnd2, har2, hcn2, _⟩ := t1.rootN (n := n) (by omega)
  have hhd : hdI (C ++ R1) = p2 := by rw [ec2]; rfl
  rw [eC] at hr k
  unfold xM1
  refine xP_s rfl rfl rfl ?_
  refine xP_get rfl h26 rfl ?_
  refine xP_s rfl rfl rfl ?_
  refine xP_cv rfl rfl rfl rfl rfl hp.2.1 (p_first hp (o := some (hi - 1)) (fun i h => Option.some.inj h ▸ hj) ?_)
  rw [show ptG F.2.2.2.1 (-1) (some (hi - 1)) = nI (b1 - 1) from g4]
  refine xP_s rfl rfl rfl ?_
  refine xP_s rfl rfl rfl ?_
  refine xP_get rfl h26 rfl ?_
  refine xP_s rfl rfl rfl ?_
  refine xP_cv rfl rfl rfl rfl rfl hop.obj (p_isPrefix (o := some js) hop hv ?_)
  rw [hsE]
  unfold opr at hr k
  cases hpre : oPre (some e)
  · rw [if_neg (by rw [hpre]; decide)] at hr k
    refine xP_s rfl rfl rfl ?_
    refine xP_s rfl rfl rfl ?_
    refine xP_s rfl rfl rfl ?_
    refine xP_s rfl rfl rfl ?_
    refine xP_s rfl rfl rfl ?_
    refine xP_s rfl rfl rfl ?_
    refine xP_cv rfl rfl rfl rfl rfl h26 (p_wleftMost hw (by omega) hnd2 har2 hcn2 hjs (fun x hx => ?_))
    have hx' : x.toInt = lfm sl e (C ++ R1) := by
      unfold lfm
      rw [hhd]
      exact hx
    refine xP_s rfl rfl rfl ?_
    refine xP_s rfl rfl rfl ?_
    refine xP_s rfl rfl rfl ?_
    rw [nI_1]
    cases hpost : oPost (some e)
    · rw [if_neg (by rw [hpost]; decide)] at hr k
      rw [List.length_append, List.length_append] at hr
      have c2 : p.2.2.2 = 2 := by
        rcases hcs with ⟨c1, _⟩ | ⟨_, c1, _⟩ | ⟨_, _, _, c2⟩
        · rw [hpre] at c1
          cases c1
        · rw [hpost] at c1
          cases c1
        · exact c2
      refine xP_cv rfl rfl rfl rfl rfl h26 (p_operand (d := d + 1) (R := R1) (f := f) IH t1 (by omega) hf hw ho hx' (by omega) (fun A2 w1 w2 => ?_))
      have hw2 := hw.same w2
      obtain ⟨h26b, hnmb, hopb, hpb⟩ := id hw2
      unfold xWo at h26b
      refine xP_s rfl rfl rfl ?_
      refine xP_get rfl h26b rfl ?_
      refine xP_s rfl rfl rfl ?_
      refine xP_cv rfl rfl rfl rfl rfl hopb.obj (p_isPostfix (o := some js) hopb hv ?_)
      rw [hsE, hpost]
      refine xP_s rfl rfl rfl ?_
      refine xP_s rfl rfl rfl ?_
      refine xP_s rfl rfl rfl ?_
      refine xP_cv rfl rfl rfl rfl rfl h26b (p_infixName (z := 0) hw2 w1 hj hnd hk3 (by rw [List.length_append]; omega) (fun A3 v1 v2 => ?_))
      have hw3 := hw2.same v2
      obtain ⟨h26c, hnmc, hopc, hpc⟩ := id hw3
      unfold xWo at h26c
      rw [c2] at hch
      obtain ⟨xa, xb', a', b', E, T, q1, q2, q3, q7, q8, q9, q4, q10, q5, q11, q6⟩ := ch_two hch
      have eb : xb' = b1 := by
        have := q4.symm.trans g4
        have := (nI_eq (by omega) (by omega)).mp this
        omega
      subst eb
      have hopd2 : (opd sl (wrt sl f) (lfm sl e (C ++ R1)) (C ++ R1)).2 = R1 := hrest _
      have hTR : R1 = T ++ R := by
        have h1 := (q5.tm).cancel (t1.tm) (R := T ++ R) (S := R1) (by rw [← List.append_assoc, ← q6]; exact eC)
        exact h1.2.symm
      rw [hopd2, hTR] at hr k
      refine xP_s rfl rfl rfl ?_
      refine xP_s rfl rfl rfl ?_
      refine xP_get rfl h26c rfl ?_
      refine xP_s rfl rfl rfl ?_
      refine xP_cv rfl rfl rfl rfl rfl hpc.2.1 (p_second hpc hj (show xb' - 1 < n by omega) g4 ?_)
      rw [q10]
      refine xP_s rfl rfl rfl ?_
      refine xP_get rfl h26c rfl ?_
      refine xP_s rfl rfl rfl ?_
      refine xP_cv rfl rfl rfl rfl rfl hopc.obj (p_rightMost (o := some js) hopc hv (fun y hy => ?_))
      rw [hsE] at hy
      refine xP_s rfl rfl rfl ?_
      refine xP_s rfl rfl rfl ?_
      refine xP_s rfl rfl rfl ?_
      rw [nI_1]
      refine xP_cv rfl rfl rfl rfl rfl h26c (p_operand (d := d + 1) (R := R) (f := f) IH q11 (by omega) hf hw3 v1 hy (by rw [List.length_append, List.length_append, ← hTR]; rw [← hTR] at hr; omega) (fun A4 u1 u2 => ?_))
      repeat' first
        | refine xP_s rfl rfl rfl ?_
        | refine xP_ret rfl rfl rfl ?_
      refine k A4 ?_ (((w2.trans v2).trans u2).wide (by decide))
      rw [List.append_assoc, List.append_assoc] at u1
      rw [hTR] at u1
      exact u1
    · rw [if_pos hpost] at hr k
      rw [List.length_append, List.length_cons] at hr
      refine xP_cv rfl rfl rfl rfl rfl h26 (p_operand (d := d + 1) (R := R1) (f := f) IH t1 (by omega) hf hw ho hx' (by omega) (fun A2 w1 w2 => ?_))
      have hw2 := hw.same w2
      obtain ⟨h26b, hnmb, hopb, hpb⟩ := id hw2
      unfold xWo at h26b
      refine xP_s rfl rfl rfl ?_
      refine xP_get rfl h26b rfl ?_
      refine xP_s rfl rfl rfl ?_
      refine xP_cv rfl rfl rfl rfl rfl hopb.obj (p_isPostfix (o := some js) hopb hv ?_)
      rw [hsE, hpost]
      refine xP_s rfl rfl rfl ?_
      refine xP_s rfl rfl rfl ?_
      refine xP_get rfl h26b rfl ?_
      refine xP_s rfl rfl rfl ?_
      refine xP_cv rfl rfl rfl rfl rfl w1.obj (p_put (c := 32) w1 (by decide) (by rw [List.length_append]; omega) (fun A3 v1 v2 => ?_))
      have hw3 := hw2.same v2
      obtain ⟨h26c, hnmc, hopc, hpc⟩ := id hw3
      have h26c' := h26c
      unfold xWo at h26c'
      refine xP_s rfl rfl rfl ?_
      refine xP_s rfl rfl rfl ?_
      refine xP_cv rfl rfl rfl rfl rfl h26c' (p_wname h26c hnmc v1 hpc hj z1 z2 z3 (by rw [List.length_append, List.length_append, List.length_singleton]; omega) (fun A4 u1 u2 => ?_))
      repeat' first
        | refine xP_s rfl rfl rfl ?_
        | refine xP_ret rfl rfl rfl ?_
      refine k A4 ?_ (((w2.trans v2).trans u2).wide (by decide))
      rw [List.append_assoc, List.append_assoc] at u1
      exact u1
  · rw [if_pos hpre] at hr k
    rw [List.length_append, List.length_cons] at hr
    refine xP_s rfl rfl rfl ?_
    refine xP_s rfl rfl rfl ?_
    refine xP_s rfl rfl rfl ?_
    refine xP_cv rfl rfl rfl rfl rfl h26 (p_wname h26w hnm ho hp hj z1 z2 z3 (by omega) (fun A2 w1 w2 => ?_))
    have hw2 := hw.same w2
    obtain ⟨h26b, hnmb, hopb, hpb⟩ := id hw2
    unfold xWo at h26b
    refine xP_s rfl rfl rfl ?_
    refine xP_get rfl h26b rfl ?_
    refine xP_s rfl rfl rfl ?_
    refine xP_cv rfl rfl rfl rfl rfl w1.obj (p_put (c := 32) w1 (by decide) (by rw [List.length_append]; omega) (fun A3 v1 v2 => ?_))
    have hw3 := hw2.same v2
    obtain ⟨h26c, hnmc, hopc, hpc⟩ := id hw3
    unfold xWo at h26c
    refine xP_s rfl rfl rfl ?_
    refine xP_s rfl rfl rfl ?_
    refine xP_s rfl rfl rfl ?_
    refine xP_get rfl h26c rfl ?_
    refine xP_s rfl rfl rfl ?_
    refine xP_cv rfl rfl rfl rfl rfl hopc.obj (p_rightMost (o := some js) hopc hv (fun y hy => ?_))
    rw [hsE] at hy
    refine xP_s rfl rfl rfl ?_
    refine xP_s rfl rfl rfl ?_
    refine xP_s rfl rfl rfl ?_
    rw [nI_1]
    refine xP_cv rfl rfl rfl rfl rfl h26c (p_operand (d := d + 1) (R := R1) (f := f) IH t1 (by omega) hf hw3 v1 hy (by rw [List.length_append, List.length_append, List.length_singleton]; omega) (fun A4 u1 u2 => ?_))
    repeat' first
      | refine xP_s rfl rfl rfl ?_
      | refine xP_ret rfl rfl rfl ?_
    refine k A4 ?_ (((w2.trans v2).trans u2).wide (by decide))
    rw [List.append_assoc, List.append_assoc] at u1
    exact u1
set_option maxRecDepth 100000 in
theorem p_bracketed {D lv lo hi f js : Nat} {p : xIt} {L1 R : List xIt} {o : List Nat} {e : xSl} {x : Int32} {most : Int} (IH : xWc sc (d + 4) g nm sl n F D (lv + 1)) (h0 : lo < hi) (hn' : hi ≤ n) (hnd : ndK F nm (hi - 1) p) (hch : xCh F (fun a b l => xTr F nm D a b l) p.2.2.2 (F.2.2.2.1 (hi - 1)) lo (hi - 1) L1) (hs : slF sl p = some e) (hjs : sl[js]? = some e) (hf : D ≤ f) (h15 : D ≤ 15) (hw : xWw A nm sl n F) (ho : xRw A 3 1200 o) (hx : x.toInt = most) (hr : o.length + (brk (decide (most < (e.2.1 : Int))) (opr sl (wrt sl f) e p (L1 ++ R)).1).length ≤ 1200)
    (k : ∀ A', xRw A' 3 1200 (o ++ brk (decide (most < (e.2.1 : Int))) (opr sl (wrt sl f) e p (L1 ++ R)).1) → xSame A A' [3, 4] → P (.inl none) (A', g)) : xM1 sc (d + 7) 118 [.ref 26, .int (nI (hi - 1)), .int (nI js), .int x, .int (nI lv)] (A, g) P := by
  obtain ⟨h26, hnm, hop, hp⟩ := id hw
  unfold xWo at h26
  have hjl : js < sl.length := (List.getElem?_eq_some_iff.mp hjs).1
  have hv : ∀ i, some js = some i → i < sl.length := fun i h => Option.some.inj h ▸ hjl
  have hsE : slE sl (some js) = some e := hjs
  have hent := hop.ent hjs
  have hE : (nI e.2.1).toInt = (e.2.1 : Int) := nI_toInt (by omega)
  unfold xM1
  refine xP_s rfl rfl rfl ?_
  refine xP_get rfl h26 rfl ?_
  refine xP_s rfl rfl rfl ?_
  refine xP_cv rfl rfl rfl rfl rfl hop.obj (p_priority (o := some js) hop hv ?_)
  rw [hsE]
  refine xP_s rfl rfl rfl ?_
  refine xP_s rfl rfl rfl ?_
  refine xP_if (fun hc => ?_) (fun hc => ?_)
  · have z := xc_t hc
    dsimp only [slP] at z
    rw [hE, hx] at z
    rw [decide_eq_false (Int.not_lt.mpr z)] at hr k
    unfold brk at hr k
    simp only [Bool.false_eq_true, if_false] at hr k
    refine xP_s rfl rfl rfl ?_
    refine xP_s rfl rfl rfl ?_
    refine xP_s rfl rfl rfl ?_
    refine xP_s rfl rfl rfl ?_
    refine xP_s rfl rfl rfl ?_
    refine xP_s rfl rfl rfl ?_
    refine xP_s rfl rfl rfl ?_
    refine xP_s rfl rfl rfl ?_
    refine xP_cv rfl rfl rfl rfl rfl h26 (p_operated IH h0 hn' hnd hch hs hjs hf h15 hw ho hr (fun A2 w1 w2 => ?_))
    repeat' first
      | refine xP_s rfl rfl rfl ?_
      | refine xP_ret rfl rfl rfl ?_
    exact k A2 w1 w2
  · have z := xc_f hc
    dsimp only [slP] at z
    rw [hE, hx] at z
    rw [decide_eq_true z] at hr k
    unfold brk at hr k
    simp only [if_true, List.length_cons, List.length_append, List.length_nil] at hr k
    refine xP_s rfl rfl rfl ?_
    refine xP_s rfl rfl rfl ?_
    refine xP_s rfl rfl rfl ?_
    refine xP_s rfl rfl rfl ?_
    refine xP_s rfl rfl rfl ?_
    refine xP_s rfl rfl rfl ?_
    refine xP_get rfl h26 rfl ?_
    refine xP_s rfl rfl rfl ?_
    refine xP_cv rfl rfl rfl rfl rfl ho.obj (p_put (c := 40) ho (by decide) (by omega) (fun A2 w1 w2 => ?_))
    have hw2 := hw.same w2
    have h26b := hw2.1
    unfold xWo at h26b
    refine xP_s rfl rfl rfl ?_
    refine xP_s rfl rfl rfl ?_
    refine xP_s rfl rfl rfl ?_
    refine xP_s rfl rfl rfl ?_
    refine xP_cv rfl rfl rfl rfl rfl h26b (p_operated (R := R) IH h0 hn' hnd hch hs hjs hf h15 hw2 w1 (by rw [List.length_append, List.length_singleton]; omega) (fun A3 v1 v2 => ?_))
    have hw3 := hw2.same v2
    have h26c := hw3.1
    unfold xWo at h26c
    refine xP_s rfl rfl rfl ?_
    refine xP_s rfl rfl rfl ?_
    refine xP_s rfl rfl rfl ?_
    refine xP_get rfl h26c rfl ?_
    refine xP_s rfl rfl rfl ?_
    refine xP_cv rfl rfl rfl rfl rfl v1.obj (p_put (c := 41) v1 (by decide) (by rw [List.length_append, List.length_append, List.length_singleton]; omega) (fun A4 u1 u2 => ?_))
    repeat' first
      | refine xP_s rfl rfl rfl ?_
      | refine xP_ret rfl rfl rfl ?_
    refine k A4 ?_ (((w2.trans v2).trans u2).wide (by decide))
    rw [List.append_assoc, List.append_assoc] at u1
    exact u1
end WG
