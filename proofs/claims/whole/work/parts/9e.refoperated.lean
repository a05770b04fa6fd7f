-- the reference: operated, part
theorem i_nat {x : Int32} {m : Int} (h : x.toInt = m) (h0 : 0 ≤ m) (h1 : m < 2 ^ 31) : x = nI m.toNat := by
  apply Int32.toInt_inj.mp
  rw [h, toI m.toNat (by omega)]
  omega
theorem oR_b {e : xSl} (h : 1 ≤ e.2.1 ∧ e.2.1 ≤ 1200) : 0 ≤ oRight (some e) ∧ oRight (some e) ≤ 1200 ∧ 0 ≤ oLeft (some e) ∧ oLeft (some e) ≤ 1200 := by
  unfold oRight oLeft
  rw [show slP (some e) = e.2.1 from rfl]
  split <;> split <;> omega
def lfN (sl : List xSl) (q : xIt) (e : xSl) : Nat := if tko sl q e.2.1 = true then e.2.1 - 1 else (oLeft (some e)).toNat
theorem keM_44 (l : List Nat) : keM l = 44 ↔ kL l = 44 := by
  unfold keM kL
  split
  · exact Iff.rfl
  · exact ⟨fun q => absurd q (by decide), fun q => absurd q (by decide)⟩
section WK2
variable {sc : xSc} {d g : Nat} {B C : List xC} {o : Nat → Int64} {P : xO → xH → Prop} {v : Nat → Int32} {a : Nat → Nat → Int32} {N : List (List Nat)} {Q : List xIt} {sl : List xSl} {p q : xIt} {r : Nat} {S : List (Int32 × Int32)} {w : List Nat}
set_option maxHeartbeats 8000000 in
set_option maxRecDepth 100000 in
theorem q_operated {e : xSl} {L L' R : List xIt} (hB : B.length = 28) (hY : zY sl N Q v a o S w) (hr : Q[r]? = some p) (he : slF sl p = some e) (hp : okP p) (hi : okIt p) (h46 : ∀ e ∈ sl, ¬ e.1 = 46) (h32 : ∀ e ∈ sl, ¬ e.1 = 32123) (hL : isTm L) (hLq : L = q :: L') (hqp : okP q) (hqi : okIt q) (hd : Q.drop (r + 1) = L ++ R) (hl : S.length + 6 ≤ 900) (hw : w.length + (nmW p.2.2.1).length ≤ 2580)
    (kp : p.2.2.2 = 1 → opP sl (kP p) = some e → ∀ v' a', zY sl N Q v' a' o ((nI (r + 1), nI (2000 + (oRight (some e)).toNat)) :: S) (w ++ (nmW p.2.2.1 ++ [32])) → vS v v' [37, 40] → aS a a' [49, 50, 51] → P (.inl none) (mH B C v' a' o, g))
    (ks : p.2.2.2 = 1 → opP sl (kP p) = none → opB sl (kP p) = some e → ∀ v' a' j, N[j]? = some p.2.2.1 → zY sl N Q v' a' o ((nI (r + 1), nI (2000 + lfN sl q e)) :: (-32, 0) :: (nI j, 6000) :: S) w → vS v v' [37, 40] → aS a a' [49, 50, 51] → P (.inl none) (mH B C v' a' o, g))
    (ki : p.2.2.2 = 2 → opB sl (kP p) = some e → ∀ v' a' j, N[j]? = some p.2.2.1 → zY sl N Q v' a' o (if kP p = 44 then (nI (r + 1), nI (2000 + lfN sl q e)) :: (-44, 6000) :: (nI (r + 1 + L.length), nI (2000 + (oRight (some e)).toNat)) :: S else (nI (r + 1), nI (2000 + lfN sl q e)) :: (-32, 0) :: (nI j, 6000) :: (-32, 0) :: (nI (r + 1 + L.length), nI (2000 + (oRight (some e)).toNat)) :: S) w → vS v v' [37, 40] → aS a a' [49, 50, 51] → P (.inl none) (mH B C v' a' o, g)) : xM1 sc (d + 4) 191 [.ref 28, .int (nI r)] (mH B C v a o, g) P := by
  obtain ⟨k3, he1, he2, he3⟩ := slF_e he
  have hrl := (List.getElem?_eq_some_iff.mp hr).1
  have ho := hY.1
  have hn := hY.2.1
  have hq := hY.2.2.1
  have hqm := hq.2.1
  obtain ⟨z1, z2, z3, z4, z5, z6⟩ := hq.2.2 r p hr
  obtain ⟨j, hj, hv⟩ := z4 (by omega)
  have hgq : Q[r + 1]? = some q := by
    have := dr_get (L := []) (q := q) (R := L' ++ R) (k := r + 1) (Q := Q) (by rw [hd, hLq]; rfl)
    simpa using this
  have hql : r + 1 + L.length ≤ Q.length := by
    have := congrArg List.length hd
    rw [List.length_drop, List.length_append] at this
    have := (List.getElem?_eq_some_iff.mp hgq).1
    omega
  obtain ⟨kk1, kk2⟩ := ho.key p.2.2.1
  rw [← kP_2 (p := p) (by omega)] at kk1 kk2
  have heb : 1 ≤ e.2.1 ∧ e.2.1 ≤ 1200 := by
    obtain ⟨_, _, _, _, _, _, _, h3⟩ := ho
    have := h3 e he1
    omega
  have hRb := oR_b heb
  have hAr := toI p.2.2.2 (by omega)
  have c0 : (0 : Int32).toInt = 0 := rfl
  have c2 : (2 : Int32).toInt = 2 := rfl
  have esl : slP (slF sl p) = e.2.1 := by rw [he]; rfl
  have hlf : lfN sl q e ≤ 1200 := by
    unfold lfN
    split
    · omega
    · omega
  -- with what may stand ahead
  have at50 : ∀ x7 : Int32, (opB sl (kP p) = some e → x7 = nI (lfN sl q e)) → xP sc (d + 4) 191 50 [(0, .ref 28), (1, .int (nI r)), (2, .int (nI j)), (3, .long (keM p.2.2.1)), (5, .int (nI (r + 1))), (6, .int (nI e.2.1)), (7, .int x7)] [] (mH B C v a o, g) P := by
    intro x7 hx7
    refine xP_s rfl rfl rfl ?_
    refine xP_get rfl (mH_28 hB) rfl ?_
    refine xP_s rfl rfl rfl ?_
    refine xP_zl (n := 1000) rfl hB rfl rfl (by omega) z5 ?_
    refine xP_s rfl rfl rfl ?_
    refine xP_s rfl rfl rfl ?_
    refine xP_if (fun y1 => ?_) (fun y1 => ?_)
    · have q1 := xc_t y1
      dsimp only at q1
      have h1 : p.2.2.2 = 1 := by omega
      have hle := (ho.le (key := kP p)).1
      have hS := toI (slP (opP sl (kP p))) (by omega)
      refine xP_s rfl rfl rfl ?_
      refine xP_s rfl rfl rfl ?_
      refine xP_cv rfl rfl rfl rfl rfl (mH_28 hB) (q_prefixOf hB ho ?_)
      rw [kk1]
      refine xP_s rfl rfl rfl ?_
      refine xP_if (fun y2 => ?_) (fun y2 => ?_)
      · have q2 := xc_t y2
        dsimp only at q2
        have hpn : opP sl (kP p) = none := by
          cases hx : opP sl (kP p) with
          | none => rfl
          | some e' =>
            have := (slP_pos ho).2.mpr (by rw [hx]; rfl)
            omega
        have hbe : opB sl (kP p) = some e := by
          have e1 : slF sl p = some e := he
          unfold slF at e1
          rw [if_pos k3, if_neg (fun h => by rw [hpn] at h; cases h.2)] at e1
          split at e1
          · exact e1
          · cases e1
        rw [hx7 hbe]
        have k' := ks h1 hpn hbe
        refine xP_s rfl rfl rfl ?_
        refine xP_s rfl rfl rfl ?_
        refine xP_s rfl rfl rfl ?_
        refine xP_cv rfl rfl rfl rfl rfl (mH_28 hB) (y_later hB hY (by omega) (fun v1 a1 w1 w2 w3 => ?_))
        refine xP_s rfl rfl rfl ?_
        refine xP_s rfl rfl rfl ?_
        refine xP_s rfl rfl rfl ?_
        refine xP_cv rfl rfl rfl rfl rfl (mH_28 hB) (y_later hB w1 (by rw [List.length_cons]; omega) (fun v2 a2 x1 x2 x3 => ?_))
        refine xP_s rfl rfl rfl ?_
        refine xP_s rfl rfl rfl ?_
        refine xP_s rfl rfl rfl ?_
        refine xP_s rfl rfl rfl ?_
        refine xP_s rfl rfl rfl ?_
        rw [show (2000 : Int32) + nI (lfN sl q e) = nI (2000 + lfN sl q e) from nI_add 2000 _]
        refine xP_cv rfl rfl rfl rfl rfl (mH_28 hB) (y_later hB x1 (by rw [List.length_cons, List.length_cons]; omega) (fun v3 a3 u1 u2 u3 => ?_))
        have kk := k' v3 a3 j hj u1 ((w2.trans x2).trans u2) ((w3.trans x3).trans u3)
        repeat' first
          | refine xP_s rfl rfl rfl ?_
          | refine xP_ret rfl rfl rfl ?_
        exact kk
      · have q2 := xc_f y2
        dsimp only at q2
        have hps : (opP sl (kP p)).isSome = true := (slP_pos ho).2.mp (by omega)
        have hpe : opP sl (kP p) = some e := by
          have e1 : slF sl p = some e := he
          unfold slF at e1
          rw [if_pos k3, if_pos ⟨h1, hps⟩] at e1
          exact e1
        have k' := kp h1 hpe
        refine xP_s rfl rfl rfl ?_
        refine xP_s rfl rfl rfl ?_
        refine xP_cv rfl rfl rfl rfl rfl (mH_28 hB) (y_name hB hY hj (by omega) (fun v1 a1 w1 w2 w3 => ?_))
        refine xP_s rfl rfl rfl ?_
        refine xP_s rfl rfl rfl ?_
        refine xP_cv rfl rfl rfl rfl rfl (mH_28 hB) (y_out (c := 32) hB w1 (by rw [List.length_append]; omega) (by decide) (fun v2 a2 x1 x2 x3 => ?_))
        rw [List.append_assoc] at x1
        refine xP_s rfl rfl rfl ?_
        refine xP_s rfl rfl rfl ?_
        refine xP_s rfl rfl rfl ?_
        refine xP_s rfl rfl rfl ?_
        refine xP_s rfl rfl rfl ?_
        refine xP_cv rfl rfl rfl rfl rfl (mH_28 hB) (q_operandOf (e := e) hB x1.1 (by rw [kk1]; exact hpe) (fun x hx => ?_))
        rw [i_nat hx (by omega) (by omega)]
        refine xP_s rfl rfl rfl ?_
        rw [show (2000 : Int32) + nI (oRight (some e)).toNat = nI (2000 + (oRight (some e)).toNat) from nI_add 2000 _]
        refine xP_cv rfl rfl rfl rfl rfl (mH_28 hB) (y_later hB x1 (by omega) (fun v3 a3 u1 u2 u3 => ?_))
        have kk := k' v3 a3 u1 ((w2.trans x2).trans u2) ((w3.trans x3).trans u3)
        repeat' first
          | refine xP_s rfl rfl rfl ?_
          | refine xP_ret rfl rfl rfl ?_
        exact kk
    · have q1 := xc_f y1
      dsimp only at q1
      have h2 : p.2.2.2 = 2 := by omega
      have hbe : opB sl (kP p) = some e := by
        have e1 : slF sl p = some e := he
        unfold slF at e1
        rw [if_pos k3, if_neg (by omega)] at e1
        split at e1
        · exact e1
        · cases e1
      rw [hx7 hbe]
      have k' := ki h2 hbe
      -- the right operand first
      have at75 : ∀ b : Bool, (b = true ↔ kP p = 44) → xP sc (d + 4) 191 73 [(0, .ref 28), (1, .int (nI r)), (2, .int (nI j)), (3, .long (keM p.2.2.1)), (5, .int (nI (r + 1))), (6, .int (nI e.2.1)), (7, .int (nI (lfN sl q e)))] [.int (xb b)] (mH B C v a o, g) P := by
        intro b hb
        refine xP_s rfl rfl rfl ?_
        refine xP_s rfl rfl rfl ?_
        refine xP_s rfl rfl rfl ?_
        refine xP_s rfl rfl rfl ?_
        refine xP_cv rfl rfl rfl rfl rfl (mH_28 hB) (q_skip hB hq hL hd hql ?_)
        refine xP_s rfl rfl rfl ?_
        refine xP_s rfl rfl rfl ?_
        refine xP_s rfl rfl rfl ?_
        refine xP_cv rfl rfl rfl rfl rfl (mH_28 hB) (q_rightOf (e := e) hB ho (by rw [kk2]; exact hbe) (fun x hx => ?_))
        rw [i_nat hx (by omega) (by omega)]
        refine xP_s rfl rfl rfl ?_
        rw [show (2000 : Int32) + nI (oRight (some e)).toNat = nI (2000 + (oRight (some e)).toNat) from nI_add 2000 _]
        refine xP_cv rfl rfl rfl rfl rfl (mH_28 hB) (y_later hB hY (by omega) (fun v1 a1 w1 w2 w3 => ?_))
        cases b with
        | true =>
          have h44 : kP p = 44 := hb.mp rfl
          simp only [if_pos h44] at k'
          refine xP_s rfl rfl rfl ?_
          refine xP_s rfl rfl rfl ?_
          refine xP_s rfl rfl rfl ?_
          refine xP_s rfl rfl rfl ?_
          refine xP_s rfl rfl rfl ?_
          refine xP_s rfl rfl rfl ?_
          refine xP_s rfl rfl rfl ?_
          refine xP_s rfl rfl rfl ?_
          refine xP_cv rfl rfl rfl rfl rfl (mH_28 hB) (y_later hB w1 (by rw [List.length_cons]; omega) (fun v2 a2 x1 x2 x3 => ?_))
          refine xP_s rfl rfl rfl ?_
          refine xP_s rfl rfl rfl ?_
          refine xP_s rfl rfl rfl ?_
          refine xP_s rfl rfl rfl ?_
          refine xP_s rfl rfl rfl ?_
          refine xP_s rfl rfl rfl ?_
          refine xP_s rfl rfl rfl ?_
          rw [show (2000 : Int32) + nI (lfN sl q e) = nI (2000 + lfN sl q e) from nI_add 2000 _]
          refine xP_cv rfl rfl rfl rfl rfl (mH_28 hB) (y_later hB x1 (by rw [List.length_cons, List.length_cons]; omega) (fun v3 a3 u1 u2 u3 => ?_))
          have kk := k' v3 a3 j hj u1 ((w2.trans x2).trans u2) ((w3.trans x3).trans u3)
          repeat' first
            | refine xP_s rfl rfl rfl ?_
            | refine xP_ret rfl rfl rfl ?_
          exact kk
        | false =>
          have h44 : ¬ kP p = 44 := fun h => Bool.noConfusion (hb.mpr h)
          simp only [if_neg h44] at k'
          refine xP_s rfl rfl rfl ?_
          refine xP_s rfl rfl rfl ?_
          refine xP_s rfl rfl rfl ?_
          refine xP_s rfl rfl rfl ?_
          refine xP_s rfl rfl rfl ?_
          refine xP_cv rfl rfl rfl rfl rfl (mH_28 hB) (y_later hB w1 (by rw [List.length_cons]; omega) (fun v2 a2 x1 x2 x3 => ?_))
          refine xP_s rfl rfl rfl ?_
          refine xP_s rfl rfl rfl ?_
          refine xP_s rfl rfl rfl ?_
          refine xP_s rfl rfl rfl ?_
          refine xP_s rfl rfl rfl ?_
          refine xP_cv rfl rfl rfl rfl rfl (mH_28 hB) (y_later hB x1 (by rw [List.length_cons, List.length_cons]; omega) (fun v3 a3 u1 u2 u3 => ?_))
          refine xP_s rfl rfl rfl ?_
          refine xP_s rfl rfl rfl ?_
          refine xP_s rfl rfl rfl ?_
          refine xP_s rfl rfl rfl ?_
          refine xP_s rfl rfl rfl ?_
          refine xP_cv rfl rfl rfl rfl rfl (mH_28 hB) (y_later hB u1 (by rw [List.length_cons, List.length_cons, List.length_cons]; omega) (fun v4 a4 s1 s2 s3 => ?_))
          refine xP_s rfl rfl rfl ?_
          refine xP_s rfl rfl rfl ?_
          refine xP_s rfl rfl rfl ?_
          refine xP_s rfl rfl rfl ?_
          refine xP_s rfl rfl rfl ?_
          rw [show (2000 : Int32) + nI (lfN sl q e) = nI (2000 + lfN sl q e) from nI_add 2000 _]
          refine xP_cv rfl rfl rfl rfl rfl (mH_28 hB) (y_later hB s1 (by rw [List.length_cons, List.length_cons, List.length_cons, List.length_cons]; omega) (fun v5 a5 t1 t2 t3 => ?_))
          have kk := k' v5 a5 j hj t1 ((((w2.trans x2).trans u2).trans s2).trans t2) ((((w3.trans x3).trans u3).trans s3).trans t3)
          repeat' first
            | refine xP_s rfl rfl rfl ?_
            | refine xP_ret rfl rfl rfl ?_
          exact kk
      have hk44 : keM p.2.2.1 = 44 ↔ kP p = 44 := by
        rw [keM_44, kP_2 (p := p) (by omega)]
      refine xP_s rfl rfl rfl ?_
      refine xP_s rfl rfl rfl ?_
      refine xP_s rfl rfl rfl ?_
      refine xP_s rfl rfl rfl ?_
      refine xP_if (fun y2 => ?_) (fun y2 => ?_)
      · have q2 := xc_t y2
        dsimp only at q2
        have hne : ¬ keM p.2.2.1 = 44 := fun h => q2 (((lgc0 _ _).mpr h).trans c0.symm)
        refine xP_s rfl rfl rfl ?_
        exact at75 false ⟨fun h => Bool.noConfusion h, fun h => absurd (hk44.mpr h) hne⟩
      · have q2 := xc_f y2
        dsimp only at q2
        have heq : keM p.2.2.1 = 44 := (lgc0 _ _).mp (by
          rcases Int.lt_trichotomy (lg_cmp (keM p.2.2.1) 44).toInt 0 with y | y | y
          · omega
          · exact y
          · omega)
        refine xP_s rfl rfl rfl ?_
        refine xP_s rfl rfl rfl ?_
        exact at75 true ⟨fun _ => hk44.mp heq, fun _ => rfl⟩
  unfold xM1
  refine xP_s rfl rfl rfl ?_
  refine xP_get rfl (mH_28 hB) rfl ?_
  refine xP_s rfl rfl rfl ?_
  refine xP_zl (n := 1000) rfl hB rfl rfl (by omega) hv ?_
  refine xP_s rfl rfl rfl ?_
  refine xP_s rfl rfl rfl ?_
  refine xP_s rfl rfl rfl ?_
  refine xP_cv rfl rfl rfl rfl rfl (mH_28 hB) (q_keyOf hB hn hj ?_)
  refine xP_s rfl rfl rfl ?_
  refine xP_s rfl rfl rfl ?_
  refine xP_s rfl rfl rfl ?_
  refine xP_s rfl rfl rfl ?_
  rw [nI_p1]
  refine xP_s rfl rfl rfl ?_
  refine xP_s rfl rfl rfl ?_
  refine xP_s rfl rfl rfl ?_
  refine xP_cv rfl rfl rfl rfl rfl (mH_28 hB) (q_priorityOf hB ho hn hq hr hp hi h46 h32 ?_)
  rw [esl]
  refine xP_s rfl rfl rfl ?_
  refine xP_s rfl rfl rfl ?_
  refine xP_s rfl rfl rfl ?_
  refine xP_s rfl rfl rfl ?_
  refine xP_cv rfl rfl rfl rfl rfl (mH_28 hB) (q_takesOn hB ho hn hq hgq hqp hqi h46 h32 heb ?_)
  refine xP_s rfl rfl rfl ?_
  rw [xb_eq0]
  refine xP_if (fun y1 => ?_) (fun y1 => ?_)
  · have ht : tko sl q e.2.1 = false := by simpa using y1
    refine xP_s rfl rfl rfl ?_
    refine xP_s rfl rfl rfl ?_
    refine xP_cv rfl rfl rfl rfl rfl (mH_28 hB) (q_leftUpTo hB ho (fun x hx => ?_))
    rw [kk2] at hx
    refine xP_s rfl rfl rfl ?_
    refine at50 x (fun hbe => ?_)
    rw [hbe] at hx
    have hx : x.toInt = oLeft (some e) := hx
    rw [i_nat hx (by omega) (by omega)]
    unfold lfN
    rw [if_neg (by simp [ht])]
  · have ht : tko sl q e.2.1 = true := by simpa using y1
    refine xP_s rfl rfl rfl ?_
    refine xP_s rfl rfl rfl ?_
    refine xP_s rfl rfl rfl ?_
    rw [nIm1 heb.1]
    refine xP_s rfl rfl rfl ?_
    refine xP_s rfl rfl rfl ?_
    refine at50 _ (fun hbe => ?_)
    unfold lfN
    rw [if_pos ht]
end WK2
