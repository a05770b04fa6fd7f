-- the reference: plainly, operated
section WJ2
variable {sc : xSc} {d g : Nat} {B C : List xC} {o : Nat → Int64} {P : xO → xH → Prop} {v : Nat → Int32} {a : Nat → Nat → Int32} {N : List (List Nat)} {Q : List xIt} {sl : List xSl} {p q : xIt} {r : Nat} {S : List (Int32 × Int32)} {w : List Nat}
theorem dr_m {α : Type} {l X Z : List α} {y : α} {m : Nat} (h : l = X ++ y :: Z) (hm : X.length = m) : l.drop m = y :: l.drop (m + 1) := by
  subst h
  subst hm
  rw [List.drop_left, ← List.drop_drop, List.drop_left]
  rfl
def preS (T : List (Int32 × Int32)) (l : List Nat) : List (Int32 × Int32) := if l = [] then T else (-44, 0) :: agS T l
theorem agS_pre (T : List (Int32 × Int32)) (x : Nat) (l : List Nat) : (nI x, 999) :: preS T l = agS T (x :: l) := by
  unfold preS
  cases l with
  | nil => rfl
  | cons y l => rfl
set_option maxHeartbeats 4000000 in
set_option maxRecDepth 100000 in
theorem q_agLoop {As : List (List xIt)} {R : List xIt} {n : Nat} (hB : B.length = 28) (hn : n = As.length) (hn7 : n ≤ 7) (ht : ∀ A ∈ As, isTm A) (hd : Q.drop (r + 1) = As.flatten ++ R) (hql : r + 1 + As.flatten.length ≤ Q.length) (hS : S.length + 2 * n + 2 ≤ 900) :
    ∀ (m : Nat) (v : Nat → Int32) (a : Nat → Nat → Int32) (ex : xL), (ex = [] ∨ ∃ y z, ex = [(4, .int y), (5, .int z)]) → m < n → zY sl N Q v a o (preS S ((ixs (r + 1) As).drop (m + 1))) w →
    (∀ v' a', zY sl N Q v' a' o (agS S (ixs (r + 1) As)) w → vS v v' [37, 40] → aS a a' [49, 50, 51] → P (.inl none) (mH B C v' a' o, g)) →
    xP sc (d + 1) 192 34 ([(0, .ref 28), (1, .int (nI r)), (2, .int (nI n)), (3, .int (nI m))] ++ ex) [] (mH B C v a o, g) P
  | m, v, a, ex, hex, hm, hY, k => by
    have hM := toI m (by omega)
    have c0 : (0 : Int32).toInt = 0 := rfl
    have hq := hY.2.2.1
    have hqm := hq.2.1
    have hil := ixs_len (r + 1) As
    -- the index of this argument
    obtain ⟨A, hA⟩ : ∃ A, As[m]? = some A := ⟨As[m]'(by omega), List.getElem?_eq_getElem (by omega)⟩
    have esp : As = As.take m ++ A :: As.drop (m + 1) := by
      have e1 : As[m]'(by omega) = A := by
        have := List.getElem?_eq_getElem (l := As) (i := m) (by omega)
        rw [hA] at this
        exact (Option.some.inj this).symm
      rw [← e1, ← List.drop_eq_getElem_cons (by omega), List.take_append_drop]
    have etl : (As.take m).length = m := by rw [List.length_take]; omega
    have eix : (ixs (r + 1) As).drop m = (r + 1 + (As.take m).flatten.length) :: (ixs (r + 1) As).drop (m + 1) := by
      have e1 : ixs (r + 1) As = ixs (r + 1) (As.take m) ++ ixs (r + 1 + (As.take m).flatten.length) (A :: As.drop (m + 1)) := by
        conv => lhs; rw [esp]
        exact ixs_app _ _ _
      have el : (ixs (r + 1) (As.take m)).length = m := by rw [ixs_len]; exact etl
      exact dr_m e1 el
    have eflat : As.flatten = (As.take m).flatten ++ (A :: As.drop (m + 1)).flatten := by
      conv => lhs; rw [esp]
      exact List.flatten_append
    have hfl := congrArg List.length eflat
    rw [List.length_append] at hfl
    have hpl : (preS S ((ixs (r + 1) As).drop (m + 1))).length ≤ S.length + 2 * n := by
      unfold preS
      split
      · omega
      · rw [List.length_cons]
        have h1 := agS_len S ((ixs (r + 1) As).drop (m + 1))
        rw [List.length_drop, hil] at h1
        omega
    have base : xP sc (d + 1) 192 34 [(0, .ref 28), (1, .int (nI r)), (2, .int (nI n)), (3, .int (nI m))] [] (mH B C v a o, g) P := by
      have at66 : xP sc (d + 1) 192 66 [(0, .ref 28), (1, .int (nI r)), (2, .int (nI n)), (3, .int (nI m)), (4, .int (nI (r + 1 + (As.take m).flatten.length))), (5, .int (nI m))] [] (mH B C v a o, g) P := by
        refine xP_s rfl rfl rfl ?_
        refine xP_s rfl rfl rfl ?_
        refine xP_s rfl rfl rfl ?_
        refine xP_cv rfl rfl rfl rfl rfl (mH_28 hB) (y_later hB hY (by omega) (fun v1 a1 y1 y2 y3 => ?_))
        rw [agS_pre, ← eix] at y1
        refine xP_s rfl rfl rfl ?_
        refine xP_s rfl rfl rfl ?_
        refine xP_if (fun c1 => ?_) (fun c1 => ?_)
        · have q := xc_t c1
          dsimp only at q
          have e0 : m = 0 := by omega
          subst e0
          rw [List.drop_zero] at y1
          have kk := k v1 a1 y1 y2 y3
          repeat' first
            | refine xP_s rfl rfl rfl ?_
            | refine xP_ret rfl rfl rfl ?_
          exact kk
        · have q := xc_f c1
          dsimp only at q
          have hl2 : (agS S ((ixs (r + 1) As).drop m)).length < 900 := by
            have h1 := agS_len S ((ixs (r + 1) As).drop m)
            rw [List.length_drop, hil] at h1
            omega
          refine xP_s rfl rfl rfl ?_
          refine xP_s rfl rfl rfl ?_
          refine xP_s rfl rfl rfl ?_
          refine xP_cv rfl rfl rfl rfl rfl (mH_28 hB) (y_later hB y1 hl2 (fun v2 a2 x1 x2 x3 => ?_))
          have ep : ((-44, 0) : Int32 × Int32) :: agS S ((ixs (r + 1) As).drop m) = preS S ((ixs (r + 1) As).drop (m - 1 + 1)) := by
            rw [show m - 1 + 1 = m by omega]
            unfold preS
            rw [if_neg (by rw [eix]; simp)]
          rw [ep] at x1
          have go := q_agLoop hB hn hn7 ht hd hql hS (m - 1) v2 a2 [(4, .int (nI (r + 1 + (As.take m).flatten.length))), (5, .int (nI m))] (Or.inr ⟨_, _, rfl⟩) (by omega) x1 (fun v' a' s1 s2 s3 => k v' a' s1 ((y2.trans x2).trans s2) ((y3.trans x3).trans s3))
          rw [← nIm1' (n := m) (by omega)] at go
          refine xP_s rfl rfl rfl ?_
          refine xP_s rfl rfl rfl ?_
          exact go
      have go := q_agSkip (sc := sc) (d := d) (C := C) (o := o) (g := g) (P := P) (r := r + 1) (x1 := nI r) (x2 := nI n) (A0 := As.take m) (R := (A :: As.drop (m + 1)).flatten ++ R) hB hq etl.symm (by omega) at66 [] (As.take m) 0 rfl rfl (fun A hA => ht A (List.mem_of_mem_take hA)) (by rw [hd, eflat, List.append_assoc]) (by omega)
      refine xP_s rfl rfl rfl ?_
      refine xP_s rfl rfl rfl ?_
      refine xP_if (fun c1 => ?_) (fun c1 => ?_)
      · have q := xc_t c1
        dsimp only at q
        omega
      · refine xP_s rfl rfl rfl ?_
        refine xP_s rfl rfl rfl ?_
        refine xP_s rfl rfl rfl ?_
        rw [nI_p1]
        refine xP_s rfl rfl rfl ?_
        refine xP_s rfl rfl rfl ?_
        refine xP_s rfl rfl rfl ?_
        exact go
    rcases hex with rfl | ⟨y, z, rfl⟩
    · exact base
    · exact xP_more [(4, .int y), (5, .int z)] rfl base
  termination_by m => m
set_option maxHeartbeats 4000000 in
set_option maxRecDepth 100000 in
theorem q_plainly {As : List (List xIt)} {R : List xIt} (hB : B.length = 28) (hY : zY sl N Q v a o S w) (hr : Q[r]? = some p) (h3 : p.1 = 3) (hn : p.2.2.2 = As.length) (hn1 : 1 ≤ As.length) (ht : ∀ A ∈ As, isTm A) (hd : Q.drop (r + 1) = As.flatten ++ R) (hS : S.length + 2 * As.length + 4 ≤ 900) (hw : w.length + (nmW p.2.2.1).length ≤ 2580)
    (k : ∀ v' a', zY sl N Q v' a' o (agS ((-41, 0) :: S) (ixs (r + 1) As)) (w ++ (nmW p.2.2.1 ++ [40])) → vS v v' [37, 40] → aS a a' [49, 50, 51] → P (.inl none) (mH B C v' a' o, g)) : xM1 sc (d + 3) 192 [.ref 28, .int (nI r)] (mH B C v a o, g) P := by
  have hrl := (List.getElem?_eq_some_iff.mp hr).1
  have hq := hY.2.2.1
  have hqm := hq.2.1
  obtain ⟨z1, z2, z3, z4, z5, z6⟩ := hq.2.2 r p hr
  obtain ⟨j, hj, hv⟩ := z4 (by omega)
  have hql : r + 1 + As.flatten.length ≤ Q.length := by
    have := congrArg List.length hd
    rw [List.length_drop, List.length_append] at this
    omega
  unfold xM1
  refine xP_s rfl rfl rfl ?_
  refine xP_s rfl rfl rfl ?_
  refine xP_get rfl (mH_28 hB) rfl ?_
  refine xP_s rfl rfl rfl ?_
  refine xP_zl (n := 1000) rfl hB rfl rfl (by omega) hv ?_
  refine xP_cv rfl rfl rfl rfl rfl (mH_28 hB) (y_name hB hY hj (by omega) (fun v1 a1 y1 y2 y3 => ?_))
  refine xP_s rfl rfl rfl ?_
  refine xP_s rfl rfl rfl ?_
  refine xP_cv rfl rfl rfl rfl rfl (mH_28 hB) (y_out (c := 40) hB y1 (by rw [List.length_append]; omega) (by decide) (fun v2 a2 x1 x2 x3 => ?_))
  rw [List.append_assoc] at x1
  have g41 : a2 41 r = nI p.2.2.2 := (x1.2.2.1.2.2 r p hr).2.2.2.2.1
  refine xP_s rfl rfl rfl ?_
  refine xP_get rfl (mH_28 hB) rfl ?_
  refine xP_s rfl rfl rfl ?_
  refine xP_zl (n := 1000) rfl hB rfl rfl (by omega) g41 ?_
  refine xP_s rfl rfl rfl ?_
  refine xP_s rfl rfl rfl ?_
  refine xP_s rfl rfl rfl ?_
  refine xP_s rfl rfl rfl ?_
  refine xP_cv rfl rfl rfl rfl rfl (mH_28 hB) (y_later hB x1 (by omega) (fun v3 a3 w1 w2 w3 => ?_))
  have hil := ixs_len (r + 1) As
  have e0 : preS ((-41, 0) :: S) ((ixs (r + 1) As).drop (p.2.2.2 - 1 + 1)) = (-41, 0) :: S := by
    unfold preS
    rw [if_pos (List.drop_eq_nil_of_le (by omega))]
  have go := q_agLoop (sc := sc) (d := d + 2) (C := C) (P := P) (g := g) (S := (-41, 0) :: S) hB hn (by omega) ht hd hql (by rw [List.length_cons]; omega) (p.2.2.2 - 1) v3 a3 [] (Or.inl rfl) (by omega) (by rw [e0]; exact w1) (fun v' a' s1 s2 s3 => k v' a' s1 (((y2.trans x2).trans w2).trans s2) (((y3.trans x3).trans w3).trans s3))
  rw [← nIm1 (n := p.2.2.2) (by omega)] at go
  refine xP_s rfl rfl rfl ?_
  refine xP_s rfl rfl rfl ?_
  refine xP_s rfl rfl rfl ?_
  refine xP_s rfl rfl rfl ?_
  exact go
end WJ2
