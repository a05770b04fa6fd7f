-- the reference: list, operated, plainly
theorem i_div {y : Nat} (h : y < 4000) : nI y / 2000 = nI (y / 2000) := by
  apply Int32.toInt_inj.mp
  rw [Int32.toInt_div, toI y (by omega), toI (y / 2000) (by omega), show (2000 : Int32).toInt = 2000 from rfl, Int.tdiv_eq_ediv_of_nonneg (by omega)]
  rw [Int.bmod_eq_of_le (by omega) (by omega)]
  omega
theorem i_rem {y : Nat} (h : y < 4000) : nI y - nI y / 2000 * 2000 = nI (y % 2000) := by
  rw [i_div h]
  have e : nI (y / 2000) * 2000 = nI (y / 2000 * 2000) := by
    have : y / 2000 = 0 ∨ y / 2000 = 1 := by omega
    rcases this with q | q
    · rw [q]; rfl
    · rw [q]; rfl
  rw [e, nI_subN (by omega)]
  congr 1
  omega
def lsS (S : List (Int32 × Int32)) (r tl : Nat) (q : xIt) : List (Int32 × Int32) := if isNilP q = true then (nI (r + 1), 999) :: (-93, 0) :: S else if isDotP q = true then (nI (r + 1), 999) :: (nI tl, 5000) :: S else (nI (r + 1), 999) :: (-124, 0) :: (nI tl, 999) :: (-93, 0) :: S
section WI2
variable {sc : xSc} {d g : Nat} {B C : List xC} {o : Nat → Int64} {P : xO → xH → Prop} {v : Nat → Int32} {a : Nat → Nat → Int32} {N : List (List Nat)} {Q : List xIt} {sl : List xSl} {p q : xIt} {r : Nat} {S : List (Int32 × Int32)} {w : List Nat}
theorem dr_get {L R : List xIt} {k : Nat} (h : Q.drop k = L ++ q :: R) : Q[k + L.length]? = some q := by
  have := congrArg (fun l => l[L.length]?) h
  simp only [List.getElem?_drop] at this
  rw [this, List.getElem?_append_right (Nat.le_refl _), Nat.sub_self]
  rfl
set_option maxHeartbeats 4000000 in
set_option maxRecDepth 100000 in
theorem q_list {L R : List xIt} (hB : B.length = 28) (hY : zY sl N Q v a o S w) (hd : Q.drop (r + 1) = L ++ q :: R) (hL : isTm L) (hp : okP q) (hi : okIt q) (hl : S.length + 4 ≤ 900)
    (k : ∀ v' a', zY sl N Q v' a' o (lsS S r (r + 1 + L.length) q) w → vS v v' [37, 40] → aS a a' [49, 50, 51] → P (.inl none) (mH B C v' a' o, g)) : xM1 sc (d + 1) 189 [.ref 28, .int (nI r)] (mH B C v a o, g) P := by
  have hn := hY.2.1
  have hq := hY.2.2.1
  have hg := dr_get hd
  have hgl := (List.getElem?_eq_some_iff.mp hg).1
  have hql := hq.2.1
  obtain ⟨z1, z2, z3, z4, z5, z6⟩ := hq.2.2 _ q hg
  have hKd := toI q.1 (by omega)
  have c3 : (3 : Int32).toInt = 3 := rfl
  -- the head of the list last
  have fin : ∀ (v1 : Nat → Int32) (a1 : Nat → Nat → Int32) (T : List (Int32 × Int32)), T.length < 900 → zY sl N Q v1 a1 o T w → vS v v1 [37, 40] → aS a a1 [49, 50, 51] → lsS S r (r + 1 + L.length) q = (nI (r + 1), 999) :: T → xP sc (d + 1) 189 86 [(0, .ref 28), (1, .int (nI r)), (2, .int (nI (r + 1 + L.length)))] [] (mH B C v1 a1 o, g) P := by
    intro v1 a1 T hT hY1 fv fa e
    rw [e] at k
    refine xP_s rfl rfl rfl ?_
    refine xP_s rfl rfl rfl ?_
    refine xP_s rfl rfl rfl ?_
    refine xP_s rfl rfl rfl ?_
    rw [nI_p1]
    refine xP_s rfl rfl rfl ?_
    refine xP_cv rfl rfl rfl rfl rfl (mH_28 hB) (y_later hB hY1 hT (fun v2 a2 y1 y2 y3 => ?_))
    have kk := k v2 a2 y1 (fv.trans y2) (fa.trans y3)
    repeat' first
      | refine xP_s rfl rfl rfl ?_
      | refine xP_ret rfl rfl rfl ?_
    exact kk
  have oth : isNilP q = false → isDotP q = false → xP sc (d + 1) 189 64 [(0, .ref 28), (1, .int (nI r)), (2, .int (nI (r + 1 + L.length)))] [] (mH B C v a o, g) P := by
    intro h1 h2
    have e : lsS S r (r + 1 + L.length) q = (nI (r + 1), 999) :: (-124, 0) :: (nI (r + 1 + L.length), 999) :: (-93, 0) :: S := by
      unfold lsS
      rw [if_neg (by simp [h1]), if_neg (by simp [h2])]
    refine xP_s rfl rfl rfl ?_
    refine xP_s rfl rfl rfl ?_
    refine xP_s rfl rfl rfl ?_
    refine xP_cv rfl rfl rfl rfl rfl (mH_28 hB) (y_later hB hY (by omega) (fun v1 a1 y1 y2 y3 => ?_))
    refine xP_s rfl rfl rfl ?_
    refine xP_s rfl rfl rfl ?_
    refine xP_s rfl rfl rfl ?_
    refine xP_cv rfl rfl rfl rfl rfl (mH_28 hB) (y_later hB y1 (by rw [List.length_cons]; omega) (fun v2 a2 x1 x2 x3 => ?_))
    refine xP_s rfl rfl rfl ?_
    refine xP_s rfl rfl rfl ?_
    refine xP_s rfl rfl rfl ?_
    refine xP_cv rfl rfl rfl rfl rfl (mH_28 hB) (y_later hB x1 (by rw [List.length_cons, List.length_cons]; omega) (fun v3 a3 w1 w2 w3 => ?_))
    exact fin v3 a3 _ (by rw [List.length_cons, List.length_cons, List.length_cons]; omega) w1 ((y2.trans x2).trans w2) ((y3.trans x3).trans w3) e
  unfold xM1
  refine xP_s rfl rfl rfl ?_
  refine xP_s rfl rfl rfl ?_
  refine xP_s rfl rfl rfl ?_
  refine xP_s rfl rfl rfl ?_
  rw [nI_p1]
  refine xP_cv rfl rfl rfl rfl rfl (mH_28 hB) (q_skip hB hq hL hd (by omega) ?_)
  refine xP_s rfl rfl rfl ?_
  refine xP_s rfl rfl rfl ?_
  refine xP_s rfl rfl rfl ?_
  refine xP_s rfl rfl rfl ?_
  refine xP_s rfl rfl rfl ?_
  refine xP_s rfl rfl rfl ?_
  refine xP_cv rfl rfl rfl rfl rfl (mH_28 hB) (q_isNamed (c := 91) (e := 93) (n := 0) hB hn hq hg (by decide) (by decide) (by decide) ?_)
  rw [nmd_nil hp hi z1]
  refine xP_s rfl rfl rfl ?_
  rw [xb_eq0]
  refine xP_if (fun y1 => ?_) (fun y1 => ?_)
  · have h1 : isNilP q = false := by simpa using y1
    refine xP_s rfl rfl rfl ?_
    refine xP_get rfl (mH_28 hB) rfl ?_
    refine xP_s rfl rfl rfl ?_
    refine xP_zl (n := 1000) rfl hB rfl rfl (by omega) z2 ?_
    refine xP_s rfl rfl rfl ?_
    refine xP_s rfl rfl rfl ?_
    refine xP_if (fun y2 => ?_) (fun y2 => ?_)
    · have q2 := xc_t y2
      dsimp only at q2
      refine oth h1 ?_
      unfold isDotP
      rw [decide_eq_false (by omega)]
      rfl
    · refine xP_s rfl rfl rfl ?_
      refine xP_s rfl rfl rfl ?_
      refine xP_s rfl rfl rfl ?_
      refine xP_s rfl rfl rfl ?_
      refine xP_s rfl rfl rfl ?_
      refine xP_cv rfl rfl rfl rfl rfl (mH_28 hB) (q_isNamed (c := 46) (e := 0) (n := 2) hB hn hq hg (by decide) (by decide) (by decide) ?_)
      rw [nmd_dot hp hi z1]
      refine xP_s rfl rfl rfl ?_
      rw [xb_eq0]
      refine xP_if (fun y3 => ?_) (fun y3 => ?_)
      · exact oth h1 (by simpa using y3)
      · have h2 : isDotP q = true := by simpa using y3
        have e : lsS S r (r + 1 + L.length) q = (nI (r + 1), 999) :: (nI (r + 1 + L.length), 5000) :: S := by
          unfold lsS
          rw [if_neg (by simp [h1]), if_pos h2]
        refine xP_s rfl rfl rfl ?_
        refine xP_s rfl rfl rfl ?_
        refine xP_s rfl rfl rfl ?_
        refine xP_cv rfl rfl rfl rfl rfl (mH_28 hB) (y_later hB hY (by omega) (fun v1 a1 w1 w2 w3 => ?_))
        refine xP_s rfl rfl rfl ?_
        exact fin v1 a1 _ (by rw [List.length_cons]; omega) w1 w2 w3 e
  · have h1 : isNilP q = true := by simpa using y1
    have e : lsS S r (r + 1 + L.length) q = (nI (r + 1), 999) :: (-93, 0) :: S := by
      unfold lsS
      rw [if_pos h1]
    refine xP_s rfl rfl rfl ?_
    refine xP_s rfl rfl rfl ?_
    refine xP_s rfl rfl rfl ?_
    refine xP_cv rfl rfl rfl rfl rfl (mH_28 hB) (y_later hB hY (by omega) (fun v1 a1 w1 w2 w3 => ?_))
    refine xP_s rfl rfl rfl ?_
    exact fin v1 a1 _ (by rw [List.length_cons]; omega) w1 w2 w3 e
-- arguments
def agS (T : List (Int32 × Int32)) : List Nat → List (Int32 × Int32)
  | [] => T
  | [x] => (nI x, 999) :: T
  | x :: y :: r => (nI x, 999) :: (-44, 0) :: agS T (y :: r)
def ixs (k : Nat) : List (List xIt) → List Nat
  | [] => []
  | A :: As => k :: ixs (k + A.length) As
theorem ixs_len : ∀ (k : Nat) (As : List (List xIt)), (ixs k As).length = As.length
  | k, [] => rfl
  | k, A :: As => by rw [ixs, List.length_cons, List.length_cons, ixs_len]
theorem ixs_app : ∀ (k : Nat) (As Bs : List (List xIt)), ixs k (As ++ Bs) = ixs k As ++ ixs (k + As.flatten.length) Bs
  | k, [], Bs => by simp [ixs]
  | k, A :: As, Bs => by
    rw [List.cons_append, ixs, ixs, ixs_app, List.flatten_cons, List.length_append, List.cons_append, Nat.add_assoc]
theorem agS_len (T : List (Int32 × Int32)) : ∀ l : List Nat, (agS T l).length ≤ T.length + 2 * l.length
  | [] => Nat.le_refl _
  | [x] => by
    show T.length + 1 ≤ T.length + 2 * 1
    omega
  | x :: y :: r => by
    have := agS_len T (y :: r)
    show (agS T (y :: r)).length + 1 + 1 ≤ _
    rw [List.length_cons, List.length_cons] at *
    omega
-- behind some of the arguments
set_option maxRecDepth 100000 in
theorem q_agSkip {x1 x2 : Int32} {A0 : List (List xIt)} {R : List xIt} {i : Nat} (hB : B.length = 28) (hq : zQ v a N Q) (hi : i = A0.length) (hi7 : i ≤ 7) (k : xP sc (d + 1) 192 66 [(0, .ref 28), (1, .int x1), (2, .int x2), (3, .int (nI i)), (4, .int (nI (r + A0.flatten.length))), (5, .int (nI i))] [] (mH B C v a o, g) P) : ∀ (As Bs : List (List xIt)) (j : Nat), A0 = As ++ Bs → j = As.length → (∀ A ∈ A0, isTm A) → Q.drop r = A0.flatten ++ R → r + A0.flatten.length ≤ Q.length → xP sc (d + 1) 192 46 [(0, .ref 28), (1, .int x1), (2, .int x2), (3, .int (nI i)), (4, .int (nI (r + As.flatten.length))), (5, .int (nI j))] [] (mH B C v a o, g) P
  | As, [], j, ea, ej, ht, hd, hl => by
    rw [List.append_nil] at ea
    subst ea
    have hI := toI i (by omega)
    have eij : j = i := by omega
    subst eij
    refine xP_s rfl rfl rfl ?_
    refine xP_s rfl rfl rfl ?_
    refine xP_s rfl rfl rfl ?_
    refine xP_if (fun y1 => ?_) (fun y1 => ?_)
    · exact k
    · have q := xc_f y1
      dsimp only at q
      omega
  | As, A :: Bs, j, ea, ej, ht, hd, hl => by
    have hal := congrArg List.length ea
    rw [List.length_append, List.length_cons] at hal
    have hI := toI i (by omega)
    have hJ := toI j (by omega)
    have hA : isTm A := ht A (by rw [ea]; simp)
    have hfl : A0.flatten = As.flatten ++ (A ++ Bs.flatten) := by rw [ea]; simp
    have hd2 : Q.drop (r + As.flatten.length) = A ++ (Bs.flatten ++ R) := by
      rw [← List.drop_drop, hd, hfl, List.append_assoc, List.drop_left, List.append_assoc]
    have hlen : A0.flatten.length = As.flatten.length + (A.length + Bs.flatten.length) := by rw [hfl, List.length_append, List.length_append]
    have go := q_agSkip hB hq hi hi7 k (As ++ [A]) Bs (j + 1) (by rw [ea]; simp) (by rw [List.length_append, List.length_singleton]; omega) ht hd hl
    have e2 : (As ++ [A]).flatten.length = As.flatten.length + A.length := by simp
    rw [e2, ← Nat.add_assoc, ← nI_p1 j] at go
    refine xP_s rfl rfl rfl ?_
    refine xP_s rfl rfl rfl ?_
    refine xP_s rfl rfl rfl ?_
    refine xP_if (fun y1 => ?_) (fun y1 => ?_)
    · have q := xc_t y1
      dsimp only at q
      omega
    · refine xP_s rfl rfl rfl ?_
      refine xP_s rfl rfl rfl ?_
      refine xP_cv rfl rfl rfl rfl rfl (mH_28 hB) (q_skip hB hq hA hd2 (by omega) ?_)
      refine xP_s rfl rfl rfl ?_
      refine xP_s rfl rfl rfl ?_
      refine xP_s rfl rfl rfl ?_
      exact go
end WI2
