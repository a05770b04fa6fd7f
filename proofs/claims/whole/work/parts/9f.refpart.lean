-- the reference: part
def brB (sl : List xSl) (p : xIt) (Y : Nat) : Bool := decide (Y % 2000 < slP (slF sl p)) || (decide (2000 ≤ Y) && opn2 sl p)
def brS (b : Bool) (S : List (Int32 × Int32)) : List (Int32 × Int32) := if b = true then (-41, 0) :: S else S
def brW (b : Bool) (w : List Nat) : List Nat := if b = true then w ++ [40] else w
theorem brS_len (b : Bool) (S : List (Int32 × Int32)) : (brS b S).length ≤ S.length + 1 := by
  unfold brS
  split
  · exact Nat.le_refl _
  · omega
theorem brW_len (b : Bool) (w : List Nat) : (brW b w).length ≤ w.length + 1 := by
  unfold brW
  split
  · rw [List.length_append]
    exact Nat.le_refl _
  · omega
section WL2
variable {sc : xSc} {d g : Nat} {B C : List xC} {o : Nat → Int64} {P : xO → xH → Prop} {v : Nat → Int32} {a : Nat → Nat → Int32} {N : List (List Nat)} {Q : List xIt} {sl : List xSl} {p q : xIt} {r Y : Nat} {S : List (Int32 × Int32)} {w : List Nat}
theorem slF_le (ho : zO v a o sl) : slP (slF sl p) ≤ 1200 := by
  cases hx : slF sl p with
  | none => exact Nat.zero_le _
  | some e =>
    have := (slF_e hx).2.1
    obtain ⟨_, _, _, _, _, _, _, h3⟩ := ho
    exact (h3 e this).2.1
set_option maxHeartbeats 4000000 in
set_option maxRecDepth 100000 in
theorem q_partHd (hB : B.length = 28) (hY : zY sl N Q v a o S w) (hr : Q[r]? = some p) (hp : okP p) (hi : okIt p) (h46 : ∀ e ∈ sl, ¬ e.1 = 46) (h32 : ∀ e ∈ sl, ¬ e.1 = 32123) (hYl : Y < 4000) (hl : S.length + 1 ≤ 900) (hw : w.length + 1 ≤ 2600)
    (k : ∀ v' a' x3 x5, zY sl N Q v' a' o (brS (brB sl p Y) S) (brW (brB sl p Y) w) → vS v v' [37, 40] → aS a a' [49, 50, 51] → xP sc (d + 5) 188 67 [(0, .ref 28), (1, .int (nI r)), (2, .int (nI Y)), (3, .int x3), (4, .int (nI (slP (slF sl p)))), (5, .int x5)] [] (mH B C v' a' o, g) P) : xM1 sc (d + 5) 188 [.ref 28, .int (nI r), .int (nI Y)] (mH B C v a o, g) P := by
  have ho := hY.1
  have hn := hY.2.1
  have hq := hY.2.2.1
  have hYi := toI Y (by omega)
  have hYr := toI (Y % 2000) (by omega)
  have hpl := slF_le (p := p) ho
  have hPl := toI (slP (slF sl p)) (by omega)
  have c2000 : (2000 : Int32).toInt = 2000 := rfl
  -- with brackets or not
  have at47 : ∀ x3 : Int32, ∀ b : Bool, b = brB sl p Y → xP sc (d + 5) 188 47 [(0, .ref 28), (1, .int (nI r)), (2, .int (nI Y)), (3, .int x3), (4, .int (nI (slP (slF sl p))))] [.int (xb b)] (mH B C v a o, g) P := by
    intro x3 b hb
    rw [← hb] at k
    cases b with
    | true =>
      refine xP_s rfl rfl rfl ?_
      refine xP_s rfl rfl rfl ?_
      refine xP_s rfl rfl rfl ?_
      refine xP_s rfl rfl rfl ?_
      refine xP_s rfl rfl rfl ?_
      refine xP_cv rfl rfl rfl rfl rfl (mH_28 hB) (y_out (c := 40) hB hY (by omega) (by decide) (fun v1 a1 y1 y2 y3 => ?_))
      refine xP_s rfl rfl rfl ?_
      refine xP_s rfl rfl rfl ?_
      refine xP_s rfl rfl rfl ?_
      refine xP_cv rfl rfl rfl rfl rfl (mH_28 hB) (y_later hB y1 (by omega) (fun v2 a2 x1 x2 x3 => ?_))
      exact k v2 a2 _ _ x1 (y2.trans x2) (y3.trans x3)
    | false =>
      have kk := k v a x3 0 hY (vS.refl _ _) (aS.refl _ _)
      refine xP_s rfl rfl rfl ?_
      refine xP_s rfl rfl rfl ?_
      refine xP_s rfl rfl rfl ?_
      exact kk
  have at12 : ∀ b : Bool, b = decide (2000 ≤ Y) → xP sc (d + 5) 188 12 [(0, .ref 28), (1, .int (nI r)), (2, .int (nI Y))] [.int (xb b)] (mH B C v a o, g) P := by
    intro b hb
    refine xP_s rfl rfl rfl ?_
    refine xP_s rfl rfl rfl ?_
    refine xP_s rfl rfl rfl ?_
    refine xP_cv rfl rfl rfl rfl rfl (mH_28 hB) (q_priorityOf hB ho hn hq hr hp hi h46 h32 ?_)
    refine xP_s rfl rfl rfl ?_
    refine xP_s rfl rfl rfl ?_
    refine xP_s rfl rfl rfl ?_
    refine xP_s rfl rfl rfl ?_
    refine xP_s rfl rfl rfl ?_
    rw [i_rem hYl]
    refine xP_s rfl rfl rfl ?_
    refine xP_if (fun y1 => ?_) (fun y1 => ?_)
    · have q1 := xc_t y1
      dsimp only at q1
      have kk := at47 (xb b) true (by
        unfold brB
        rw [decide_eq_true (by omega)]
        rfl)
      refine xP_s rfl rfl rfl ?_
      refine xP_s rfl rfl rfl ?_
      exact kk
    · have q1 := xc_f y1
      dsimp only at q1
      have e1 : decide (Y % 2000 < slP (slF sl p)) = false := decide_eq_false (by omega)
      refine xP_s rfl rfl rfl ?_
      refine xP_s rfl rfl rfl ?_
      rw [xb_eq0]
      refine xP_if (fun y2 => ?_) (fun y2 => ?_)
      · have hb0 : b = false := by simpa using y2
        have kk := at47 (xb b) false (by
          unfold brB
          rw [e1, ← hb, hb0]
          rfl)
        refine xP_s rfl rfl rfl ?_
        exact kk
      · have hb1 : b = true := by simpa using y2
        refine xP_s rfl rfl rfl ?_
        refine xP_s rfl rfl rfl ?_
        refine xP_cv rfl rfl rfl rfl rfl (mH_28 hB) (q_isOperator hB ho hn hq hr ?_)
        refine xP_s rfl rfl rfl ?_
        rw [xb_eq0]
        refine xP_if (fun y3 => ?_) (fun y3 => ?_)
        · have h3 : opn2 sl p = false := by simpa using y3
          have kk := at47 (xb b) false (by
            unfold brB
            rw [e1, h3]
            simp)
          refine xP_s rfl rfl rfl ?_
          exact kk
        · have h3 : opn2 sl p = true := by simpa using y3
          have kk := at47 (xb b) true (by
            unfold brB
            rw [e1, ← hb, hb1, h3]
            rfl)
          refine xP_s rfl rfl rfl ?_
          refine xP_s rfl rfl rfl ?_
          exact kk
  unfold xM1
  refine xP_s rfl rfl rfl ?_
  refine xP_s rfl rfl rfl ?_
  refine xP_s rfl rfl rfl ?_
  refine xP_if (fun y1 => ?_) (fun y1 => ?_)
  · have q1 := xc_t y1
    dsimp only at q1
    have kk := at12 false (decide_eq_false (by omega)).symm
    refine xP_s rfl rfl rfl ?_
    exact kk
  · have q1 := xc_f y1
    dsimp only at q1
    have kk := at12 true (decide_eq_true (by omega)).symm
    refine xP_s rfl rfl rfl ?_
    refine xP_s rfl rfl rfl ?_
    exact kk
theorem i_lneg {x : Int32} (h : x.toInt < 0) (h2 : -2147483648 < x.toInt) : -(x.toInt64) = lN x.toInt.natAbs := by
  apply Int64.toInt_inj.mp
  rw [lN_T (by omega), Int64.toInt_neg, Int32.toInt_toInt64]
  rw [Int.bmod_eq_of_le (by omega) (by omega)]
  omega
theorem i_lpos {x : Int32} (h : 0 ≤ x.toInt) : x.toInt64 = lN x.toInt.natAbs := by
  apply Int64.toInt_inj.mp
  have := Int32.toInt_lt x
  rw [lN_T (by omega), Int32.toInt_toInt64]
  omega
/-- what is no compound -/
def lfW (p : xIt) : List Nat := if p.1 = 0 then 95 :: intW p.2.1 else if p.1 = 1 then intW p.2.1 else nmW p.2.2.1
set_option maxHeartbeats 4000000 in
set_option maxRecDepth 100000 in
theorem q_partLeaf {x2 x3 x4 x5 : Int32} (hB : B.length = 28) (hY : zY sl N Q v a o S w) (hr : Q[r]? = some p) (hp : okP p) (h2 : p.1 ≤ 2) (hw : w.length + (lfW p).length ≤ 2580)
    (k : ∀ v' a', zY sl N Q v' a' o S (w ++ lfW p) → vS v v' [37, 40] → aS a a' [49, 50, 51] → P (.inl none) (mH B C v' a' o, g)) :
    xP sc (d + 5) 188 67 [(0, .ref 28), (1, .int (nI r)), (2, .int x2), (3, .int x3), (4, .int x4), (5, .int x5)] [] (mH B C v a o, g) P := by
  have hrl := (List.getElem?_eq_some_iff.mp hr).1
  have hq := hY.2.2.1
  have hqm := hq.2.1
  obtain ⟨z1, z2, z3, z4, z5, z6⟩ := hq.2.2 r p hr
  have c0 : (0 : Int32).toInt = 0 := rfl
  have e3 : p.1 = 0 ∨ p.1 = 1 ∨ p.1 = 2 := by omega
  rcases e3 with e | e | e
  · have hz3 := z3 (by omega)
    have hb := hp.2.1 e
    have eW : lfW p = 95 :: intW p.2.1 := if_pos e
    have eI : intW p.2.1 = ten p.2.1.natAbs := by
      unfold intW
      rw [if_neg (by omega), List.nil_append]
    rw [eW, eI] at k hw
    rw [List.length_cons] at hw
    rw [e] at z2
    have z2 : a 39 r = 0 := z2
    refine xP_s rfl rfl rfl ?_
    refine xP_get rfl (mH_28 hB) rfl ?_
    refine xP_s rfl rfl rfl ?_
    refine xP_zl (n := 1000) rfl hB rfl rfl (by omega) z2 ?_
    refine xP_s rfl rfl rfl ?_
    refine xP_s rfl rfl rfl ?_
    refine xP_s rfl rfl rfl ?_
    refine xP_cv rfl rfl rfl rfl rfl (mH_28 hB) (y_out (c := 95) hB hY (by omega) (by decide) (fun v1 a1 y1 y2 y3 => ?_))
    have g40 : (a1 40 r).toInt = p.2.1 := (y1.2.2.1.2.2 r p hr).2.2.1 (by omega)
    refine xP_s rfl rfl rfl ?_
    refine xP_s rfl rfl rfl ?_
    refine xP_get rfl (mH_28 hB) rfl ?_
    refine xP_s rfl rfl rfl ?_
    refine xP_zl (n := 1000) rfl hB rfl rfl (by omega) rfl ?_
    refine xP_s rfl rfl rfl ?_
    rw [i_lpos (x := a1 40 r) (by omega), g40]
    refine xP_cv rfl rfl rfl rfl rfl (mH_28 hB) (q_digits hB (by omega) y1.2.2.2.2 (by rw [List.length_append, List.length_singleton]; omega) (fun v2 a2 x1 x2 x3 => ?_))
    rw [List.append_assoc] at x1
    have kk := k v2 a2 (y1.ou x2 x3 x1) (y2.trans (x2.wide (by decide))) (y3.trans (x3.wide (by decide)))
    repeat' first
      | refine xP_s rfl rfl rfl ?_
      | refine xP_ret rfl rfl rfl ?_
    exact kk
  · have hz3 := z3 (by omega)
    have hb := hp.2.2 e
    have eW : lfW p = intW p.2.1 := by
      unfold lfW
      rw [if_neg (by omega), if_pos e]
    rw [eW] at k hw
    rw [e] at z2
    have z2 : a 39 r = 1 := z2
    refine xP_s rfl rfl rfl ?_
    refine xP_get rfl (mH_28 hB) rfl ?_
    refine xP_s rfl rfl rfl ?_
    refine xP_zl (n := 1000) rfl hB rfl rfl (by omega) z2 ?_
    refine xP_s rfl rfl rfl ?_
    refine xP_s rfl rfl rfl ?_
    refine xP_get rfl (mH_28 hB) rfl ?_
    refine xP_s rfl rfl rfl ?_
    refine xP_zl (n := 1000) rfl hB rfl rfl (by omega) z2 ?_
    refine xP_s rfl rfl rfl ?_
    refine xP_s rfl rfl rfl ?_
    refine xP_s rfl rfl rfl ?_
    refine xP_get rfl (mH_28 hB) rfl ?_
    refine xP_s rfl rfl rfl ?_
    refine xP_zl (n := 1000) rfl hB rfl rfl (by omega) rfl ?_
    refine xP_s rfl rfl rfl ?_
    refine xP_if (fun c1 => ?_) (fun c1 => ?_)
    · have q1 := xc_t c1
      dsimp only at q1
      have eI : intW p.2.1 = ten p.2.1.natAbs := by
        unfold intW
        rw [if_neg (by omega), List.nil_append]
      rw [eI] at k hw
      refine xP_s rfl rfl rfl ?_
      refine xP_s rfl rfl rfl ?_
      refine xP_get rfl (mH_28 hB) rfl ?_
      refine xP_s rfl rfl rfl ?_
      refine xP_zl (n := 1000) rfl hB rfl rfl (by omega) rfl ?_
      refine xP_s rfl rfl rfl ?_
      refine xP_if (fun c2 => ?_) (fun c2 => ?_)
      · refine xP_s rfl rfl rfl ?_
        refine xP_get rfl (mH_28 hB) rfl ?_
        refine xP_s rfl rfl rfl ?_
        refine xP_zl (n := 1000) rfl hB rfl rfl (by omega) rfl ?_
        refine xP_s rfl rfl rfl ?_
        rw [i_lpos (x := a 40 r) (by omega), hz3]
        refine xP_cv rfl rfl rfl rfl rfl (mH_28 hB) (q_digits hB (by omega) hY.2.2.2.2 (by omega) (fun v2 a2 x1 x2 x3 => ?_))
        have kk := k v2 a2 (hY.ou x2 x3 x1) (x2.wide (by decide)) (x3.wide (by decide))
        repeat' first
          | refine xP_s rfl rfl rfl ?_
          | refine xP_ret rfl rfl rfl ?_
        exact kk
      · have q2 := xc_f c2
        dsimp only at q2
        omega
    · have q1 := xc_f c1
      dsimp only at q1
      have eI : intW p.2.1 = 45 :: ten p.2.1.natAbs := by
        unfold intW
        rw [if_pos (by omega)]
        rfl
      rw [eI] at k hw
      rw [List.length_cons] at hw
      refine xP_s rfl rfl rfl ?_
      refine xP_s rfl rfl rfl ?_
      refine xP_cv rfl rfl rfl rfl rfl (mH_28 hB) (y_out (c := 45) hB hY (by omega) (by decide) (fun v1 a1 y1 y2 y3 => ?_))
      have g40 : (a1 40 r).toInt = p.2.1 := (y1.2.2.1.2.2 r p hr).2.2.1 (by omega)
      refine xP_s rfl rfl rfl ?_
      refine xP_s rfl rfl rfl ?_
      refine xP_get rfl (mH_28 hB) rfl ?_
      refine xP_s rfl rfl rfl ?_
      refine xP_zl (n := 1000) rfl hB rfl rfl (by omega) rfl ?_
      refine xP_s rfl rfl rfl ?_
      refine xP_if (fun c2 => ?_) (fun c2 => ?_)
      · have q2 := xc_t c2
        dsimp only at q2
        omega
      · refine xP_s rfl rfl rfl ?_
        refine xP_get rfl (mH_28 hB) rfl ?_
        refine xP_s rfl rfl rfl ?_
        refine xP_zl (n := 1000) rfl hB rfl rfl (by omega) rfl ?_
        refine xP_s rfl rfl rfl ?_
        refine xP_s rfl rfl rfl ?_
        rw [i_lneg (x := a1 40 r) (by omega) (by omega), g40]
        refine xP_s rfl rfl rfl ?_
        refine xP_cv rfl rfl rfl rfl rfl (mH_28 hB) (q_digits hB (by omega) y1.2.2.2.2 (by rw [List.length_append, List.length_singleton]; omega) (fun v2 a2 x1 x2 x3 => ?_))
        rw [List.append_assoc] at x1
        have kk := k v2 a2 (y1.ou x2 x3 x1) (y2.trans (x2.wide (by decide))) (y3.trans (x3.wide (by decide)))
        repeat' first
          | refine xP_s rfl rfl rfl ?_
          | refine xP_ret rfl rfl rfl ?_
        exact kk
  · have eW : lfW p = nmW p.2.2.1 := by
      unfold lfW
      rw [if_neg (by omega), if_neg (by omega)]
    rw [eW] at k hw
    obtain ⟨j, hj, hv⟩ := z4 (by omega)
    rw [e] at z2
    have z2 : a 39 r = 2 := z2
    refine xP_s rfl rfl rfl ?_
    refine xP_get rfl (mH_28 hB) rfl ?_
    refine xP_s rfl rfl rfl ?_
    refine xP_zl (n := 1000) rfl hB rfl rfl (by omega) z2 ?_
    refine xP_s rfl rfl rfl ?_
    refine xP_s rfl rfl rfl ?_
    refine xP_get rfl (mH_28 hB) rfl ?_
    refine xP_s rfl rfl rfl ?_
    refine xP_zl (n := 1000) rfl hB rfl rfl (by omega) z2 ?_
    refine xP_s rfl rfl rfl ?_
    refine xP_s rfl rfl rfl ?_
    refine xP_s rfl rfl rfl ?_
    refine xP_get rfl (mH_28 hB) rfl ?_
    refine xP_s rfl rfl rfl ?_
    refine xP_zl (n := 1000) rfl hB rfl rfl (by omega) z2 ?_
    refine xP_s rfl rfl rfl ?_
    refine xP_s rfl rfl rfl ?_
    refine xP_s rfl rfl rfl ?_
    refine xP_s rfl rfl rfl ?_
    refine xP_get rfl (mH_28 hB) rfl ?_
    refine xP_s rfl rfl rfl ?_
    refine xP_zl (n := 1000) rfl hB rfl rfl (by omega) hv ?_
    refine xP_cv rfl rfl rfl rfl rfl (mH_28 hB) (y_name hB hY hj (by omega) (fun v1 a1 y1 y2 y3 => ?_))
    have kk := k v1 a1 y1 y2 y3
    repeat' first
      | refine xP_s rfl rfl rfl ?_
      | refine xP_ret rfl rfl rfl ?_
    exact kk
-- a compound: as far as its name is looked at
set_option maxRecDepth 100000 in
theorem q_part3 {x2 x3 x4 x5 : Int32} (hB : B.length = 28) (hY : zY sl N Q v a o S w) (hr : Q[r]? = some p) (h3 : p.1 = 3)
    (k : xP sc (d + 5) 188 178 [(0, .ref 28), (1, .int (nI r)), (2, .int x2), (3, .int x3), (4, .int x4), (5, .int x5)] [] (mH B C v a o, g) P) :
    xP sc (d + 5) 188 67 [(0, .ref 28), (1, .int (nI r)), (2, .int x2), (3, .int x3), (4, .int x4), (5, .int x5)] [] (mH B C v a o, g) P := by
  have hrl := (List.getElem?_eq_some_iff.mp hr).1
  have hq := hY.2.2.1
  have hqm := hq.2.1
  have z2 := (hq.2.2 r p hr).2.1
  rw [h3] at z2
  have z2 : a 39 r = 3 := z2
  refine xP_s rfl rfl rfl ?_
  refine xP_get rfl (mH_28 hB) rfl ?_
  refine xP_s rfl rfl rfl ?_
  refine xP_zl (n := 1000) rfl hB rfl rfl (by omega) z2 ?_
  refine xP_s rfl rfl rfl ?_
  refine xP_s rfl rfl rfl ?_
  refine xP_get rfl (mH_28 hB) rfl ?_
  refine xP_s rfl rfl rfl ?_
  refine xP_zl (n := 1000) rfl hB rfl rfl (by omega) z2 ?_
  refine xP_s rfl rfl rfl ?_
  refine xP_s rfl rfl rfl ?_
  refine xP_s rfl rfl rfl ?_
  refine xP_get rfl (mH_28 hB) rfl ?_
  refine xP_s rfl rfl rfl ?_
  refine xP_zl (n := 1000) rfl hB rfl rfl (by omega) z2 ?_
  refine xP_s rfl rfl rfl ?_
  refine xP_s rfl rfl rfl ?_
  exact k
end WL2
