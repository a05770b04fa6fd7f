-- how a term is written
/-- the operator by which a part is written -/
def slF (sl : List xSl) (p : xIt) : Option xSl := if p.1 = 3 then (if p.2.2.2 = 1 ∧ (opP sl (kP p)).isSome = true then opP sl (kP p) else if (p.2.2.2 = 1 ∧ oPost (opB sl (kP p)) = true) ∨ (p.2.2.2 = 2 ∧ oInf (opB sl (kP p)) = true) then opB sl (kP p) else none) else none
def brk (b : Bool) (o : List Nat) : List Nat := if b = true then 40 :: (o ++ [41]) else o
def hdI (L : List xIt) : xIt := L.headD (0, 0, [], 0)
def opdB (sl : List xSl) (L : List xIt) : Bool := decide ((hdI L).1 = 2) && ((fnd true (kP (hdI L)) sl 0).isSome || (fnd false (kP (hdI L)) sl 0).isSome)
abbrev xW1 : Type := Int → List xIt → List Nat × List xIt
def opd (sl : List xSl) (W : xW1) (most : Int) (L : List xIt) : List Nat × List xIt := (brk (opdB sl L) (W most L).1, (W most L).2)
def lfm (sl : List xSl) (e : xSl) (L : List xIt) : Int := if oOpen (slF sl (hdI L)) = true then (e.2.1 : Int) - 1 else oLeft (some e)
def ifx (p : xIt) : List Nat := if kP p = 44 then [44] else 32 :: (nmW p.2.2.1 ++ [32])
def opr (sl : List xSl) (W : xW1) (e : xSl) (p : xIt) (L : List xIt) : List Nat × List xIt :=
  if oPre (some e) = true then (nmW p.2.2.1 ++ 32 :: (opd sl W (oRight (some e)) L).1, (opd sl W (oRight (some e)) L).2)
  else if oPost (some e) = true then ((opd sl W (lfm sl e L) L).1 ++ 32 :: nmW p.2.2.1, (opd sl W (lfm sl e L) L).2)
  else ((opd sl W (lfm sl e L) L).1 ++ (ifx p ++ (opd sl W (oRight (some e)) (opd sl W (lfm sl e L) L).2).1), (opd sl W (oRight (some e)) (opd sl W (lfm sl e L) L).2).2)
def lsW (W : xW1) : Nat → List xIt → List Nat × List xIt
  | 0, L => ([], L)
  | n + 1, L => if isDotP (hdI L) = true then (44 :: ((W 999 L.tail).1 ++ (lsW W n (W 999 L.tail).2).1), (lsW W n (W 999 L.tail).2).2) else if isNilP (hdI L) = true then ([], L.tail) else (124 :: (W 999 L).1, (W 999 L).2)
def agW (W : xW1) : Nat → Nat → List xIt → List Nat × List xIt
  | 0, _, L => ([], L)
  | k + 1, c, L => (c :: ((W 999 L).1 ++ (agW W k 44 (W 999 L).2).1), (agW W k 44 (W 999 L).2).2)
def wrt (sl : List xSl) : Nat → xW1
  | 0, _, L => ([], L)
  | _ + 1, _, [] => ([], [])
  | f + 1, most, p :: L => if p.1 = 0 then (95 :: intW p.2.1, L) else if p.1 = 1 then (intW p.2.1, L) else if p.1 = 2 then (nmW p.2.2.1, L) else (match slF sl p with
    | some e => (brk (decide (most < (e.2.1 : Int))) (opr sl (wrt sl f) e p L).1, (opr sl (wrt sl f) e p L).2)
    | none => if isDotP p = true then (91 :: ((wrt sl f 999 L).1 ++ ((lsW (wrt sl f) 15 (wrt sl f 999 L).2).1 ++ [93])), (lsW (wrt sl f) 15 (wrt sl f 999 L).2).2)
      else if isBrcP p = true then (123 :: ((wrt sl f 1200 L).1 ++ [125]), (wrt sl f 1200 L).2)
      else (nmW p.2.2.1 ++ ((agW (wrt sl f) p.2.2.2 40 L).1 ++ [41]), (agW (wrt sl f) p.2.2.2 40 L).2))
/-- what the writer stands on -/
def xWw (A : List xC) (nm : List Nat) (sl : List xSl) (n : Nat) (F : xF) : Prop := xWo A ∧ xRw A 5 4926 nm ∧ xOp A sl ∧ xPt A n F
theorem xWw.same {A A' : List xC} {nm : List Nat} {sl : List xSl} {n : Nat} {F : xF} (h : xWw A nm sl n F) (s : xSame A A' [3, 4]) : xWw A' nm sl n F := by
  obtain ⟨h1, h2, h3, h4⟩ := h
  exact ⟨(s.2 26 (by decide)).trans h1, h2.same s (by decide) (by decide), h3.same s (by decide) (by decide) (by decide) (by decide), h4.same s (by decide) (by decide) (by decide) (by decide) (by decide) (by decide) (by decide)⟩
theorem opP_f {A : List xC} {sl : List xSl} (ho : xOp A sl) (key : Int64) : (opP sl key).isSome = true ↔ ¬ fnd true key sl 0 = none := by
  unfold opP
  cases hf : fnd true key sl 0 with
  | none => simp [slE]
  | some j =>
    have := (fnd_lt ho hf).1
    simp [slE, this]
section WD
variable {sc : xSc} {d g : Nat} {A : List xC} {nm : List Nat} {sl : List xSl} {n : Nat} {F : xF} {P : xO → xH → Prop}
set_option maxHeartbeats 4000000 in
set_option maxRecDepth 100000 in
theorem p_slotOf {j : Nat} {p : xIt} (hw : xWw A nm sl n F) (hj : j < n) (hd : ndK F nm j p) (ha : p.2.2.2 ≤ 6) (hc : xCn F n (F.2.2.2.1 j) p.2.2.2)
    (k : ∀ o : Option Nat, (∀ i, o = some i → i < sl.length) → slE sl o = slF sl p → P (.inl (some (.int (sI o)))) (A, g)) : xM1 sc (d + 4) 117 [.ref 26, .int (nI j)] (A, g) P := by
  obtain ⟨h26, hn, ho, hp⟩ := hw
  unfold xWo at h26
  have q1 := hd.1
  have q2 := hd.2.1
  have h3 : (3 : Int32).toInt = 3 := rfl
  have h1 : (1 : Int32).toInt = 1 := rfl
  have h2 : (2 : Int32).toInt = 2 := rfl
  have hm1 : (-1 : Int32).toInt = -1 := rfl
  have hK : (nI p.1).toInt = (p.1 : Int) := nI_toInt (by omega)
  have hR : (nI p.2.2.2).toInt = (p.2.2.2 : Int) := nI_toInt (by omega)
  have hv : ∀ i, (some j) = some i → i < n := fun i h => Option.some.inj h ▸ hj
  have hvB := fun i h => (fnd_lt ho (pre := true) (key := kP p) (i := i) h).1
  have hvF := fun i h => (fnd_lt ho (pre := false) (key := kP p) (i := i) h).1
  have hB := sI_none _ (fun i h => (fnd_lt ho (pre := true) (key := kP p) h).2)
  have eB := opP_f ho (kP p)
  unfold slF at k
  unfold xM1
  refine xP_s rfl rfl rfl ?_
  refine xP_get rfl h26 rfl ?_
  refine xP_s rfl rfl rfl ?_
  refine xP_cv rfl rfl rfl rfl rfl hp.2.1 (p_kind (o := some j) hp hv ?_)
  rw [show ptG F.1 (-1) (some j) = nI p.1 from q1]
  refine xP_s rfl rfl rfl ?_
  refine xP_s rfl rfl rfl ?_
  refine xP_if (fun hc => ?_) (fun hc => ?_)
  · have z := xc_t hc
    dsimp only at z
    have hk3 : p.1 = 3 := by omega
    rw [if_pos hk3] at k
    refine xP_s rfl rfl rfl ?_
    refine xP_get rfl h26 rfl ?_
    refine xP_s rfl rfl rfl ?_
    refine xP_cv rfl rfl rfl rfl rfl hp.2.1 (p_arity hp hj ha (by assumption) ?_)
    refine xP_s rfl rfl rfl ?_
    refine xP_s rfl rfl rfl ?_
    refine xP_get rfl h26 rfl ?_
    refine xP_s rfl rfl rfl ?_
    refine xP_cv rfl rfl rfl rfl rfl hp.2.1 (p_key hp hn hj hd ?_)
    refine xP_s rfl rfl rfl ?_
    refine xP_s rfl rfl rfl ?_
    refine xP_get rfl h26 rfl ?_
    refine xP_s rfl rfl rfl ?_
    refine xP_cv rfl rfl rfl rfl rfl ho.obj (p_prefix ho ?_)
    have rest : ¬ (p.2.2.2 = 1 ∧ (opP sl (kP p)).isSome = true) → ∀ x5, xP sc (d + 4) 117 56 [(0, .ref 26), (1, .int (nI j)), (2, .int (nI p.2.2.2)), (3, .long (kP p)), (5, .int x5)] [] (A, g) P := by
      intro hno x5
      rw [if_neg hno] at k
      have pick : ((p.2.2.2 = 1 ∧ oPost (opB sl (kP p)) = true) ∨ (p.2.2.2 = 2 ∧ oInf (opB sl (kP p)) = true)) → xP sc (d + 4) 117 100 [(0, .ref 26), (1, .int (nI j)), (2, .int (nI p.2.2.2)), (3, .long (kP p)), (5, .int x5), (6, .int (sI (fnd false (kP p) sl 0)))] [] (A, g) P := by
        intro hy
        rw [if_pos hy] at k
        have kk := k (fnd false (kP p) sl 0) hvF rfl
        repeat' first
          | refine xP_s rfl rfl rfl ?_
          | refine xP_ret rfl rfl rfl ?_
        exact kk
      have nopick : ¬ ((p.2.2.2 = 1 ∧ oPost (opB sl (kP p)) = true) ∨ (p.2.2.2 = 2 ∧ oInf (opB sl (kP p)) = true)) → xP sc (d + 4) 117 104 [(0, .ref 26), (1, .int (nI j)), (2, .int (nI p.2.2.2)), (3, .long (kP p)), (5, .int x5), (6, .int (sI (fnd false (kP p) sl 0)))] [] (A, g) P := by
        intro hy
        rw [if_neg hy] at k
        have kk := k none (fun i h => by cases h) rfl
        repeat' first
          | refine xP_s rfl rfl rfl ?_
          | refine xP_ret rfl rfl rfl ?_
        exact kk
      have second : ¬ (p.2.2.2 = 1 ∧ oPost (opB sl (kP p)) = true) → xP sc (d + 4) 117 83 [(0, .ref 26), (1, .int (nI j)), (2, .int (nI p.2.2.2)), (3, .long (kP p)), (5, .int x5), (6, .int (sI (fnd false (kP p) sl 0)))] [] (A, g) P := by
        intro h1'
        refine xP_s rfl rfl rfl ?_
        refine xP_s rfl rfl rfl ?_
        refine xP_s rfl rfl rfl ?_
        refine xP_if (fun hc => ?_) (fun hc => ?_)
        · have r := xc_t hc
          dsimp only at r
          exact nopick (fun h => h.elim h1' (fun h => r (by rw [hR, h.1]; rfl)))
        · have r := xc_f hc
          dsimp only at r
          rw [hR, h2] at r
          refine xP_s rfl rfl rfl ?_
          refine xP_get rfl h26 rfl ?_
          refine xP_s rfl rfl rfl ?_
          refine xP_cv rfl rfl rfl rfl rfl ho.obj (p_isInfix ho hvF ?_)
          cases hi : oInf (slE sl (fnd false (kP p) sl 0))
          · have np := nopick (fun h => h.elim h1' (fun h => by
              have := h.2
              rw [show oInf (opB sl (kP p)) = false from hi] at this
              cases this))
            repeat' first
              | exact np
              | refine xP_s rfl rfl rfl ?_
          · have pk := pick (Or.inr ⟨Int.ofNat.inj r, hi⟩)
            repeat' first
              | exact pk
              | refine xP_s rfl rfl rfl ?_
      refine xP_s rfl rfl rfl ?_
      refine xP_get rfl h26 rfl ?_
      refine xP_s rfl rfl rfl ?_
      refine xP_cv rfl rfl rfl rfl rfl ho.obj (p_behind ho ?_)
      refine xP_s rfl rfl rfl ?_
      refine xP_s rfl rfl rfl ?_
      refine xP_s rfl rfl rfl ?_
      refine xP_s rfl rfl rfl ?_
      refine xP_if (fun hc => ?_) (fun hc => ?_)
      · have r := xc_t hc
        dsimp only at r
        exact second (fun h => r (by rw [hR, h.1]; rfl))
      · have r := xc_f hc
        dsimp only at r
        rw [hR, h1] at r
        refine xP_s rfl rfl rfl ?_
        refine xP_get rfl h26 rfl ?_
        refine xP_s rfl rfl rfl ?_
        refine xP_cv rfl rfl rfl rfl rfl ho.obj (p_isPostfix ho hvF ?_)
        cases hi : oPost (slE sl (fnd false (kP p) sl 0))
        · have sc2 := second (fun h => by
            have := h.2
            rw [show oPost (opB sl (kP p)) = false from hi] at this
            cases this)
          repeat' first
            | exact sc2
            | refine xP_s rfl rfl rfl ?_
        · have pk := pick (Or.inl ⟨Int.ofNat.inj r, hi⟩)
          repeat' first
            | exact pk
            | refine xP_s rfl rfl rfl ?_
    refine xP_s rfl rfl rfl ?_
    refine xP_s rfl rfl rfl ?_
    refine xP_s rfl rfl rfl ?_
    refine xP_s rfl rfl rfl ?_
    refine xP_if (fun hc => ?_) (fun hc => ?_)
    · have r := xc_t hc
      dsimp only at r
      exact rest (fun h => r (by rw [hR, h.1]; rfl)) _
    · have r := xc_f hc
      dsimp only at r
      rw [hR, h1] at r
      refine xP_s rfl rfl rfl ?_
      refine xP_s rfl rfl rfl ?_
      refine xP_s rfl rfl rfl ?_
      refine xP_if (fun hc => ?_) (fun hc => ?_)
      · have r2 := xc_t hc
        dsimp only at r2
        rw [hm1, hB] at r2
        exact rest (fun h => eB.mp h.2 r2) _
      · have r2 := xc_f hc
        dsimp only at r2
        rw [hm1, hB] at r2
        rw [if_pos ⟨Int.ofNat.inj r, eB.mpr r2⟩] at k
        have kk := k (fnd true (kP p) sl 0) hvB rfl
        repeat' first
          | refine xP_s rfl rfl rfl ?_
          | refine xP_ret rfl rfl rfl ?_
        exact kk
  · have z := xc_f hc
    dsimp only at z
    rw [if_neg (by omega)] at k
    have kk := k none (fun i h => by cases h) rfl
    repeat' first
      | refine xP_s rfl rfl rfl ?_
      | refine xP_ret rfl rfl rfl ?_
    exact kk
set_option maxRecDepth 100000 in
theorem p_wleftMost {j js : Nat} {p : xIt} {e : xSl} (hw : xWw A nm sl n F) (hj : j < n) (hd : ndK F nm j p) (ha : p.2.2.2 ≤ 6) (hc : xCn F n (F.2.2.2.1 j) p.2.2.2) (hjs : sl[js]? = some e)
    (k : ∀ x : Int32, x.toInt = (if oOpen (slF sl p) = true then (e.2.1 : Int) - 1 else oLeft (some e)) → P (.inl (some (.int x))) (A, g)) : xM1 sc (d + 5) 121 [.ref 26, .int (nI j), .int (nI js)] (A, g) P := by
  obtain ⟨h26, hn, ho, hp⟩ := id hw
  unfold xWo at h26
  have hjl : js < sl.length := (List.getElem?_eq_some_iff.mp hjs).1
  have hv : ∀ i, some js = some i → i < sl.length := fun i h => Option.some.inj h ▸ hjl
  have hsE : slE sl (some js) = some e := hjs
  have hent := ho.ent hjs
  unfold xM1
  refine xP_s rfl rfl rfl ?_
  refine xP_get rfl h26 rfl ?_
  refine xP_s rfl rfl rfl ?_
  refine xP_s rfl rfl rfl ?_
  refine xP_cv rfl rfl rfl rfl rfl h26 (p_slotOf hw hj hd ha hc (fun o h1 h2 => ?_))
  refine xP_cv rfl rfl rfl rfl rfl ho.obj (p_isOpenBehind ho h1 ?_)
  rw [h2]
  cases hop : oOpen (slF sl p)
  · rw [hop] at k
    refine xP_s rfl rfl rfl ?_
    refine xP_s rfl rfl rfl ?_
    refine xP_get rfl h26 rfl ?_
    refine xP_s rfl rfl rfl ?_
    refine xP_cv rfl rfl rfl rfl rfl ho.obj (p_leftMost (o := some js) ho hv (fun x hx => ?_))
    rw [hsE] at hx
    repeat' first
      | refine xP_s rfl rfl rfl ?_
      | refine xP_ret rfl rfl rfl ?_
    exact k x hx
  · rw [hop] at k
    refine xP_s rfl rfl rfl ?_
    refine xP_s rfl rfl rfl ?_
    refine xP_get rfl h26 rfl ?_
    refine xP_s rfl rfl rfl ?_
    refine xP_cv rfl rfl rfl rfl rfl ho.obj (p_priority (o := some js) ho hv ?_)
    rw [hsE]
    repeat' first
      | refine xP_s rfl rfl rfl ?_
      | refine xP_ret rfl rfl rfl ?_
    exact k _ (nI_sub1 (by show e.2.1 < _; omega))
end WD
