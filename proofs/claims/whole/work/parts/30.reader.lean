-- what a term is, in the text: a reader by levels
abbrev xSt : Type := List Nat × List (List Nat)
abbrev xRs : Type := List xIt × Nat × xSt × Nat
/-- the next token -/
def nx (s : List Nat) : xTok := match lay 121 s with
  | none => wrg
  | some s' => lexT s'
/-- is it in quotes? -/
def qd (s : List Nat) : Bool := match lay 121 s with
  | some (c :: _) => decide (c = 39)
  | _ => false
/-- its key -/
def tK (q : xTok) : Int64 := if q.1 = 1 then kL q.2.2.1 else if q.1 = 5 ∧ q.2.1 = 44 then 44 else 0
def dgH (r : List Nat) : Bool := match r with
  | c :: _ => isDg c
  | [] => false
def isMin (s : List Nat) (q : xTok) : Bool := decide (q.1 = 1) && (decide (q.2.2.1 = [45]) && (!(qd s) && dgH q.2.2.2))
def isCal (q : xTok) : Bool := decide (q.1 = 1) && decide (q.2.2.2.head? = some 40)
def bgn (q : xTok) : Bool := decide (q.1 < 6) && bgT q.1 q.2.1
def opP (sl : List xSl) (key : Int64) : Option xSl := slE sl (fnd true key sl 0)
def opB (sl : List xSl) (key : Int64) : Option xSl := slE sl (fnd false key sl 0)
def bare (sl : List xSl) (s : List Nat) : Bool := decide ((nx s).1 = 1) && (!(isCal (nx s)) && (!(isMin s (nx s)) && ((opB sl (tK (nx s))).isSome && !(opP sl (tK (nx s))).isSome)))
/-- the operator that is taken here with an argument behind it -/
def pfx (sl : List xSl) (most : Int) (s : List Nat) : Option xSl :=
  if (nx s).1 = 1 ∧ isCal (nx s) = false ∧ isMin s (nx s) = false then (match opP sl (tK (nx s)) with
    | some e => if (e.2.1 : Int) ≤ most ∧ bgn (nx (nx s).2.2.2) = true ∧ bare sl (nx s).2.2.2 = false then some e else none
    | none => none) else none
def nmOf (q : xTok) : List Nat := if q.1 = 1 then q.2.2.1 else [44]
/-- on behind a term -/
def rst (sl : List xSl) (T : Int → xSt → Option xRs) : Nat → Int → xRs → Option xRs
  | 0, _, _ => none
  | n + 1, most, (L, D, st, pr) => if (nx st.1).1 = 7 then none else (match opB sl (tK (nx st.1)) with
    | none => some (L, D, st, pr)
    | some e => if (e.2.1 : Int) ≤ most ∧ (pr : Int) ≤ oLeft (some e) then
        (if oInf (some e) = true then (if bgn (nx (nx st.1).2.2.2) = true then (match T (oRight (some e)) ((nx st.1).2.2.2, st.2) with
            | none => none
            | some (R, DR, st', _) => rst sl T n most ((3, 0, nmOf (nx st.1), 2) :: (L ++ R), max D DR + 1, st', e.2.1)) else some (L, D, st, pr))
        else rst sl T n most ((3, 0, (nx st.1).2.2.1, 1) :: L, D + 1, ((nx st.1).2.2.2, st.2), e.2.1))
      else some (L, D, st, pr))
/-- a mark of this character is next -/
def isMk (s : List Nat) (c : Nat) : Bool := decide ((nx s).1 = 5) && decide ((nx s).2.1 = c)
def args (T : Int → xSt → Option xRs) : Nat → xSt → Option (List xIt × Nat × Nat × xSt)
  | 0, _ => none
  | n + 1, st => match T 999 st with
    | none => none
    | some (R, DR, st', _) => if isMk st'.1 44 = true then (match args T n ((nx st'.1).2.2.2, st'.2) with
        | none => none
        | some (As, k, DA, st2) => some (R ++ As, k + 1, max DR DA, st2))
      else if isMk st'.1 41 = true then some (R, 1, DR, ((nx st'.1).2.2.2, st'.2)) else none
def nilP : xIt := (2, 0, [91, 93], 0)
def dotP : xIt := (3, 0, [46], 2)
def lst (T : Int → xSt → Option xRs) : Nat → xSt → Option (List xIt × Nat × xSt)
  | 0, _ => none
  | n + 1, st => match T 999 st with
    | none => none
    | some (E, DE, st', _) => if isMk st'.1 44 = true then (match lst T n ((nx st'.1).2.2.2, st'.2) with
        | none => none
        | some (M, DM, st2) => some (dotP :: (E ++ M), max DE DM + 1, st2))
      else if isMk st'.1 124 = true then (match T 999 ((nx st'.1).2.2.2, st'.2) with
        | none => none
        | some (M, DM, st2, _) => if isMk st2.1 93 = true then some (dotP :: (E ++ M), max DE DM + 1, ((nx st2.1).2.2.2, st2.2)) else none)
      else if isMk st'.1 93 = true then some (dotP :: (E ++ [nilP]), max DE 1 + 1, ((nx st'.1).2.2.2, st'.2)) else none
def strL : List Nat → List xIt
  | [] => [nilP]
  | c :: w => dotP :: (1, (c : Int), [], 0) :: strL w
def fst1 (sl : List xSl) (T : Int → xSt → Option xRs) (most : Int) (st : xSt) : Option xRs :=
  if (nx st.1).1 = 3 then some ([(1, ((nx st.1).2.1 : Int), [], 0)], 1, ((nx st.1).2.2.2, st.2), 0)
  else if (nx st.1).1 = 2 then some ([(0, (vno st.2 (nx st.1).2.2.1 : Int), [], 0)], 1, ((nx st.1).2.2.2, vnx st.2 (nx st.1).2.2.1), 0)
  else if (nx st.1).1 = 4 then some (strL (nx st.1).2.2.1, (nx st.1).2.2.1.length + 1, ((nx st.1).2.2.2, st.2), 0)
  else if (nx st.1).1 = 1 then (if isMin st.1 (nx st.1) = true then (if (nx (nx st.1).2.2.2).1 = 3 then some ([(1, -((nx (nx st.1).2.2.2).2.1 : Int), [], 0)], 1, ((nx (nx st.1).2.2.2).2.2.2, st.2), 0) else none)
    else if isCal (nx st.1) = true then (match args T 6 ((nx st.1).2.2.2.tail, st.2) with
      | none => none
      | some (As, k, DA, st') => some ((3, 0, (nx st.1).2.2.1, k) :: As, DA + 1, st', 0))
    else (match pfx sl most st.1 with
      | some e => (match T (oRight (some e)) ((nx st.1).2.2.2, st.2) with
        | none => none
        | some (R, DR, st', _) => some ((3, 0, (nx st.1).2.2.1, 1) :: R, DR + 1, st', e.2.1))
      | none => some ([(2, 0, (nx st.1).2.2.1, 0)], 1, ((nx st.1).2.2.2, st.2), 0)))
  else if isMk st.1 40 = true then (match T 1200 ((nx st.1).2.2.2, st.2) with
    | none => none
    | some (R, DR, st', _) => if isMk st'.1 41 = true then some (R, DR, ((nx st'.1).2.2.2, st'.2), 0) else none)
  else if isMk st.1 123 = true then (match T 1200 ((nx st.1).2.2.2, st.2) with
    | none => none
    | some (R, DR, st', _) => if isMk st'.1 125 = true then some ((3, 0, [123, 125], 1) :: R, DR + 1, ((nx st'.1).2.2.2, st'.2), 0) else none)
  else if isMk st.1 91 = true then (match lst T 120 ((nx st.1).2.2.2, st.2) with
    | none => none
    | some (M, DM, st') => some (M, DM, st', 0))
  else none
/-- a term, n levels being left -/
def tmF (sl : List xSl) : Nat → Int → xSt → Option xRs
  | 0, _, _ => none
  | n + 1, most, st => (fst1 sl (tmF sl n) most st).bind (rst sl (tmF sl n) 120 most)
