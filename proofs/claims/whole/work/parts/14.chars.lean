-- Chars: kinds of characters
/-- a boolean as the machine has it -/
def xb (c : Bool) : Int32 := if c = true then 1 else 0
theorem xb_t : xb true = 1 := rfl
theorem xb_f : xb false = 0 := rfl
theorem xb_01 (c : Bool) : (xb c == 0 || xb c == 1) = true := by cases c <;> rfl
theorem xb_ne0 (c : Bool) : xcmp .ne (xb c) 0 = c := by cases c <;> rfl
theorem xb_eq0 (c : Bool) : xcmp .eq (xb c) 0 = !c := by cases c <;> rfl
/-- between two numbers -/
def iIn (lo hi : Int) (x : Int32) : Bool := decide (lo ≤ x.toInt) && decide (x.toInt ≤ hi)
set_option maxRecDepth 100000 in
theorem p_isPrintable {sc : xSc} {d g : Nat} {A : List xC} {x : Int32} {P : xO → xH → Prop} (k : P (.inl (some (.int (xb (iIn 32 126 x))))) (A, g)) : xM1 sc d 200 [.int x] (A, g) P := by
  have h1 : (32 : Int32).toInt = 32 := rfl
  have h2 : (126 : Int32).toInt = 126 := rfl
  unfold xM1
  repeat' first
    | refine xP_s rfl rfl rfl ?_
    | refine xP_if (fun hc => ?_) (fun hc => ?_)
    | refine xP_ret rfl rfl rfl ?_
  · have q1 := xc_t hc
    dsimp only at q1
    have e : iIn 32 126 x = false := by simp only [iIn, Bool.and_eq_false_iff, decide_eq_false_iff_not]; omega
    rw [e] at k
    exact k
  · have q1 := xc_t hc
    dsimp only at q1
    have e : iIn 32 126 x = false := by simp only [iIn, Bool.and_eq_false_iff, decide_eq_false_iff_not]; omega
    rw [e] at k
    exact k
  · rename_i hc1
    have q1 := xc_f hc1
    have q2 := xc_f hc
    dsimp only at q1 q2
    have e : iIn 32 126 x = true := by simp only [iIn, Bool.and_eq_true, decide_eq_true_eq]; omega
    rw [e] at k
    exact k
set_option maxRecDepth 100000 in
theorem p_isSmall {sc : xSc} {d g : Nat} {A : List xC} {x : Int32} {P : xO → xH → Prop} (k : P (.inl (some (.int (xb (iIn 97 122 x))))) (A, g)) : xM1 sc d 201 [.int x] (A, g) P := by
  have h1 : (97 : Int32).toInt = 97 := rfl
  have h2 : (122 : Int32).toInt = 122 := rfl
  unfold xM1
  repeat' first
    | refine xP_s rfl rfl rfl ?_
    | refine xP_if (fun hc => ?_) (fun hc => ?_)
    | refine xP_ret rfl rfl rfl ?_
  · have q1 := xc_t hc
    dsimp only at q1
    have e : iIn 97 122 x = false := by simp only [iIn, Bool.and_eq_false_iff, decide_eq_false_iff_not]; omega
    rw [e] at k
    exact k
  · have q1 := xc_t hc
    dsimp only at q1
    have e : iIn 97 122 x = false := by simp only [iIn, Bool.and_eq_false_iff, decide_eq_false_iff_not]; omega
    rw [e] at k
    exact k
  · rename_i hc1
    have q1 := xc_f hc1
    have q2 := xc_f hc
    dsimp only at q1 q2
    have e : iIn 97 122 x = true := by simp only [iIn, Bool.and_eq_true, decide_eq_true_eq]; omega
    rw [e] at k
    exact k
set_option maxRecDepth 100000 in
theorem p_isLarge {sc : xSc} {d g : Nat} {A : List xC} {x : Int32} {P : xO → xH → Prop} (k : P (.inl (some (.int (xb (iIn 65 90 x))))) (A, g)) : xM1 sc d 202 [.int x] (A, g) P := by
  have h1 : (65 : Int32).toInt = 65 := rfl
  have h2 : (90 : Int32).toInt = 90 := rfl
  unfold xM1
  repeat' first
    | refine xP_s rfl rfl rfl ?_
    | refine xP_if (fun hc => ?_) (fun hc => ?_)
    | refine xP_ret rfl rfl rfl ?_
  · have q1 := xc_t hc
    dsimp only at q1
    have e : iIn 65 90 x = false := by simp only [iIn, Bool.and_eq_false_iff, decide_eq_false_iff_not]; omega
    rw [e] at k
    exact k
  · have q1 := xc_t hc
    dsimp only at q1
    have e : iIn 65 90 x = false := by simp only [iIn, Bool.and_eq_false_iff, decide_eq_false_iff_not]; omega
    rw [e] at k
    exact k
  · rename_i hc1
    have q1 := xc_f hc1
    have q2 := xc_f hc
    dsimp only at q1 q2
    have e : iIn 65 90 x = true := by simp only [iIn, Bool.and_eq_true, decide_eq_true_eq]; omega
    rw [e] at k
    exact k
set_option maxRecDepth 100000 in
theorem p_isDigit {sc : xSc} {d g : Nat} {A : List xC} {x : Int32} {P : xO → xH → Prop} (k : P (.inl (some (.int (xb (iIn 48 57 x))))) (A, g)) : xM1 sc d 203 [.int x] (A, g) P := by
  have h1 : (48 : Int32).toInt = 48 := rfl
  have h2 : (57 : Int32).toInt = 57 := rfl
  unfold xM1
  repeat' first
    | refine xP_s rfl rfl rfl ?_
    | refine xP_if (fun hc => ?_) (fun hc => ?_)
    | refine xP_ret rfl rfl rfl ?_
  · have q1 := xc_t hc
    dsimp only at q1
    have e : iIn 48 57 x = false := by simp only [iIn, Bool.and_eq_false_iff, decide_eq_false_iff_not]; omega
    rw [e] at k
    exact k
  · have q1 := xc_t hc
    dsimp only at q1
    have e : iIn 48 57 x = false := by simp only [iIn, Bool.and_eq_false_iff, decide_eq_false_iff_not]; omega
    rw [e] at k
    exact k
  · rename_i hc1
    have q1 := xc_f hc1
    have q2 := xc_f hc
    dsimp only at q1 q2
    have e : iIn 48 57 x = true := by simp only [iIn, Bool.and_eq_true, decide_eq_true_eq]; omega
    rw [e] at k
    exact k
def isW (x : Int32) : Bool := iIn 97 122 x || (iIn 65 90 x || (iIn 48 57 x || decide (x.toInt = 95)))
set_option maxRecDepth 100000 in
theorem p_isWord {sc : xSc} {d g : Nat} {A : List xC} {x : Int32} {P : xO → xH → Prop} (k : P (.inl (some (.int (xb (isW x))))) (A, g)) : xM1 sc (d + 1) 204 [.int x] (A, g) P := by
  have h97 : (97 : Int32).toInt = 97 := rfl
  have h122 : (122 : Int32).toInt = 122 := rfl
  have h65 : (65 : Int32).toInt = 65 := rfl
  have h90 : (90 : Int32).toInt = 90 := rfl
  have h48 : (48 : Int32).toInt = 48 := rfl
  have h57 : (57 : Int32).toInt = 57 := rfl
  have h95 : (95 : Int32).toInt = 95 := rfl
  have hW : isW x = true ↔ (97 ≤ x.toInt ∧ x.toInt ≤ 122) ∨ (65 ≤ x.toInt ∧ x.toInt ≤ 90) ∨ (48 ≤ x.toInt ∧ x.toInt ≤ 57) ∨ x.toInt = 95 := by simp only [isW, iIn, Bool.or_eq_true, Bool.and_eq_true, decide_eq_true_eq]
  unfold xM1
  repeat' first
    | refine xP_s rfl rfl rfl ?_
    | refine xP_if (fun hc => ?_) (fun hc => ?_)
    | refine xP_ret rfl rfl rfl ?_
  all_goals
    (try simp only [xc_i, decide_eq_true_eq, decide_eq_false_iff_not] at *)
  all_goals first
    | (rw [show isW x = true from hW.mpr (by omega)] at k; exact k)
    | (rw [show isW x = false from Bool.not_eq_true _ ▸ fun q => absurd (hW.mp q) (by omega)] at k; exact k)
