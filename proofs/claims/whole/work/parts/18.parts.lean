-- Parts: rows of kinds, values, sizes of names, firsts, nexts, depths
abbrev xF : Type := (Nat → Int32) × (Nat → Int32) × (Nat → Int32) × (Nat → Int32) × (Nat → Int32) × (Nat → Int32)
def xPt (A : List xC) (n : Nat) (F : xF) : Prop := n ≤ 840 ∧ A[11]? = some (.inr (4, [.ref 5, .ref 12, .ref 13, .ref 14, .ref 15, .ref 16, .ref 17, .int (nI n)])) ∧ A[12]? = some (.inl (.int, 840, .inl F.1)) ∧ A[13]? = some (.inl (.int, 840, .inl F.2.1)) ∧ A[14]? = some (.inl (.int, 840, .inl F.2.2.1)) ∧ A[15]? = some (.inl (.int, 840, .inl F.2.2.2.1)) ∧ A[16]? = some (.inl (.int, 840, .inl F.2.2.2.2.1)) ∧ A[17]? = some (.inl (.int, 840, .inl F.2.2.2.2.2))
theorem xPt.same {A A' : List xC} {n : Nat} {F : xF} {l : List Nat} (h : xPt A n F) (hs : xSame A A' l) (h11 : 11 ∉ l) (h12 : 12 ∉ l) (h13 : 13 ∉ l) (h14 : 14 ∉ l) (h15 : 15 ∉ l) (h16 : 16 ∉ l) (h17 : 17 ∉ l) : xPt A' n F :=
  ⟨h.1, (hs.2 _ h11).trans h.2.1, (hs.2 _ h12).trans h.2.2.1, (hs.2 _ h13).trans h.2.2.2.1, (hs.2 _ h14).trans h.2.2.2.2.1, (hs.2 _ h15).trans h.2.2.2.2.2.1, (hs.2 _ h16).trans h.2.2.2.2.2.2.1, (hs.2 _ h17).trans h.2.2.2.2.2.2.2⟩
theorem xPt.setK {A : List xC} {n : Nat} {F : xF} (h : xPt A n F) (f : Nat → Int32) : xPt (A.set 12 (.inl (.int, 840, .inl f))) n (f, F.2.1, F.2.2.1, F.2.2.2.1, F.2.2.2.2.1, F.2.2.2.2.2) :=
  ⟨h.1, xset_n7 (by decide) h.2.1, xset_eq h.2.2.1, xset_n7 (by decide) h.2.2.2.1, xset_n7 (by decide) h.2.2.2.2.1, xset_n7 (by decide) h.2.2.2.2.2.1, xset_n7 (by decide) h.2.2.2.2.2.2.1, xset_n7 (by decide) h.2.2.2.2.2.2.2⟩
theorem xPt.setV {A : List xC} {n : Nat} {F : xF} (h : xPt A n F) (f : Nat → Int32) : xPt (A.set 13 (.inl (.int, 840, .inl f))) n (F.1, f, F.2.2.1, F.2.2.2.1, F.2.2.2.2.1, F.2.2.2.2.2) :=
  ⟨h.1, xset_n7 (by decide) h.2.1, xset_n7 (by decide) h.2.2.1, xset_eq h.2.2.2.1, xset_n7 (by decide) h.2.2.2.2.1, xset_n7 (by decide) h.2.2.2.2.2.1, xset_n7 (by decide) h.2.2.2.2.2.2.1, xset_n7 (by decide) h.2.2.2.2.2.2.2⟩
theorem xPt.setS {A : List xC} {n : Nat} {F : xF} (h : xPt A n F) (f : Nat → Int32) : xPt (A.set 14 (.inl (.int, 840, .inl f))) n (F.1, F.2.1, f, F.2.2.2.1, F.2.2.2.2.1, F.2.2.2.2.2) :=
  ⟨h.1, xset_n7 (by decide) h.2.1, xset_n7 (by decide) h.2.2.1, xset_n7 (by decide) h.2.2.2.1, xset_eq h.2.2.2.2.1, xset_n7 (by decide) h.2.2.2.2.2.1, xset_n7 (by decide) h.2.2.2.2.2.2.1, xset_n7 (by decide) h.2.2.2.2.2.2.2⟩
theorem xPt.setF {A : List xC} {n : Nat} {F : xF} (h : xPt A n F) (f : Nat → Int32) : xPt (A.set 15 (.inl (.int, 840, .inl f))) n (F.1, F.2.1, F.2.2.1, f, F.2.2.2.2.1, F.2.2.2.2.2) :=
  ⟨h.1, xset_n7 (by decide) h.2.1, xset_n7 (by decide) h.2.2.1, xset_n7 (by decide) h.2.2.2.1, xset_n7 (by decide) h.2.2.2.2.1, xset_eq h.2.2.2.2.2.1, xset_n7 (by decide) h.2.2.2.2.2.2.1, xset_n7 (by decide) h.2.2.2.2.2.2.2⟩
theorem xPt.setX {A : List xC} {n : Nat} {F : xF} (h : xPt A n F) (f : Nat → Int32) : xPt (A.set 16 (.inl (.int, 840, .inl f))) n (F.1, F.2.1, F.2.2.1, F.2.2.2.1, f, F.2.2.2.2.2) :=
  ⟨h.1, xset_n7 (by decide) h.2.1, xset_n7 (by decide) h.2.2.1, xset_n7 (by decide) h.2.2.2.1, xset_n7 (by decide) h.2.2.2.2.1, xset_n7 (by decide) h.2.2.2.2.2.1, xset_eq h.2.2.2.2.2.2.1, xset_n7 (by decide) h.2.2.2.2.2.2.2⟩
theorem xPt.setD {A : List xC} {n : Nat} {F : xF} (h : xPt A n F) (f : Nat → Int32) : xPt (A.set 17 (.inl (.int, 840, .inl f))) n (F.1, F.2.1, F.2.2.1, F.2.2.2.1, F.2.2.2.2.1, f) :=
  ⟨h.1, xset_n7 (by decide) h.2.1, xset_n7 (by decide) h.2.2.1, xset_n7 (by decide) h.2.2.2.1, xset_n7 (by decide) h.2.2.2.2.1, xset_n7 (by decide) h.2.2.2.2.2.1, xset_n7 (by decide) h.2.2.2.2.2.2.1, xset_eq h.2.2.2.2.2.2.2⟩
theorem xPt.setN {A : List xC} {n m : Nat} {F : xF} (h : xPt A n F) (hm : m ≤ 840) : xPt (A.set 11 (.inr (4, [.ref 5, .ref 12, .ref 13, .ref 14, .ref 15, .ref 16, .ref 17, .int (nI m)]))) m F :=
  ⟨hm, xset_eq h.2.1, xset_n7 (by decide) h.2.2.1, xset_n7 (by decide) h.2.2.2.1, xset_n7 (by decide) h.2.2.2.2.1, xset_n7 (by decide) h.2.2.2.2.2.1, xset_n7 (by decide) h.2.2.2.2.2.2.1, xset_n7 (by decide) h.2.2.2.2.2.2.2⟩
set_option maxRecDepth 100000 in
theorem p_partsUsed {sc : xSc} {d g n : Nat} {A : List xC} {F : xF} {P : xO → xH → Prop} (hp : xPt A n F) (k : P (.inl (some (.int (nI n)))) (A, g)) : xM1 sc d 57 [.ref 11] (A, g) P := by
  have h11 := hp.2.1
  unfold xM1
  repeat' first
    | refine xP_s rfl rfl rfl ?_
    | refine xP_get rfl h11 rfl ?_
    | refine xP_ret rfl rfl rfl ?_
  exact k
set_option maxRecDepth 100000 in
theorem p_partsCut {sc : xSc} {d g n m : Nat} {A : List xC} {F : xF} {P : xO → xH → Prop} (hp : xPt A n F) (hm : m ≤ n) (k : ∀ A', xPt A' m F → xSame A A' [11] → P (.inl none) (A', g)) : xM1 sc d 58 [.ref 11, .int (nI m)] (A, g) P := by
  have h11 := hp.2.1
  have hn := hp.1
  have h0 : (0 : Int32).toInt = 0 := rfl
  have hN : (nI n).toInt = (n : Int) := nI_toInt (by omega)
  have hM : (nI m).toInt = (m : Int) := nI_toInt (by omega)
  unfold xM1
  repeat' first
    | refine xP_s rfl rfl rfl ?_
    | refine xP_get rfl h11 rfl ?_
    | refine xP_put rfl h11 (Nat.le_of_ble_eq_true rfl) rfl ?_
    | refine xP_if (fun hc => ?_) (fun hc => ?_)
    | refine xP_ret rfl rfl rfl ?_
  · have := xc_t hc
    dsimp only at this
    omega
  · have := xc_t hc
    dsimp only at this
    have e : m = n := by omega
    subst e
    exact k A hp (xSame.refl _ _)
  · exact k _ (hp.setN (by omega)) (xSame.set _ _)
set_option maxRecDepth 100000 in
theorem p_isPart {sc : xSc} {d g n : Nat} {A : List xC} {F : xF} {x : Int32} {b : Bool} {P : xO → xH → Prop} (hp : xPt A n F) (hb : b = true ↔ 0 ≤ x.toInt ∧ x.toInt < n) (k : P (.inl (some (.int (xb b)))) (A, g)) : xM1 sc d 59 [.ref 11, .int x] (A, g) P := by
  have h11 := hp.2.1
  have hn := hp.1
  have h0 : (0 : Int32).toInt = 0 := rfl
  have h840 : (840 : Int32).toInt = 840 := rfl
  have hN : (nI n).toInt = (n : Int) := nI_toInt (by omega)
  unfold xM1
  repeat' first
    | refine xP_s rfl rfl rfl ?_
    | refine xP_get rfl h11 rfl ?_
    | refine xP_if (fun hc => ?_) (fun hc => ?_)
    | refine xP_ret rfl rfl rfl ?_
  all_goals
    (try simp only [xc_i, decide_eq_true_eq, decide_eq_false_iff_not] at *)
  all_goals first
    | (rw [show b = true from hb.mpr (by omega)] at k; exact k)
    | (rw [show b = false from Bool.not_eq_true _ ▸ fun q => absurd (hb.mp q) (by omega)] at k; exact k)
/-- of a part, or of none -/
def ptG (f : Nat → Int32) (df : Int32) (o : Option Nat) : Int32 := match o with
  | some j => f j
  | none => df
theorem sI_in {n : Nat} {o : Option Nat} (hn : n < 2 ^ 31) (hv : ∀ i, o = some i → i < n) : o.isSome = true ↔ 0 ≤ (sI o).toInt ∧ (sI o).toInt < n := by
  cases o with
  | none => simp [sI]
  | some i =>
    have := hv i rfl
    simp only [sI, nI_toInt (show i < 2 ^ 31 by omega)]
    simp
    omega
set_option maxRecDepth 100000 in
theorem p_kind {sc : xSc} {d g n : Nat} {A : List xC} {F : xF} {o : Option Nat} {P : xO → xH → Prop} (hp : xPt A n F) (hv : ∀ i, o = some i → i < n) (k : P (.inl (some (.int (ptG F.1 (-1) o)))) (A, g)) : xM1 sc (d + 1) 60 [.ref 11, .int (sI o)] (A, g) P := by
  have h11 := hp.2.1
  have hn := hp.1
  unfold xM1
  refine xP_s rfl rfl rfl ?_
  refine xP_s rfl rfl rfl ?_
  refine xP_cv rfl rfl rfl rfl rfl h11 (p_isPart hp (sI_in (by omega) hv) ?_)
  cases o with
  | none =>
    repeat' first
      | refine xP_s rfl rfl rfl ?_
      | refine xP_ret rfl rfl rfl ?_
    exact k
  | some i =>
    have hi := hv i rfl
    have hI : (nI i).toInt = (i : Int) := nI_toInt (by omega)
    repeat' first
      | refine xP_s rfl rfl rfl ?_
      | refine xP_get rfl h11 rfl ?_
    refine xP_ial rfl hp.2.2.1 (by decide) (xib_of (by show 0 ≤ (nI i).toInt; omega) (by show (nI i).toInt < _; omega)) ?_
    rw [show Int32.toNatClampNeg (sI (some i)) = i from nI_clamp (by omega)]
    repeat' first
      | refine xP_s rfl rfl rfl ?_
      | refine xP_ret rfl rfl rfl ?_
    exact k
set_option maxRecDepth 100000 in
theorem p_value {sc : xSc} {d g n : Nat} {A : List xC} {F : xF} {o : Option Nat} {P : xO → xH → Prop} (hp : xPt A n F) (hv : ∀ i, o = some i → i < n) (k : P (.inl (some (.int (ptG F.2.1 0 o)))) (A, g)) : xM1 sc (d + 1) 61 [.ref 11, .int (sI o)] (A, g) P := by
  have h11 := hp.2.1
  have hn := hp.1
  unfold xM1
  refine xP_s rfl rfl rfl ?_
  refine xP_s rfl rfl rfl ?_
  refine xP_cv rfl rfl rfl rfl rfl h11 (p_isPart hp (sI_in (by omega) hv) ?_)
  cases o with
  | none =>
    repeat' first
      | refine xP_s rfl rfl rfl ?_
      | refine xP_ret rfl rfl rfl ?_
    exact k
  | some i =>
    have hi := hv i rfl
    have hI : (nI i).toInt = (i : Int) := nI_toInt (by omega)
    repeat' first
      | refine xP_s rfl rfl rfl ?_
      | refine xP_get rfl h11 rfl ?_
    refine xP_ial rfl hp.2.2.2.1 (by decide) (xib_of (by show 0 ≤ (nI i).toInt; omega) (by show (nI i).toInt < _; omega)) ?_
    rw [show Int32.toNatClampNeg (sI (some i)) = i from nI_clamp (by omega)]
    repeat' first
      | refine xP_s rfl rfl rfl ?_
      | refine xP_ret rfl rfl rfl ?_
    exact k
set_option maxRecDepth 100000 in
theorem p_nameSize {sc : xSc} {d g n : Nat} {A : List xC} {F : xF} {o : Option Nat} {P : xO → xH → Prop} (hp : xPt A n F) (hv : ∀ i, o = some i → i < n) (k : P (.inl (some (.int (ptG F.2.2.1 0 o)))) (A, g)) : xM1 sc (d + 1) 62 [.ref 11, .int (sI o)] (A, g) P := by
  have h11 := hp.2.1
  have hn := hp.1
  unfold xM1
  refine xP_s rfl rfl rfl ?_
  refine xP_s rfl rfl rfl ?_
  refine xP_cv rfl rfl rfl rfl rfl h11 (p_isPart hp (sI_in (by omega) hv) ?_)
  cases o with
  | none =>
    repeat' first
      | refine xP_s rfl rfl rfl ?_
      | refine xP_ret rfl rfl rfl ?_
    exact k
  | some i =>
    have hi := hv i rfl
    have hI : (nI i).toInt = (i : Int) := nI_toInt (by omega)
    repeat' first
      | refine xP_s rfl rfl rfl ?_
      | refine xP_get rfl h11 rfl ?_
    refine xP_ial rfl hp.2.2.2.2.1 (by decide) (xib_of (by show 0 ≤ (nI i).toInt; omega) (by show (nI i).toInt < _; omega)) ?_
    rw [show Int32.toNatClampNeg (sI (some i)) = i from nI_clamp (by omega)]
    repeat' first
      | refine xP_s rfl rfl rfl ?_
      | refine xP_ret rfl rfl rfl ?_
    exact k
set_option maxRecDepth 100000 in
theorem p_first {sc : xSc} {d g n : Nat} {A : List xC} {F : xF} {o : Option Nat} {P : xO → xH → Prop} (hp : xPt A n F) (hv : ∀ i, o = some i → i < n) (k : P (.inl (some (.int (ptG F.2.2.2.1 (-1) o)))) (A, g)) : xM1 sc (d + 1) 63 [.ref 11, .int (sI o)] (A, g) P := by
  have h11 := hp.2.1
  have hn := hp.1
  unfold xM1
  refine xP_s rfl rfl rfl ?_
  refine xP_s rfl rfl rfl ?_
  refine xP_cv rfl rfl rfl rfl rfl h11 (p_isPart hp (sI_in (by omega) hv) ?_)
  cases o with
  | none =>
    repeat' first
      | refine xP_s rfl rfl rfl ?_
      | refine xP_ret rfl rfl rfl ?_
    exact k
  | some i =>
    have hi := hv i rfl
    have hI : (nI i).toInt = (i : Int) := nI_toInt (by omega)
    repeat' first
      | refine xP_s rfl rfl rfl ?_
      | refine xP_get rfl h11 rfl ?_
    refine xP_ial rfl hp.2.2.2.2.2.1 (by decide) (xib_of (by show 0 ≤ (nI i).toInt; omega) (by show (nI i).toInt < _; omega)) ?_
    rw [show Int32.toNatClampNeg (sI (some i)) = i from nI_clamp (by omega)]
    repeat' first
      | refine xP_s rfl rfl rfl ?_
      | refine xP_ret rfl rfl rfl ?_
    exact k
set_option maxRecDepth 100000 in
theorem p_next {sc : xSc} {d g n : Nat} {A : List xC} {F : xF} {o : Option Nat} {P : xO → xH → Prop} (hp : xPt A n F) (hv : ∀ i, o = some i → i < n) (k : P (.inl (some (.int (ptG F.2.2.2.2.1 (-1) o)))) (A, g)) : xM1 sc (d + 1) 64 [.ref 11, .int (sI o)] (A, g) P := by
  have h11 := hp.2.1
  have hn := hp.1
  unfold xM1
  refine xP_s rfl rfl rfl ?_
  refine xP_s rfl rfl rfl ?_
  refine xP_cv rfl rfl rfl rfl rfl h11 (p_isPart hp (sI_in (by omega) hv) ?_)
  cases o with
  | none =>
    repeat' first
      | refine xP_s rfl rfl rfl ?_
      | refine xP_ret rfl rfl rfl ?_
    exact k
  | some i =>
    have hi := hv i rfl
    have hI : (nI i).toInt = (i : Int) := nI_toInt (by omega)
    repeat' first
      | refine xP_s rfl rfl rfl ?_
      | refine xP_get rfl h11 rfl ?_
    refine xP_ial rfl hp.2.2.2.2.2.2.1 (by decide) (xib_of (by show 0 ≤ (nI i).toInt; omega) (by show (nI i).toInt < _; omega)) ?_
    rw [show Int32.toNatClampNeg (sI (some i)) = i from nI_clamp (by omega)]
    repeat' first
      | refine xP_s rfl rfl rfl ?_
      | refine xP_ret rfl rfl rfl ?_
    exact k
set_option maxRecDepth 100000 in
theorem p_depth {sc : xSc} {d g n : Nat} {A : List xC} {F : xF} {o : Option Nat} {P : xO → xH → Prop} (hp : xPt A n F) (hv : ∀ i, o = some i → i < n) (k : P (.inl (some (.int (ptG F.2.2.2.2.2 0 o)))) (A, g)) : xM1 sc (d + 1) 66 [.ref 11, .int (sI o)] (A, g) P := by
  have h11 := hp.2.1
  have hn := hp.1
  unfold xM1
  refine xP_s rfl rfl rfl ?_
  refine xP_s rfl rfl rfl ?_
  refine xP_cv rfl rfl rfl rfl rfl h11 (p_isPart hp (sI_in (by omega) hv) ?_)
  cases o with
  | none =>
    repeat' first
      | refine xP_s rfl rfl rfl ?_
      | refine xP_ret rfl rfl rfl ?_
    exact k
  | some i =>
    have hi := hv i rfl
    have hI : (nI i).toInt = (i : Int) := nI_toInt (by omega)
    repeat' first
      | refine xP_s rfl rfl rfl ?_
      | refine xP_get rfl h11 rfl ?_
    refine xP_ial rfl hp.2.2.2.2.2.2.2 (by decide) (xib_of (by show 0 ≤ (nI i).toInt; omega) (by show (nI i).toInt < _; omega)) ?_
    rw [show Int32.toNatClampNeg (sI (some i)) = i from nI_clamp (by omega)]
    repeat' first
      | refine xP_s rfl rfl rfl ?_
      | refine xP_ret rfl rfl rfl ?_
    exact k
set_option maxRecDepth 100000 in
theorem p_link {sc : xSc} {d g n : Nat} {A : List xC} {F : xF} {o : Option Nat} {x : Int32} {P : xO → xH → Prop} (hp : xPt A n F) (hv : ∀ i, o = some i → i < n) (k : ∀ A', xPt A' n (F.1, F.2.1, F.2.2.1, F.2.2.2.1, (match o with | some j => upd F.2.2.2.2.1 j x | none => F.2.2.2.2.1), F.2.2.2.2.2) → xSame A A' [16] → P (.inl none) (A', g)) : xM1 sc (d + 1) 67 [.ref 11, .int (sI o), .int x] (A, g) P := by
  have h11 := hp.2.1
  have hn := hp.1
  unfold xM1
  refine xP_s rfl rfl rfl ?_
  refine xP_s rfl rfl rfl ?_
  refine xP_cv rfl rfl rfl rfl rfl h11 (p_isPart hp (sI_in (by omega) hv) ?_)
  cases o with
  | none =>
    repeat' first
      | refine xP_s rfl rfl rfl ?_
      | refine xP_ret rfl rfl rfl ?_
    exact k A hp (xSame.refl _ _)
  | some i =>
    have hi := hv i rfl
    have hI : (nI i).toInt = (i : Int) := nI_toInt (by omega)
    repeat' first
      | refine xP_s rfl rfl rfl ?_
      | refine xP_get rfl h11 rfl ?_
    refine xP_ias rfl hp.2.2.2.2.2.2.1 (xib_of (by show 0 ≤ (nI i).toInt; omega) (by show (nI i).toInt < _; omega)) ?_
    rw [show Int32.toNatClampNeg (sI (some i)) = i from nI_clamp (by omega)]
    repeat' first
      | refine xP_s rfl rfl rfl ?_
      | refine xP_ret rfl rfl rfl ?_
    exact k _ (hp.setX _) (xSame.set _ _)
set_option maxRecDepth 100000 in
theorem p_isNamed {sc : xSc} {d g n : Nat} {A : List xC} {F : xF} {o : Option Nat} {b : Bool} {P : xO → xH → Prop} (hp : xPt A n F) (hv : ∀ i, o = some i → i < n) (hb : b = true ↔ (ptG F.1 (-1) o).toInt = 2 ∨ (ptG F.1 (-1) o).toInt = 3) (k : P (.inl (some (.int (xb b)))) (A, g)) : xM1 sc (d + 2) 68 [.ref 11, .int (sI o)] (A, g) P := by
  have h11 := hp.2.1
  have h2 : (2 : Int32).toInt = 2 := rfl
  have h3 : (3 : Int32).toInt = 3 := rfl
  unfold xM1
  repeat' first
    | refine xP_s rfl rfl rfl ?_
    | refine xP_cv rfl rfl rfl rfl rfl h11 (p_kind hp hv ?_)
    | refine xP_if (fun hc => ?_) (fun hc => ?_)
    | refine xP_ret rfl rfl rfl ?_
  all_goals
    (try simp only [xc_i, decide_eq_true_eq, decide_eq_false_iff_not] at *)
  all_goals first
    | (rw [show b = true from hb.mpr (by omega)] at k; exact k)
    | (rw [show b = false from Bool.not_eq_true _ ▸ fun q => absurd (hb.mp q) (by omega)] at k; exact k)
set_option maxRecDepth 100000 in
theorem p_partsAdd {sc : xSc} {d g n : Nat} {A : List xC} {F : xF} {x1 x2 x3 x4 x5 : Int32} {P : xO → xH → Prop} (hp : xPt A n F)
    (k0 : n = 840 → P (.inl (some (.int (-1)))) (A, g))
    (k : n < 840 → ∀ A', xPt A' (n + 1) (upd F.1 n x1, upd F.2.1 n x2, upd F.2.2.1 n x3, upd F.2.2.2.1 n x4, upd F.2.2.2.2.1 n (-1), upd F.2.2.2.2.2 n x5) → xSame A A' [11, 12, 13, 14, 15, 16, 17] → P (.inl (some (.int (nI n)))) (A', g)) : xM1 sc d 74 [.ref 11, .int x1, .int x2, .int x3, .int x4, .int x5] (A, g) P := by
  have h11 := hp.2.1
  have hn := hp.1
  have h0 : (0 : Int32).toInt = 0 := rfl
  have h840 : (840 : Int32).toInt = 840 := rfl
  have hN : (nI n).toInt = (n : Int) := nI_toInt (by omega)
  have hcl : (nI n).toNatClampNeg = n := nI_clamp (by omega)
  unfold xM1
  refine xP_s rfl rfl rfl ?_
  refine xP_get rfl h11 rfl ?_
  refine xP_s rfl rfl rfl ?_
  refine xP_if (fun hc => ?_) (fun hc => ?_)
  · have := xc_t hc
    dsimp only at this
    omega
  · refine xP_s rfl rfl rfl ?_
    refine xP_get rfl h11 rfl ?_
    refine xP_s rfl rfl rfl ?_
    refine xP_s rfl rfl rfl ?_
    refine xP_if (fun hc => ?_) (fun hc => ?_)
    · have hlt := xc_t hc
      dsimp only at hlt
      have hi : xib (nI n) 840 = true := xib_of (by omega) (by omega)
      repeat' first
        | refine xP_s rfl rfl rfl ?_
        | refine xP_get rfl h11 rfl ?_
      refine xP_ias rfl hp.2.2.1 hi ?_
      rw [hcl]
      have p1 := hp.setK (upd F.1 n x1)
      repeat' first
        | refine xP_s rfl rfl rfl ?_
        | refine xP_get rfl p1.2.1 rfl ?_
      refine xP_ias rfl p1.2.2.2.1 hi ?_
      rw [hcl]
      have p2 := p1.setV (upd F.2.1 n x2)
      repeat' first
        | refine xP_s rfl rfl rfl ?_
        | refine xP_get rfl p2.2.1 rfl ?_
      refine xP_ias rfl p2.2.2.2.2.1 hi ?_
      rw [hcl]
      have p3 := p2.setS (upd F.2.2.1 n x3)
      repeat' first
        | refine xP_s rfl rfl rfl ?_
        | refine xP_get rfl p3.2.1 rfl ?_
      refine xP_ias rfl p3.2.2.2.2.2.1 hi ?_
      rw [hcl]
      have p4 := p3.setF (upd F.2.2.2.1 n x4)
      repeat' first
        | refine xP_s rfl rfl rfl ?_
        | refine xP_get rfl p4.2.1 rfl ?_
      refine xP_ias rfl p4.2.2.2.2.2.2.1 hi ?_
      rw [hcl]
      have p5 := p4.setX (upd F.2.2.2.2.1 n (-1))
      repeat' first
        | refine xP_s rfl rfl rfl ?_
        | refine xP_get rfl p5.2.1 rfl ?_
      refine xP_ias rfl p5.2.2.2.2.2.2.2 hi ?_
      rw [hcl]
      have p6 := p5.setD (upd F.2.2.2.2.2 n x5)
      refine xP_s rfl rfl rfl ?_
      refine xP_s rfl rfl rfl ?_
      refine xP_get rfl p6.2.1 rfl ?_
      refine xP_s rfl rfl rfl ?_
      refine xP_s rfl rfl rfl ?_
      refine xP_put rfl p6.2.1 (Nat.le_of_ble_eq_true rfl) rfl ?_
      rw [show nI n + 1 = nI (n + 1) from nI_1 n]
      have p7 := p6.setN (m := n + 1) (by omega)
      refine xP_s rfl rfl rfl ?_
      refine xP_get rfl p7.2.1 rfl ?_
      repeat' first
        | refine xP_s rfl rfl rfl ?_
        | refine xP_ret rfl rfl rfl ?_
      rw [show nI (n + 1) - 1 = nI n by rw [← nI_1]; exact Int32.add_sub_cancel _ _]
      exact k (by omega) _ p7 ((((((((xSame.set _ _).trans (xSame.set _ _)).trans (xSame.set _ _)).trans (xSame.set _ _)).trans (xSame.set _ _)).trans (xSame.set _ _)).trans (xSame.set _ _)).wider (by decide))
    · have hge := xc_f hc
      dsimp only at hge
      repeat' first
        | refine xP_s rfl rfl rfl ?_
        | refine xP_ret rfl rfl rfl ?_
      exact k0 (by omega)
