-- Operators: slots (key, priority, type)
abbrev xSl : Type := Int64 × Nat × Nat
def xOp (A : List xC) (sl : List xSl) : Prop := ∃ (fk : Nat → Int64) (fp ft : Nat → Int32), A[7]? = some (.inr (2, [.ref 8, .ref 9, .ref 10, .int (nI sl.length)])) ∧ A[8]? = some (.inl (.long, 25, .inr (.inl fk))) ∧ A[9]? = some (.inl (.int, 25, .inl fp)) ∧ A[10]? = some (.inl (.int, 25, .inl ft)) ∧ sl.length ≤ 25 ∧ ∀ i e, sl[i]? = some e → fk i = e.1 ∧ fp i = nI e.2.1 ∧ ft i = nI e.2.2 ∧ e.2.1 ≤ 1200 ∧ e.2.2 ≤ 6
theorem xOp.same {A A' : List xC} {sl : List xSl} {l : List Nat} (h : xOp A sl) (hs : xSame A A' l) (h7 : 7 ∉ l) (h8 : 8 ∉ l) (h9 : 9 ∉ l) (h10 : 10 ∉ l) : xOp A' sl := by
  obtain ⟨fk, fp, ft, q1, q2, q3, q4, q5⟩ := h
  exact ⟨fk, fp, ft, by rw [hs.2 _ h7]; exact q1, by rw [hs.2 _ h8]; exact q2, by rw [hs.2 _ h9]; exact q3, by rw [hs.2 _ h10]; exact q4, q5⟩
theorem xOp.obj {A : List xC} {sl : List xSl} (h : xOp A sl) : A[7]? = some (.inr (2, [.ref 8, .ref 9, .ref 10, .int (nI sl.length)])) := by
  obtain ⟨fk, fp, ft, q1, _⟩ := h
  exact q1
theorem xOp.len {A : List xC} {sl : List xSl} (h : xOp A sl) : sl.length ≤ 25 := by
  obtain ⟨fk, fp, ft, _, _, _, _, q, _⟩ := h
  exact q
theorem xOp.ent {A : List xC} {sl : List xSl} (h : xOp A sl) {i : Nat} {e : xSl} (he : sl[i]? = some e) : e.2.1 ≤ 1200 ∧ e.2.2 ≤ 6 := by
  obtain ⟨fk, fp, ft, _, _, _, _, _, q⟩ := h
  exact (q i e he).2.2.2
def isPre (t : Nat) : Bool := decide (t = 3) || decide (t = 4)
def isPost (t : Nat) : Bool := decide (t = 5) || decide (t = 6)
def isInf (t : Nat) : Bool := decide (t < 3)
/-- a slot's number, or -1 -/
def sI (o : Option Nat) : Int32 := match o with
  | some i => nI i
  | none => -1
def fnd (pre : Bool) (key : Int64) : List xSl → Nat → Option Nat
  | [], _ => none
  | e :: r, i => if e.1 = key ∧ isPre e.2.2 = pre then some i else fnd pre key r (i + 1)
theorem fnd_some {pre : Bool} {key : Int64} : ∀ {sl : List xSl} {i j : Nat}, fnd pre key sl i = some j → i ≤ j ∧ ∃ e, sl[j - i]? = some e ∧ e.1 = key ∧ isPre e.2.2 = pre
  | [], i, j, h => by simp [fnd] at h
  | e :: r, i, j, h => by
    unfold fnd at h
    split at h
    next hc =>
      have := Option.some.inj h
      subst this
      exact ⟨Nat.le_refl _, e, by simp, hc⟩
    next =>
      obtain ⟨h1, e', h2, h3⟩ := fnd_some h
      refine ⟨by omega, e', ?_, h3⟩
      rw [show j - i = (j - (i + 1)) + 1 by omega]
      simpa using h2
set_option maxRecDepth 100000 in
theorem p_isPrefixType {sc : xSc} {d g : Nat} {A : List xC} {x : Int32} {b : Bool} {P : xO → xH → Prop} (hb : b = true ↔ x.toInt = 3 ∨ x.toInt = 4) (k : P (.inl (some (.int (xb b)))) (A, g)) : xM1 sc d 19 [.int x] (A, g) P := by
  have h3 : (3 : Int32).toInt = 3 := rfl
  have h4 : (4 : Int32).toInt = 4 := rfl
  unfold xM1
  repeat' first
    | refine xP_s rfl rfl rfl ?_
    | refine xP_if (fun hc => ?_) (fun hc => ?_)
    | refine xP_ret rfl rfl rfl ?_
  all_goals
    (try simp only [xc_i, decide_eq_true_eq, decide_eq_false_iff_not] at *)
  all_goals first
    | (rw [show b = true from hb.mpr (by omega)] at k; exact k)
    | (rw [show b = false from Bool.not_eq_true _ ▸ fun q => absurd (hb.mp q) (by omega)] at k; exact k)
set_option maxRecDepth 100000 in
theorem p_isPostfixType {sc : xSc} {d g : Nat} {A : List xC} {x : Int32} {b : Bool} {P : xO → xH → Prop} (hb : b = true ↔ x.toInt = 5 ∨ x.toInt = 6) (k : P (.inl (some (.int (xb b)))) (A, g)) : xM1 sc d 20 [.int x] (A, g) P := by
  have h3 : (5 : Int32).toInt = 5 := rfl
  have h4 : (6 : Int32).toInt = 6 := rfl
  unfold xM1
  repeat' first
    | refine xP_s rfl rfl rfl ?_
    | refine xP_if (fun hc => ?_) (fun hc => ?_)
    | refine xP_ret rfl rfl rfl ?_
  all_goals
    (try simp only [xc_i, decide_eq_true_eq, decide_eq_false_iff_not] at *)
  all_goals first
    | (rw [show b = true from hb.mpr (by omega)] at k; exact k)
    | (rw [show b = false from Bool.not_eq_true _ ▸ fun q => absurd (hb.mp q) (by omega)] at k; exact k)
theorem isPre_nI {t : Nat} (h : t < 2 ^ 31) : isPre t = true ↔ (nI t).toInt = 3 ∨ (nI t).toInt = 4 := by
  rw [nI_toInt h]
  simp only [isPre, Bool.or_eq_true, decide_eq_true_eq]
  omega
theorem isPost_nI {t : Nat} (h : t < 2 ^ 31) : isPost t = true ↔ (nI t).toInt = 5 ∨ (nI t).toInt = 6 := by
  rw [nI_toInt h]
  simp only [isPost, Bool.or_eq_true, decide_eq_true_eq]
  omega
set_option maxRecDepth 100000 in
theorem p_told {sc : xSc} {d g : Nat} {A : List xC} {sl : List xSl} {P : xO → xH → Prop} (ho : xOp A sl) (k : P (.inl (some (.int (nI sl.length - 1)))) (A, g)) : xM1 sc d 18 [.ref 7] (A, g) P := by
  have h7 := ho.obj
  unfold xM1
  repeat' first
    | refine xP_s rfl rfl rfl ?_
    | refine xP_get rfl h7 rfl ?_
    | refine xP_ret rfl rfl rfl ?_
  exact k
set_option maxRecDepth 100000 in
theorem p_isSlot {sc : xSc} {d g : Nat} {A : List xC} {sl : List xSl} {x : Int32} {b : Bool} {P : xO → xH → Prop} (ho : xOp A sl) (hb : b = true ↔ 0 ≤ x.toInt ∧ x.toInt < sl.length) (k : P (.inl (some (.int (xb b)))) (A, g)) : xM1 sc d 21 [.ref 7, .int x] (A, g) P := by
  have h7 := ho.obj
  have hl := ho.len
  have h0 : (0 : Int32).toInt = 0 := rfl
  have h25 : (25 : Int32).toInt = 25 := rfl
  have hL : (nI sl.length).toInt = (sl.length : Int) := nI_toInt (by omega)
  unfold xM1
  repeat' first
    | refine xP_s rfl rfl rfl ?_
    | refine xP_get rfl h7 rfl ?_
    | refine xP_if (fun hc => ?_) (fun hc => ?_)
    | refine xP_ret rfl rfl rfl ?_
  all_goals
    (try simp only [xc_i, decide_eq_true_eq, decide_eq_false_iff_not] at *)
  all_goals first
    | (rw [show b = true from hb.mpr (by omega)] at k; exact k)
    | (rw [show b = false from Bool.not_eq_true _ ▸ fun q => absurd (hb.mp q) (by omega)] at k; exact k)
set_option maxRecDepth 100000 in
theorem p_findLoop {sc : xSc} {d g : Nat} {A : List xC} {sl : List xSl} {pre : Bool} {key : Int64} {P : xO → xH → Prop} (ho : xOp A sl) : ∀ (r : List xSl) (i : Nat), i + r.length = sl.length → (∀ j, r[j]? = sl[i + j]?) → P (.inl (some (.int (sI (fnd pre key r i))))) (A, g) →
    xP sc (d + 1) 22 3 [(0, .ref 7), (1, .int (xb pre)), (2, .long key), (4, .int (nI i))] [] (A, g) P
  | [], i, hm, _, k => by
    have h7 := ho.obj
    have hl := ho.len
    simp at hm
    have hI : (nI i).toInt = (i : Int) := nI_toInt (by omega)
    have hL : (nI sl.length).toInt = (sl.length : Int) := nI_toInt (by omega)
    refine xP_s rfl rfl rfl ?_
    refine xP_s rfl rfl rfl ?_
    refine xP_get rfl h7 rfl ?_
    refine xP_s rfl rfl rfl ?_
    refine xP_if (fun hc => ?_) (fun hc => ?_)
    · repeat' first
        | refine xP_s rfl rfl rfl ?_
        | refine xP_ret rfl rfl rfl ?_
      exact k
    · have := xc_f hc
      dsimp only at this
      omega
  | e :: r, i, hm, hj, k => by
    obtain ⟨fk, fp, ft, h7, h8, h9, h10, hl, hE⟩ := id ho
    simp at hm
    have h25 : (25 : Int32).toInt = 25 := rfl
    have h0 : (0 : Int32).toInt = 0 := rfl
    have hI : (nI i).toInt = (i : Int) := nI_toInt (by omega)
    have hL : (nI sl.length).toInt = (sl.length : Int) := nI_toInt (by omega)
    have he : sl[i]? = some e := by
      have := hj 0
      simpa using this.symm
    obtain ⟨q1, q2, q3, q4, q5⟩ := hE i e he
    have go := p_findLoop (sc := sc) (d := d) (g := g) (pre := pre) (key := key) (P := P) ho r (i + 1) (by omega) (fun j => by
      have := hj (j + 1)
      simp at this
      rw [this]
      congr 1
      omega)
    rw [← nI_1] at go
    unfold fnd at k
    refine xP_s rfl rfl rfl ?_
    refine xP_s rfl rfl rfl ?_
    refine xP_get rfl h7 rfl ?_
    refine xP_s rfl rfl rfl ?_
    refine xP_if (fun hc => ?_) (fun hc => ?_)
    · have := xc_t hc
      dsimp only at this
      omega
    · refine xP_s rfl rfl rfl ?_
      refine xP_s rfl rfl rfl ?_
      refine xP_s rfl rfl rfl ?_
      refine xP_if (fun hc => ?_) (fun hc => ?_)
      · have := xc_t hc
        dsimp only at this
        omega
      · refine xP_s rfl rfl rfl ?_
        refine xP_get rfl h7 rfl ?_
        refine xP_s rfl rfl rfl ?_
        refine xP_lal rfl h8 (xib_of (by omega) (by omega)) ?_
        rw [nI_clamp (by omega), q1]
        refine xP_s rfl rfl rfl ?_
        refine xP_s rfl rfl rfl ?_
        refine xP_s rfl rfl rfl ?_
        refine xP_if (fun hc => ?_) (fun hc => ?_)
        · have hne := xc_t hc
          dsimp only at hne
          have hne : ¬ e.1 = key := fun q => hne (by rw [(lg_cmp_eq _ _).mpr q])
          rw [if_neg (fun q => hne q.1)] at k
          refine xP_s rfl rfl rfl ?_
          refine xP_s rfl rfl rfl ?_
          exact go k
        · have heq := xc_f hc
          dsimp only at heq
          have heq : e.1 = key := (lg_cmp_eq _ _).mp (Int32.toInt_inj.mp heq)
          refine xP_s rfl rfl rfl ?_
          refine xP_get rfl h7 rfl ?_
          refine xP_s rfl rfl rfl ?_
          refine xP_ial rfl h10 (by decide) (xib_of (by omega) (by omega)) ?_
          rw [nI_clamp (by omega), q3]
          refine xP_call rfl rfl rfl (p_isPrefixType (isPre_nI (by omega)) ?_)
          by_cases hp : isPre e.2.2 = pre
          · rw [if_pos ⟨heq, hp⟩] at k
            rw [hp]
            refine xP_s rfl rfl rfl ?_
            refine xP_s rfl rfl rfl ?_
            refine xP_if (fun hc => ?_) (fun hc => ?_)
            · exact absurd rfl (xc_t hc)
            · repeat' first
                | refine xP_s rfl rfl rfl ?_
                | refine xP_ret rfl rfl rfl ?_
              exact k
          · rw [if_neg (fun q => hp q.2)] at k
            refine xP_s rfl rfl rfl ?_
            refine xP_s rfl rfl rfl ?_
            refine xP_if (fun hc => ?_) (fun hc => ?_)
            · refine xP_s rfl rfl rfl ?_
              refine xP_s rfl rfl rfl ?_
              exact go k
            · exfalso
              have := xc_f hc
              dsimp only at this
              have := Int32.toInt_inj.mp this
              revert this
              revert hp
              generalize isPre e.2.2 = z
              cases z <;> cases pre <;> decide
set_option maxRecDepth 100000 in
theorem p_find {sc : xSc} {d g : Nat} {A : List xC} {sl : List xSl} {pre : Bool} {key : Int64} {P : xO → xH → Prop} (ho : xOp A sl) (k : P (.inl (some (.int (sI (fnd pre key sl 0))))) (A, g)) : xM1 sc (d + 1) 22 [.ref 7, .int (xb pre), .long key] (A, g) P := by
  unfold xM1
  refine xP_s rfl rfl rfl ?_
  refine xP_s rfl rfl rfl ?_
  exact p_findLoop ho sl 0 (by omega) (by simp) k
set_option maxRecDepth 100000 in
theorem p_prefix {sc : xSc} {d g : Nat} {A : List xC} {sl : List xSl} {key : Int64} {P : xO → xH → Prop} (ho : xOp A sl) (k : P (.inl (some (.int (sI (fnd true key sl 0))))) (A, g)) : xM1 sc (d + 2) 23 [.ref 7, .long key] (A, g) P := by
  have h7 := ho.obj
  unfold xM1
  repeat' first
    | refine xP_s rfl rfl rfl ?_
    | refine xP_cv rfl rfl rfl rfl rfl h7 (p_find (pre := true) ho ?_)
    | refine xP_ret rfl rfl rfl ?_
  exact k
set_option maxRecDepth 100000 in
theorem p_behind {sc : xSc} {d g : Nat} {A : List xC} {sl : List xSl} {key : Int64} {P : xO → xH → Prop} (ho : xOp A sl) (k : P (.inl (some (.int (sI (fnd false key sl 0))))) (A, g)) : xM1 sc (d + 2) 24 [.ref 7, .long key] (A, g) P := by
  have h7 := ho.obj
  unfold xM1
  repeat' first
    | refine xP_s rfl rfl rfl ?_
    | refine xP_cv rfl rfl rfl rfl rfl h7 (p_find (pre := false) ho ?_)
    | refine xP_ret rfl rfl rfl ?_
  exact k
theorem sI_none (o : Option Nat) (h : ∀ i, o = some i → i < 2 ^ 31) : (sI o).toInt = -1 ↔ o = none := by
  cases o with
  | none => simp [sI]
  | some i =>
    simp only [sI, nI_toInt (h i rfl)]
    simp
theorem fnd_lt {A : List xC} {sl : List xSl} (ho : xOp A sl) {pre : Bool} {key : Int64} {i : Nat} (h : fnd pre key sl 0 = some i) : i < sl.length ∧ i < 2 ^ 31 := by
  obtain ⟨_, e, he, _⟩ := fnd_some h
  have h1 := (List.getElem?_eq_some_iff.mp he).1
  have h2 := ho.len
  omega
set_option maxRecDepth 100000 in
theorem p_isOperator {sc : xSc} {d g : Nat} {A : List xC} {sl : List xSl} {key : Int64} {P : xO → xH → Prop} (ho : xOp A sl) (k : P (.inl (some (.int (xb ((fnd true key sl 0).isSome || (fnd false key sl 0).isSome))))) (A, g)) : xM1 sc (d + 3) 25 [.ref 7, .long key] (A, g) P := by
  have h7 := ho.obj
  have hm : (-1 : Int32).toInt = -1 := rfl
  have e1 := sI_none _ (fun i h => (fnd_lt ho (pre := true) (key := key) h).2)
  have e2 := sI_none _ (fun i h => (fnd_lt ho (pre := false) (key := key) h).2)
  unfold xM1
  repeat' first
    | refine xP_s rfl rfl rfl ?_
    | refine xP_cv rfl rfl rfl rfl rfl h7 (p_prefix ho ?_)
    | refine xP_cv rfl rfl rfl rfl rfl h7 (p_behind ho ?_)
    | refine xP_if (fun hc => ?_) (fun hc => ?_)
    | refine xP_ret rfl rfl rfl ?_
  all_goals
    simp only [xc_i, decide_eq_true_eq, decide_eq_false_iff_not, hm, e1, e2] at *
    clear ho
    generalize fnd true key sl 0 = o1 at *
    generalize fnd false key sl 0 = o2 at *
    cases o1 <;> cases o2 <;> simp_all [xb]
/-- what stands in a slot -/
def slE (sl : List xSl) (o : Option Nat) : Option xSl := o.bind fun i => sl[i]?
def slP (e : Option xSl) : Nat := match e with
  | some e => e.2.1
  | none => 0
def slT (e : Option xSl) : Int := match e with
  | some e => e.2.2
  | none => -1
def iI (x : Int) : Int32 := Int32.ofInt x
theorem slV {A : List xC} {sl : List xSl} (ho : xOp A sl) {o : Option Nat} (hv : ∀ i, o = some i → i < sl.length) : (slE sl o).isSome = true ↔ 0 ≤ (sI o).toInt ∧ (sI o).toInt < sl.length := by
  have hl := ho.len
  cases o with
  | none => simp [slE, sI]
  | some i =>
    have := hv i rfl
    simp only [sI, slE, nI_toInt (show i < 2 ^ 31 by omega)]
    simp
set_option maxRecDepth 100000 in
theorem p_priority {sc : xSc} {d g : Nat} {A : List xC} {sl : List xSl} {o : Option Nat} {P : xO → xH → Prop} (ho : xOp A sl) (hv : ∀ i, o = some i → i < sl.length) (k : P (.inl (some (.int (nI (slP (slE sl o)))))) (A, g)) : xM1 sc (d + 1) 29 [.ref 7, .int (sI o)] (A, g) P := by
  obtain ⟨fk, fp, ft, h7, h8, h9, h10, hl, hE⟩ := id ho
  unfold xM1
  refine xP_s rfl rfl rfl ?_
  refine xP_s rfl rfl rfl ?_
  refine xP_cv rfl rfl rfl rfl rfl h7 (p_isSlot ho (slV ho hv) ?_)
  cases o with
  | none =>
    repeat' first
      | refine xP_s rfl rfl rfl ?_
      | refine xP_ret rfl rfl rfl ?_
    exact k
  | some i =>
    have hi := hv i rfl
    obtain ⟨e, he⟩ : ∃ e, sl[i]? = some e := ⟨sl[i]'hi, List.getElem?_eq_getElem hi⟩
    have hI : (nI i).toInt = (i : Int) := nI_toInt (by omega)
    have hq : slE sl (some i) = some e := he
    rw [hq] at k
    simp only [hq, Option.isSome_some]
    repeat' first
      | refine xP_s rfl rfl rfl ?_
      | refine xP_get rfl h7 rfl ?_
    refine xP_ial rfl h9 (by decide) (xib_of (by show 0 ≤ (nI i).toInt; omega) (by show (nI i).toInt < _; omega)) ?_
    repeat' first
      | refine xP_s rfl rfl rfl ?_
      | refine xP_ret rfl rfl rfl ?_
    have : fp (nI i).toNatClampNeg = nI e.2.1 := by rw [nI_clamp (by omega)]; exact (hE i e he).2.1
    show P (.inl (some (.int (fp (nI i).toNatClampNeg)))) (A, g)
    rw [this]
    exact k
set_option maxRecDepth 100000 in
theorem p_type {sc : xSc} {d g : Nat} {A : List xC} {sl : List xSl} {o : Option Nat} {P : xO → xH → Prop} (ho : xOp A sl) (hv : ∀ i, o = some i → i < sl.length) (k : ∀ x : Int32, x.toInt = slT (slE sl o) → P (.inl (some (.int x))) (A, g)) : xM1 sc (d + 1) 30 [.ref 7, .int (sI o)] (A, g) P := by
  obtain ⟨fk, fp, ft, h7, h8, h9, h10, hl, hE⟩ := id ho
  unfold xM1
  refine xP_s rfl rfl rfl ?_
  refine xP_s rfl rfl rfl ?_
  refine xP_cv rfl rfl rfl rfl rfl h7 (p_isSlot ho (slV ho hv) ?_)
  cases o with
  | none =>
    repeat' first
      | refine xP_s rfl rfl rfl ?_
      | refine xP_ret rfl rfl rfl ?_
    exact k _ rfl
  | some i =>
    have hi := hv i rfl
    obtain ⟨e, he⟩ : ∃ e, sl[i]? = some e := ⟨sl[i]'hi, List.getElem?_eq_getElem hi⟩
    have hI : (nI i).toInt = (i : Int) := nI_toInt (by omega)
    have hq : slE sl (some i) = some e := he
    rw [hq] at k
    simp only [hq, Option.isSome_some]
    repeat' first
      | refine xP_s rfl rfl rfl ?_
      | refine xP_get rfl h7 rfl ?_
    refine xP_ial rfl h10 (by decide) (xib_of (by show 0 ≤ (nI i).toInt; omega) (by show (nI i).toInt < _; omega)) ?_
    repeat' first
      | refine xP_s rfl rfl rfl ?_
      | refine xP_ret rfl rfl rfl ?_
    have : ft (nI i).toNatClampNeg = nI e.2.2 := by rw [nI_clamp (by omega)]; exact (hE i e he).2.2.1
    show P (.inl (some (.int (ft (nI i).toNatClampNeg)))) (A, g)
    rw [this]
    refine k _ ?_
    have := (hE i e he).2.2.2.2
    exact nI_toInt (by omega)
def oPre (e : Option xSl) : Bool := decide (slT e = 3) || decide (slT e = 4)
def oPost (e : Option xSl) : Bool := decide (slT e = 5) || decide (slT e = 6)
def oInf (e : Option xSl) : Bool := decide (slT e = 0) || (decide (slT e = 1) || decide (slT e = 2))
def oOpen (e : Option xSl) : Bool := decide (slT e = 1) || decide (slT e = 3)
def oLeft (e : Option xSl) : Int := if slT e = 2 ∨ slT e = 6 then slP e else slP e - 1
def oRight (e : Option xSl) : Int := if oOpen e then slP e else slP e - 1
set_option maxRecDepth 100000 in
theorem p_isPrefix {sc : xSc} {d g : Nat} {A : List xC} {sl : List xSl} {o : Option Nat} {P : xO → xH → Prop} (ho : xOp A sl) (hv : ∀ i, o = some i → i < sl.length) (k : P (.inl (some (.int (xb (oPre (slE sl o)))))) (A, g)) : xM1 sc (d + 2) 31 [.ref 7, .int (sI o)] (A, g) P := by
  have h7 := ho.obj
  unfold xM1
  refine xP_s rfl rfl rfl ?_
  refine xP_s rfl rfl rfl ?_
  refine xP_cv rfl rfl rfl rfl rfl h7 (p_type ho hv (fun x hx => ?_))
  refine xP_call rfl rfl rfl (p_isPrefixType (b := oPre (slE sl o)) (by simp only [oPre, Bool.or_eq_true, decide_eq_true_eq, hx]) ?_)
  cases hq : oPre (slE sl o)
  · rw [hq] at k
    repeat' first
      | refine xP_s rfl rfl rfl ?_
      | refine xP_ret rfl rfl rfl ?_
    exact k
  · rw [hq] at k
    repeat' first
      | refine xP_s rfl rfl rfl ?_
      | refine xP_ret rfl rfl rfl ?_
    exact k
set_option maxRecDepth 100000 in
theorem p_isPostfix {sc : xSc} {d g : Nat} {A : List xC} {sl : List xSl} {o : Option Nat} {P : xO → xH → Prop} (ho : xOp A sl) (hv : ∀ i, o = some i → i < sl.length) (k : P (.inl (some (.int (xb (oPost (slE sl o)))))) (A, g)) : xM1 sc (d + 2) 32 [.ref 7, .int (sI o)] (A, g) P := by
  have h7 := ho.obj
  unfold xM1
  refine xP_s rfl rfl rfl ?_
  refine xP_s rfl rfl rfl ?_
  refine xP_cv rfl rfl rfl rfl rfl h7 (p_type ho hv (fun x hx => ?_))
  refine xP_call rfl rfl rfl (p_isPostfixType (b := oPost (slE sl o)) (by simp only [oPost, Bool.or_eq_true, decide_eq_true_eq, hx]) ?_)
  cases hq : oPost (slE sl o)
  · rw [hq] at k
    repeat' first
      | refine xP_s rfl rfl rfl ?_
      | refine xP_ret rfl rfl rfl ?_
    exact k
  · rw [hq] at k
    repeat' first
      | refine xP_s rfl rfl rfl ?_
      | refine xP_ret rfl rfl rfl ?_
    exact k
set_option maxRecDepth 100000 in
theorem p_isInfix {sc : xSc} {d g : Nat} {A : List xC} {sl : List xSl} {o : Option Nat} {P : xO → xH → Prop} (ho : xOp A sl) (hv : ∀ i, o = some i → i < sl.length) (k : P (.inl (some (.int (xb (oInf (slE sl o)))))) (A, g)) : xM1 sc (d + 2) 33 [.ref 7, .int (sI o)] (A, g) P := by
  have h7 := ho.obj
  have h0 : (0 : Int32).toInt = 0 := rfl
  have h1 : (1 : Int32).toInt = 1 := rfl
  have h2 : (2 : Int32).toInt = 2 := rfl
  have hb : oInf (slE sl o) = true ↔ slT (slE sl o) = 0 ∨ slT (slE sl o) = 1 ∨ slT (slE sl o) = 2 := by simp only [oInf, Bool.or_eq_true, decide_eq_true_eq]
  unfold xM1
  refine xP_s rfl rfl rfl ?_
  refine xP_s rfl rfl rfl ?_
  refine xP_cv rfl rfl rfl rfl rfl h7 (p_type ho hv (fun x hx => ?_))
  repeat' first
    | refine xP_s rfl rfl rfl ?_
    | refine xP_if (fun hc => ?_) (fun hc => ?_)
    | refine xP_ret rfl rfl rfl ?_
  all_goals
    (try simp only [xc_i, decide_eq_true_eq, decide_eq_false_iff_not] at *)
  all_goals first
    | (rw [show (oInf (slE sl o)) = true from hb.mpr (by omega)] at k; exact k)
    | (rw [show (oInf (slE sl o)) = false from Bool.not_eq_true _ ▸ fun q => absurd (hb.mp q) (by omega)] at k; exact k)
set_option maxRecDepth 100000 in
theorem p_isOpenBehind {sc : xSc} {d g : Nat} {A : List xC} {sl : List xSl} {o : Option Nat} {P : xO → xH → Prop} (ho : xOp A sl) (hv : ∀ i, o = some i → i < sl.length) (k : P (.inl (some (.int (xb (oOpen (slE sl o)))))) (A, g)) : xM1 sc (d + 2) 34 [.ref 7, .int (sI o)] (A, g) P := by
  have h7 := ho.obj
  have h1 : (1 : Int32).toInt = 1 := rfl
  have h2 : (3 : Int32).toInt = 3 := rfl
  have hb : oOpen (slE sl o) = true ↔ slT (slE sl o) = 1 ∨ slT (slE sl o) = 3 := by simp only [oOpen, Bool.or_eq_true, decide_eq_true_eq]
  unfold xM1
  refine xP_s rfl rfl rfl ?_
  refine xP_s rfl rfl rfl ?_
  refine xP_cv rfl rfl rfl rfl rfl h7 (p_type ho hv (fun x hx => ?_))
  refine xP_s rfl rfl rfl ?_
  refine xP_s rfl rfl rfl ?_
  refine xP_if (fun hc => ?_) (fun hc => ?_)
  · repeat' first
      | refine xP_s rfl rfl rfl ?_
      | refine xP_ret rfl rfl rfl ?_
    all_goals
      (try simp only [xc_i, decide_eq_true_eq, decide_eq_false_iff_not] at *)
    all_goals first
      | (rw [show (oOpen (slE sl o)) = true from hb.mpr (by omega)] at k; exact k)
      | (rw [show (oOpen (slE sl o)) = false from Bool.not_eq_true _ ▸ fun q => absurd (hb.mp q) (by omega)] at k; exact k)
  · refine xP_s rfl rfl rfl ?_
    refine xP_s rfl rfl rfl ?_
    refine xP_cv rfl rfl rfl rfl rfl h7 (p_type ho hv (fun y hy => ?_))
    repeat' first
      | refine xP_s rfl rfl rfl ?_
      | refine xP_if (fun hc => ?_) (fun hc => ?_)
      | refine xP_ret rfl rfl rfl ?_
    all_goals
      (try simp only [xc_i, decide_eq_true_eq, decide_eq_false_iff_not] at *)
    all_goals first
      | (rw [show (oOpen (slE sl o)) = true from hb.mpr (by omega)] at k; exact k)
      | (rw [show (oOpen (slE sl o)) = false from Bool.not_eq_true _ ▸ fun q => absurd (hb.mp q) (by omega)] at k; exact k)
theorem slP_le {A : List xC} {sl : List xSl} (ho : xOp A sl) (o : Option Nat) : slP (slE sl o) ≤ 1200 := by
  cases o with
  | none => simp [slE, slP]
  | some i =>
    cases he : sl[i]? with
    | none => simp [slE, slP, he]
    | some e => simpa [slE, slP, he] using (ho.ent he).1
theorem nI_sub1 {n : Nat} (h : n < 2 ^ 31) : (nI n - 1).toInt = (n : Int) - 1 := by
  rw [Int32.toInt_sub, nI_toInt h]
  show Int.bmod ((n : Int) - 1) _ = _
  rw [Int.bmod_eq_of_le] <;> omega
set_option maxRecDepth 100000 in
theorem p_leftMost {sc : xSc} {d g : Nat} {A : List xC} {sl : List xSl} {o : Option Nat} {P : xO → xH → Prop} (ho : xOp A sl) (hv : ∀ i, o = some i → i < sl.length) (k : ∀ x : Int32, x.toInt = oLeft (slE sl o) → P (.inl (some (.int x))) (A, g)) : xM1 sc (d + 2) 35 [.ref 7, .int (sI o)] (A, g) P := by
  have h7 := ho.obj
  have h1 : (2 : Int32).toInt = 2 := rfl
  have h2 : (6 : Int32).toInt = 6 := rfl
  have hp := slP_le ho o
  have n1 := nI_toInt (n := slP (slE sl o)) (by omega)
  have n2 := nI_sub1 (n := slP (slE sl o)) (by omega)
  unfold oLeft at k
  unfold xM1
  refine xP_s rfl rfl rfl ?_
  refine xP_s rfl rfl rfl ?_
  refine xP_cv rfl rfl rfl rfl rfl h7 (p_type ho hv (fun x hx => ?_))
  refine xP_s rfl rfl rfl ?_
  refine xP_s rfl rfl rfl ?_
  refine xP_if (fun hc => ?_) (fun hc => ?_)
  · repeat' first
      | refine xP_s rfl rfl rfl ?_
      | refine xP_cv rfl rfl rfl rfl rfl h7 (p_priority ho hv ?_)
      | refine xP_ret rfl rfl rfl ?_
    have := xc_t hc
    dsimp only at this
    rw [if_pos (by omega)] at k
    exact k _ n1
  · refine xP_s rfl rfl rfl ?_
    refine xP_s rfl rfl rfl ?_
    refine xP_cv rfl rfl rfl rfl rfl h7 (p_type ho hv (fun y hy => ?_))
    have q1 := xc_f hc
    dsimp only at q1
    repeat' first
      | refine xP_s rfl rfl rfl ?_
      | refine xP_cv rfl rfl rfl rfl rfl h7 (p_priority ho hv ?_)
      | refine xP_if (fun hc => ?_) (fun hc => ?_)
      | refine xP_ret rfl rfl rfl ?_
    · have q2 := xc_t hc
      dsimp only at q2
      rw [if_neg (by omega)] at k
      exact k _ n2
    · have q2 := xc_f hc
      dsimp only at q2
      rw [if_pos (by omega)] at k
      exact k _ n1
set_option maxRecDepth 100000 in
theorem p_rightMost {sc : xSc} {d g : Nat} {A : List xC} {sl : List xSl} {o : Option Nat} {P : xO → xH → Prop} (ho : xOp A sl) (hv : ∀ i, o = some i → i < sl.length) (k : ∀ x : Int32, x.toInt = oRight (slE sl o) → P (.inl (some (.int x))) (A, g)) : xM1 sc (d + 3) 36 [.ref 7, .int (sI o)] (A, g) P := by
  have h7 := ho.obj
  have hp := slP_le ho o
  have n1 := nI_toInt (n := slP (slE sl o)) (by omega)
  have n2 := nI_sub1 (n := slP (slE sl o)) (by omega)
  unfold oRight at k
  unfold xM1
  refine xP_s rfl rfl rfl ?_
  refine xP_s rfl rfl rfl ?_
  refine xP_cv rfl rfl rfl rfl rfl h7 (p_isOpenBehind ho hv ?_)
  cases hq : oOpen (slE sl o)
  · rw [hq] at k
    repeat' first
      | refine xP_s rfl rfl rfl ?_
      | refine xP_cv rfl rfl rfl rfl rfl h7 (p_priority ho hv ?_)
      | refine xP_ret rfl rfl rfl ?_
    exact k _ n2
  · rw [hq] at k
    repeat' first
      | refine xP_s rfl rfl rfl ?_
      | refine xP_cv rfl rfl rfl rfl rfl h7 (p_priority ho hv ?_)
      | refine xP_ret rfl rfl rfl ?_
    exact k _ n1
theorem xset_n7 {A : List xC} {k : Nat} {e c : xC} {j : Nat} (hj : k ≠ j) (h : A[j]? = some c) : (A.set k e)[j]? = some c := (xset_ne hj).trans h
/-- what telling does to the slots -/
def tellS (sl : List xSl) (p ty : Nat) (key : Int64) : List xSl := match fnd (isPre ty) key sl 0 with
  | some i => sl.set i (key, p, ty)
  | none => if sl.length < 25 then sl ++ [(key, p, ty)] else sl
def canS (sl : List xSl) (ty : Nat) (key : Int64) : Bool := match fnd (isPre ty) key sl 0 with
  | some i => match sl[i]? with
    | some e => isPost e.2.2 == isPost ty
    | none => false
  | none => decide (sl.length < 25)
def takeS (sl : List xSl) (ty : Nat) (key : Int64) : List xSl := match fnd (isPre ty) key sl 0 with
  | some i => match sl[sl.length - 1]? with
    | some e => (sl.set i e).dropLast
    | none => sl
  | none => sl
theorem xb_cmp (a b : Bool) : xcmp .ne (xb a) (xb b) = !(a == b) := by cases a <;> cases b <;> rfl
set_option maxRecDepth 100000 in
theorem p_canTell {sc : xSc} {d g ty : Nat} {A : List xC} {sl : List xSl} {key : Int64} {P : xO → xH → Prop} (ho : xOp A sl) (hty : ty ≤ 6) (k : P (.inl (some (.int (xb (canS sl ty key))))) (A, g)) : xM1 sc (d + 2) 26 [.ref 7, .int (nI ty), .long key] (A, g) P := by
  obtain ⟨fk, fp, ft, h7, h8, h9, h10, hl, hE⟩ := id ho
  have hv := fun i h => (fnd_lt ho (pre := isPre ty) (key := key) (i := i) h).1
  have h25 : (25 : Int32).toInt = 25 := rfl
  have hL : (nI sl.length).toInt = (sl.length : Int) := nI_toInt (by omega)
  unfold xM1
  refine xP_s rfl rfl rfl ?_
  refine xP_s rfl rfl rfl ?_
  refine xP_call rfl rfl rfl (p_isPrefixType (isPre_nI (by omega)) ?_)
  refine xP_s rfl rfl rfl ?_
  refine xP_cv rfl rfl rfl rfl rfl h7 (p_find ho ?_)
  refine xP_s rfl rfl rfl ?_
  refine xP_s rfl rfl rfl ?_
  refine xP_s rfl rfl rfl ?_
  refine xP_cv rfl rfl rfl rfl rfl h7 (p_isSlot ho (slV ho hv) ?_)
  unfold canS at k
  cases hf : fnd (isPre ty) key sl 0 with
  | none =>
    rw [hf] at k
    repeat' first
      | refine xP_s rfl rfl rfl ?_
      | refine xP_get rfl h7 rfl ?_
      | refine xP_if (fun hc => ?_) (fun hc => ?_)
      | refine xP_ret rfl rfl rfl ?_
    · have := xc_t hc
      dsimp only at this
      rw [decide_eq_false (by omega)] at k
      exact k
    · have := xc_f hc
      dsimp only at this
      rw [decide_eq_true (by omega)] at k
      exact k
  | some i =>
    have hi := hv i hf
    obtain ⟨e, he⟩ : ∃ e, sl[i]? = some e := ⟨sl[i]'hi, List.getElem?_eq_getElem hi⟩
    have hI : (nI i).toInt = (i : Int) := nI_toInt (by omega)
    have hq : slE sl (some i) = some e := he
    rw [hf] at k
    dsimp only at k
    rw [he] at k
    obtain ⟨_, _, q3, _, q5⟩ := hE i e he
    simp only [hq, Option.isSome_some]
    repeat' first
      | refine xP_s rfl rfl rfl ?_
      | refine xP_get rfl h7 rfl ?_
    refine xP_ial rfl h10 (by decide) (xib_of (by show 0 ≤ (nI i).toInt; omega) (by show (nI i).toInt < _; omega)) ?_
    rw [show ft (Int32.toNatClampNeg (sI (some i))) = nI e.2.2 by show ft (nI i).toNatClampNeg = _; rw [nI_clamp (by omega)]; exact q3]
    repeat' first
      | refine xP_s rfl rfl rfl ?_
      | refine xP_call rfl rfl rfl (p_isPostfixType (isPost_nI (show e.2.2 < 2 ^ 31 by omega)) ?_)
      | refine xP_call rfl rfl rfl (p_isPostfixType (isPost_nI (show ty < 2 ^ 31 by omega)) ?_)
      | refine xP_if (fun hc => ?_) (fun hc => ?_)
      | refine xP_ret rfl rfl rfl ?_
    · rw [xb_cmp] at hc
      dsimp only at k
      rw [show (isPost e.2.2 == isPost ty) = false by simpa using hc] at k
      exact k
    · rw [xb_cmp] at hc
      dsimp only at k
      rw [show (isPost e.2.2 == isPost ty) = true by simpa using hc] at k
      exact k
theorem pk_lu {f : Nat → Int64} {k : Nat} {x : Int64} : vp_updL f k x k = x := if_pos rfl
theorem pk_ln {f : Nat → Int64} {k j : Nat} {x : Int64} (h : j ≠ k) : vp_updL f k x j = f j := if_neg h
set_option maxRecDepth 100000 in
theorem p_tell {sc : xSc} {d g p ty : Nat} {A : List xC} {sl : List xSl} {key : Int64} {P : xO → xH → Prop} (ho : xOp A sl) (hp : p ≤ 1200) (hty : ty ≤ 6) (k : ∀ A', xOp A' (tellS sl p ty key) → xSame A A' [7, 8, 9, 10] → P (.inl none) (A', g)) : xM1 sc (d + 2) 27 [.ref 7, .int (nI p), .int (nI ty), .long key] (A, g) P := by
  obtain ⟨fk, fp, ft, h7, h8, h9, h10, hl, hE⟩ := id ho
  have hv := fun i h => (fnd_lt ho (pre := isPre ty) (key := key) (i := i) h).1
  have h25 : (25 : Int32).toInt = 25 := rfl
  have h0 : (0 : Int32).toInt = 0 := rfl
  have hL : (nI sl.length).toInt = (sl.length : Int) := nI_toInt (by omega)
  have store : ∀ i, i < 25 → (tellS sl p ty key = sl.set i (key, p, ty) ∧ i < sl.length ∨ tellS sl p ty key = sl ++ [(key, p, ty)] ∧ i = sl.length) → ∀ x, xP sc (d + 2) 27 41 [(0, .ref 7), (1, .int (nI p)), (2, .int (nI ty)), (3, .long key), (5, .int x), (6, .int (nI i))] [] (A, g) P := by
    intro i hi hor x
    have hI : (nI i).toInt = (i : Int) := nI_toInt (by omega)
    refine xP_s rfl rfl rfl ?_
    refine xP_get rfl h7 rfl ?_
    refine xP_s rfl rfl rfl ?_
    refine xP_s rfl rfl rfl ?_
    refine xP_las rfl h8 (xib_of (by omega) (by omega)) ?_
    have h7' := xset_n7 (k := 8) (e := .inl (.long, 25, .inr (.inl (vp_updL fk (nI i).toNatClampNeg key)))) (by decide) h7
    refine xP_s rfl rfl rfl ?_
    refine xP_get rfl h7' rfl ?_
    refine xP_s rfl rfl rfl ?_
    refine xP_s rfl rfl rfl ?_
    refine xP_ias rfl (xset_n7 (by decide) h9) (xib_of (by omega) (by omega)) ?_
    have h7'' := xset_n7 (k := 9) (e := .inl (.int, 25, .inl (upd fp (nI i).toNatClampNeg (nI p)))) (by decide) h7'
    refine xP_s rfl rfl rfl ?_
    refine xP_get rfl h7'' rfl ?_
    refine xP_s rfl rfl rfl ?_
    refine xP_s rfl rfl rfl ?_
    refine xP_ias rfl (xset_n7 (by decide) (xset_n7 (by decide) h10)) (xib_of (by omega) (by omega)) ?_
    have h73 := xset_n7 (k := 10) (e := .inl (.int, 25, .inl (upd ft (nI i).toNatClampNeg (nI ty)))) (by decide) h7''
    refine xP_s rfl rfl rfl ?_
    refine xP_s rfl rfl rfl ?_
    refine xP_get rfl h73 rfl ?_
    have hcl : (nI i).toNatClampNeg = i := nI_clamp (by omega)
    rw [hcl] at h73 ⊢
    have hupd : ∀ j e, j ≠ i → sl[j]? = some e → vp_updL fk i key j = e.1 ∧ upd fp i (nI p) j = nI e.2.1 ∧ upd ft i (nI ty) j = nI e.2.2 ∧ e.2.1 ≤ 1200 ∧ e.2.2 ≤ 6 := by
      intro j e hj he
      rw [pk_ln hj, pk_un hj, pk_un hj]
      exact hE j e he
    have hself : vp_updL fk i key i = key ∧ upd fp i (nI p) i = nI p ∧ upd ft i (nI ty) i = nI ty ∧ p ≤ 1200 ∧ ty ≤ 6 := ⟨pk_lu, pk_us, pk_us, hp, hty⟩
    have h8' := xset_eq (e := .inl (.long, 25, .inr (.inl (vp_updL fk i key)))) h8
    have h9' := xset_eq (e := .inl (.int, 25, .inl (upd fp i (nI p)))) (xset_n7 (k := 8) (e := .inl (.long, 25, .inr (.inl (vp_updL fk i key)))) (by decide) h9)
    have h10' := xset_eq (e := .inl (.int, 25, .inl (upd ft i (nI ty)))) (xset_n7 (k := 9) (e := .inl (.int, 25, .inl (upd fp i (nI p)))) (by decide) (xset_n7 (k := 8) (e := .inl (.long, 25, .inr (.inl (vp_updL fk i key)))) (by decide) h10))
    refine xP_s rfl rfl rfl ?_
    refine xP_if (fun hc => ?_) (fun hc => ?_)
    · have hne := xc_t hc
      dsimp only at hne
      rcases hor with ⟨et, hlt⟩ | ⟨et, heq⟩
      · repeat' first
          | refine xP_s rfl rfl rfl ?_
          | refine xP_ret rfl rfl rfl ?_
        refine k _ ⟨vp_updL fk i key, upd fp i (nI p), upd ft i (nI ty), ?_, xset_n7 (by decide) (xset_n7 (by decide) h8'), xset_n7 (by decide) h9', h10', ?_, ?_⟩ ((((xSame.set _ _).trans (xSame.set _ _)).trans (xSame.set _ _)).wider (by decide))
        · rw [et, List.length_set]
          exact h73
        · rw [et, List.length_set]
          exact hl
        · intro j e he
          rw [et] at he
          by_cases hj : j = i
          · subst hj
            rw [List.getElem?_set_self hlt] at he
            cases he
            exact hself
          · rw [List.getElem?_set_ne (Ne.symm hj)] at he
            exact hupd j e hj he
      · omega
    · have heq := xc_f hc
      dsimp only at heq
      rcases hor with ⟨et, hlt⟩ | ⟨et, hii⟩
      · omega
      · repeat' first
          | refine xP_s rfl rfl rfl ?_
          | refine xP_get rfl h73 rfl ?_
          | refine xP_put rfl h73 (Nat.le_of_ble_eq_true rfl) rfl ?_
          | refine xP_ret rfl rfl rfl ?_
        refine k _ ⟨vp_updL fk i key, upd fp i (nI p), upd ft i (nI ty), ?_, xset_n7 (by decide) (xset_n7 (by decide) (xset_n7 (by decide) h8')), xset_n7 (by decide) (xset_n7 (by decide) h9'), xset_n7 (by decide) h10', ?_, ?_⟩ (((((xSame.set _ _).trans (xSame.set _ _)).trans (xSame.set _ _)).trans (xSame.set _ _)).wider (by decide))
        · rw [xset_eq h73, et, List.length_append, List.length_singleton, ← nI_1]
          rfl
        · rw [et]
          simp
          omega
        · intro j e he
          rw [et] at he
          by_cases hj : j = i
          · subst hj
            rw [hii] at he
            simp at he
            subst he
            exact hself
          · rw [List.getElem?_append] at he
            split at he
            · exact hupd j e hj he
            · exfalso
              have := (List.getElem?_eq_some_iff.mp he).1
              simp at this
              omega
  unfold xM1
  refine xP_s rfl rfl rfl ?_
  refine xP_s rfl rfl rfl ?_
  refine xP_call rfl rfl rfl (p_isPrefixType (isPre_nI (by omega)) ?_)
  refine xP_s rfl rfl rfl ?_
  refine xP_cv rfl rfl rfl rfl rfl h7 (p_find ho ?_)
  cases hf : fnd (isPre ty) key sl 0 with
  | none =>
    refine xP_s rfl rfl rfl ?_
    refine xP_s rfl rfl rfl ?_
    refine xP_s rfl rfl rfl ?_
    refine xP_s rfl rfl rfl ?_
    refine xP_if (fun hc => ?_) (fun hc => ?_)
    · exact absurd rfl (xc_t hc)
    · refine xP_s rfl rfl rfl ?_
      refine xP_get rfl h7 rfl ?_
      refine xP_s rfl rfl rfl ?_
      refine xP_s rfl rfl rfl ?_
      refine xP_s rfl rfl rfl ?_
      refine xP_s rfl rfl rfl ?_
      refine xP_if (fun hc => ?_) (fun hc => ?_)
      · have := xc_t hc
        dsimp only at this
        omega
      · refine xP_s rfl rfl rfl ?_
        refine xP_s rfl rfl rfl ?_
        refine xP_s rfl rfl rfl ?_
        refine xP_if (fun hc => ?_) (fun hc => ?_)
        · have := xc_t hc
          dsimp only at this
          exact store sl.length (by omega) (Or.inr ⟨by unfold tellS; rw [hf]; dsimp only; rw [if_pos (by omega)], rfl⟩) _
        · have := xc_f hc
          dsimp only at this
          repeat' first
            | refine xP_s rfl rfl rfl ?_
            | refine xP_ret rfl rfl rfl ?_
          refine k A ?_ (xSame.refl _ _)
          unfold tellS
          rw [hf]
          dsimp only
          rw [if_neg (by omega)]
          exact ho
  | some i =>
    have hi := hv i hf
    have hI : (nI i).toInt = (i : Int) := nI_toInt (by omega)
    refine xP_s rfl rfl rfl ?_
    refine xP_s rfl rfl rfl ?_
    refine xP_s rfl rfl rfl ?_
    refine xP_s rfl rfl rfl ?_
    refine xP_if (fun hc => ?_) (fun hc => ?_)
    · refine xP_s rfl rfl rfl ?_
      refine xP_s rfl rfl rfl ?_
      refine xP_s rfl rfl rfl ?_
      refine xP_s rfl rfl rfl ?_
      refine xP_if (fun hc => ?_) (fun hc => ?_)
      · have := xc_t hc
        dsimp only [sI] at this
        omega
      · refine xP_s rfl rfl rfl ?_
        refine xP_s rfl rfl rfl ?_
        refine xP_s rfl rfl rfl ?_
        refine xP_if (fun hc => ?_) (fun hc => ?_)
        · exact store i (by omega) (Or.inl ⟨by unfold tellS; rw [hf], hi⟩) _
        · have := xc_f hc
          dsimp only [sI] at this
          omega
    · have := xc_f hc
      dsimp only [sI] at this
      have hm : (-1 : Int32).toInt = -1 := rfl
      omega
set_option maxRecDepth 100000 in
theorem p_takeBack {sc : xSc} {d g ty : Nat} {A : List xC} {sl : List xSl} {key : Int64} {P : xO → xH → Prop} (ho : xOp A sl) (hty : ty ≤ 6) (k : ∀ A', xOp A' (takeS sl ty key) → xSame A A' [7, 8, 9, 10] → P (.inl none) (A', g)) : xM1 sc (d + 2) 28 [.ref 7, .int (nI ty), .long key] (A, g) P := by
  obtain ⟨fk, fp, ft, h7, h8, h9, h10, hl, hE⟩ := id ho
  have hv := fun i h => (fnd_lt ho (pre := isPre ty) (key := key) (i := i) h).1
  have hL : (nI sl.length).toInt = (sl.length : Int) := nI_toInt (by omega)
  unfold xM1
  refine xP_s rfl rfl rfl ?_
  refine xP_s rfl rfl rfl ?_
  refine xP_call rfl rfl rfl (p_isPrefixType (isPre_nI (by omega)) ?_)
  refine xP_s rfl rfl rfl ?_
  refine xP_cv rfl rfl rfl rfl rfl h7 (p_find ho ?_)
  refine xP_s rfl rfl rfl ?_
  refine xP_s rfl rfl rfl ?_
  refine xP_get rfl h7 rfl ?_
  refine xP_s rfl rfl rfl ?_
  refine xP_s rfl rfl rfl ?_
  refine xP_s rfl rfl rfl ?_
  refine xP_s rfl rfl rfl ?_
  refine xP_s rfl rfl rfl ?_
  refine xP_cv rfl rfl rfl rfl rfl h7 (p_isSlot ho (slV ho hv) ?_)
  unfold takeS at k
  cases hf : fnd (isPre ty) key sl 0 with
  | none =>
    rw [hf] at k
    repeat' first
      | refine xP_s rfl rfl rfl ?_
      | refine xP_ret rfl rfl rfl ?_
    exact k A ho (xSame.refl _ _)
  | some i =>
    have hi := hv i hf
    obtain ⟨j, hj⟩ : ∃ j, sl.length = j + 1 := ⟨sl.length - 1, by omega⟩
    obtain ⟨e, he⟩ : ∃ e, sl[j]? = some e := ⟨sl[j]'(by omega), List.getElem?_eq_getElem (by omega)⟩
    have hI : (nI i).toInt = (i : Int) := nI_toInt (by omega)
    have hJ : (nI j).toInt = (j : Int) := nI_toInt (by omega)
    have hci : (nI i).toNatClampNeg = i := nI_clamp (by omega)
    have hcj : (nI j).toNatClampNeg = j := nI_clamp (by omega)
    have hq : (slE sl (some i)).isSome = true := by
      show (sl[i]?).isSome = true
      rw [List.getElem?_eq_getElem hi]
      rfl
    have hlast : nI sl.length - 1 = nI j := by
      apply Int32.toInt_inj.mp
      rw [nI_sub1 (by omega), hJ]
      omega
    have hlj : sl.length - 1 = j := by omega
    rw [hf, hlj] at k
    dsimp only at k
    rw [he] at k
    dsimp only at k
    rw [hq, hlast]
    refine xP_s rfl rfl rfl ?_
    refine xP_s rfl rfl rfl ?_
    refine xP_s rfl rfl rfl ?_
    refine xP_cv rfl rfl rfl rfl rfl h7 (p_isSlot ho (b := true) (by simp only [true_iff]; omega) ?_)
    obtain ⟨q1, q2, q3, q4⟩ := hE j e he
    refine xP_s rfl rfl rfl ?_
    refine xP_s rfl rfl rfl ?_
    refine xP_get rfl h7 rfl ?_
    refine xP_s rfl rfl rfl ?_
    refine xP_s rfl rfl rfl ?_
    refine xP_get rfl h7 rfl ?_
    refine xP_s rfl rfl rfl ?_
    refine xP_lal rfl h8 (xib_of (by omega) (by omega)) ?_
    refine xP_las rfl h8 (xib_of (by show 0 ≤ (nI i).toInt; omega) (by show (nI i).toInt < _; omega)) ?_
    rw [show Int32.toNatClampNeg (sI (some i)) = i from hci, hcj, q1]
    have a7 := xset_n7 (k := 8) (e := .inl (.long, 25, .inr (.inl (vp_updL fk i e.1)))) (by decide) h7
    have a9 := xset_n7 (k := 8) (e := .inl (.long, 25, .inr (.inl (vp_updL fk i e.1)))) (by decide) h9
    have a10 := xset_n7 (k := 8) (e := .inl (.long, 25, .inr (.inl (vp_updL fk i e.1)))) (by decide) h10
    have a8 := xset_eq (e := .inl (.long, 25, .inr (.inl (vp_updL fk i e.1)))) h8
    refine xP_s rfl rfl rfl ?_
    refine xP_get rfl a7 rfl ?_
    refine xP_s rfl rfl rfl ?_
    refine xP_s rfl rfl rfl ?_
    refine xP_get rfl a7 rfl ?_
    refine xP_s rfl rfl rfl ?_
    refine xP_ial rfl a9 (by decide) (xib_of (by omega) (by omega)) ?_
    refine xP_ias rfl a9 (xib_of (by show 0 ≤ (nI i).toInt; omega) (by show (nI i).toInt < _; omega)) ?_
    rw [show Int32.toNatClampNeg (sI (some i)) = i from hci, hcj, q2]
    have b7 := xset_n7 (k := 9) (e := .inl (.int, 25, .inl (upd fp i (nI e.2.1)))) (by decide) a7
    have b8 := xset_n7 (k := 9) (e := .inl (.int, 25, .inl (upd fp i (nI e.2.1)))) (by decide) a8
    have b10 := xset_n7 (k := 9) (e := .inl (.int, 25, .inl (upd fp i (nI e.2.1)))) (by decide) a10
    have b9 := xset_eq (e := .inl (.int, 25, .inl (upd fp i (nI e.2.1)))) a9
    refine xP_s rfl rfl rfl ?_
    refine xP_get rfl b7 rfl ?_
    refine xP_s rfl rfl rfl ?_
    refine xP_s rfl rfl rfl ?_
    refine xP_get rfl b7 rfl ?_
    refine xP_s rfl rfl rfl ?_
    refine xP_ial rfl b10 (by decide) (xib_of (by omega) (by omega)) ?_
    refine xP_ias rfl b10 (xib_of (by show 0 ≤ (nI i).toInt; omega) (by show (nI i).toInt < _; omega)) ?_
    rw [show Int32.toNatClampNeg (sI (some i)) = i from hci, hcj, q3]
    have c7 := xset_n7 (k := 10) (e := .inl (.int, 25, .inl (upd ft i (nI e.2.2)))) (by decide) b7
    have c8 := xset_n7 (k := 10) (e := .inl (.int, 25, .inl (upd ft i (nI e.2.2)))) (by decide) b8
    have c9 := xset_n7 (k := 10) (e := .inl (.int, 25, .inl (upd ft i (nI e.2.2)))) (by decide) b9
    have c10 := xset_eq (e := .inl (.int, 25, .inl (upd ft i (nI e.2.2)))) b10
    repeat' first
      | refine xP_s rfl rfl rfl ?_
      | refine xP_get rfl c7 rfl ?_
      | refine xP_put rfl c7 (Nat.le_of_ble_eq_true rfl) rfl ?_
      | refine xP_ret rfl rfl rfl ?_
    refine k _ ⟨vp_updL fk i e.1, upd fp i (nI e.2.1), upd ft i (nI e.2.2), ?_, xset_n7 (by decide) c8, xset_n7 (by decide) c9, xset_n7 (by decide) c10, ?_, ?_⟩ (((((xSame.set _ _).trans (xSame.set _ _)).trans (xSame.set _ _)).trans (xSame.set _ _)).wider (by decide))
    · rw [xset_eq c7, List.length_dropLast, List.length_set, hlj]
      rfl
    · rw [List.length_dropLast, List.length_set]
      omega
    · intro z e' hz
      have hzl := (List.getElem?_eq_some_iff.mp hz).1
      rw [List.length_dropLast, List.length_set] at hzl
      rw [List.getElem?_dropLast, List.length_set, if_pos (by omega)] at hz
      by_cases hzi : z = i
      · subst hzi
        rw [List.getElem?_set_self hi] at hz
        cases hz
        rw [pk_lu, pk_us, pk_us]
        exact ⟨rfl, rfl, rfl, q4⟩
      · rw [List.getElem?_set_ne (Ne.symm hzi)] at hz
        rw [pk_ln hzi, pk_un hzi, pk_un hzi]
        exact hE z e' hz
