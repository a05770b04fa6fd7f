-- Parts: chains, names, what is added
/-- kind, value, name, number of arguments -/
abbrev xIt : Type := Nat × Int × List Nat × Nat
def nmAt (nm : List Nat) (z : Nat) (l : List Nat) : Prop := z + l.length ≤ nm.length ∧ ∀ i c, l[i]? = some c → nm[z + i]? = some c
theorem nmAt.more {nm r l : List Nat} {z : Nat} (h : nmAt nm z l) : nmAt (nm ++ r) z l := by
  refine ⟨by simp; have := h.1; omega, fun i c hi => ?_⟩
  have h1 := h.2 i c hi
  rw [List.getElem?_append_left (List.getElem?_eq_some_iff.mp h1).1]
  exact h1
/-- a chain of k parts below n -/
def xCn (F : xF) (n : Nat) : Int32 → Nat → Prop
  | x, 0 => x = -1
  | x, k + 1 => ∃ j, j < n ∧ x = nI j ∧ xCn F n (F.2.2.2.2.1 j) k
/-- with their greatest depth -/
def xCd (F : xF) (n : Nat) : Int32 → Nat → Nat → Prop
  | x, 0, m => x = -1 ∧ m = 0
  | x, k + 1, m => ∃ j D m', j < n ∧ x = nI j ∧ F.2.2.2.2.2 j = nI D ∧ D ≤ 14 ∧ m = max D m' ∧ xCd F n (F.2.2.2.2.1 j) k m'
theorem xCd.le {F : xF} {n : Nat} : ∀ {k : Nat} {x : Int32} {m : Nat}, xCd F n x k m → m ≤ 14
  | 0, x, m, h => by have := h.2; omega
  | k + 1, x, m, h => by
    obtain ⟨j, D, m', _, _, _, h4, h5, h6⟩ := h
    have := xCd.le h6
    omega
theorem nI_neg1 {j : Nat} (h : j < 2 ^ 31) : ¬ (nI j).toInt = (-1 : Int32).toInt := by
  rw [nI_toInt h]
  show ¬ (j : Int) = -1
  omega
set_option maxRecDepth 100000 in
theorem p_arityLoop {sc : xSc} {d g n : Nat} {A : List xC} {F : xF} {P : xO → xH → Prop} (hp : xPt A n F) {y : Int32} : ∀ (k i : Nat) (x : Int32), i + k ≤ 6 → xCn F n x k → P (.inl (some (.int (nI (i + k))))) (A, g) →
    xP sc (d + 2) 70 11 [(0, .ref 11), (1, .int y), (2, .int (nI i)), (3, .int x), (4, .int (nI i))] [] (A, g) P
  | 0, i, x, hi, hx, k => by
    have h6 : (6 : Int32).toInt = 6 := rfl
    have hI : (nI i).toInt = (i : Int) := nI_toInt (by omega)
    have hx : x = -1 := hx
    subst hx
    refine xP_s rfl rfl rfl ?_
    refine xP_s rfl rfl rfl ?_
    refine xP_s rfl rfl rfl ?_
    refine xP_if (fun hc => ?_) (fun hc => ?_)
    · repeat' first
        | refine xP_s rfl rfl rfl ?_
        | refine xP_ret rfl rfl rfl ?_
      exact k
    · refine xP_s rfl rfl rfl ?_
      refine xP_s rfl rfl rfl ?_
      refine xP_s rfl rfl rfl ?_
      refine xP_if (fun hc => ?_) (fun hc => ?_)
      · repeat' first
          | refine xP_s rfl rfl rfl ?_
          | refine xP_ret rfl rfl rfl ?_
        exact k
      · exact absurd rfl (xc_f hc)
  | m + 1, i, x, hi, hx, k => by
    obtain ⟨j, hj, hxj, hch⟩ := hx
    have h11 := hp.2.1
    have hn := hp.1
    have h6 : (6 : Int32).toInt = 6 := rfl
    have hI : (nI i).toInt = (i : Int) := nI_toInt (by omega)
    have go := p_arityLoop (sc := sc) (d := d) (g := g) (P := P) hp (y := y) m (i + 1) _ (by omega) hch (by rw [show i + 1 + m = i + (m + 1) by omega]; exact k)
    rw [← nI_1] at go
    subst hxj
    refine xP_s rfl rfl rfl ?_
    refine xP_s rfl rfl rfl ?_
    refine xP_s rfl rfl rfl ?_
    refine xP_if (fun hc => ?_) (fun hc => ?_)
    · have := xc_t hc
      dsimp only at this
      omega
    · refine xP_s rfl rfl rfl ?_
      refine xP_s rfl rfl rfl ?_
      refine xP_s rfl rfl rfl ?_
      refine xP_if (fun hc => ?_) (fun hc => ?_)
      · exact absurd (xc_t hc) (nI_neg1 (by omega))
      · repeat' first
          | exact go
          | refine xP_s rfl rfl rfl ?_
          | refine xP_cv rfl rfl rfl rfl rfl h11 (p_next hp (o := some j) (fun i h => Option.some.inj h ▸ hj) ?_)
set_option maxRecDepth 100000 in
theorem p_arity {sc : xSc} {d g n j k : Nat} {A : List xC} {F : xF} {P : xO → xH → Prop} (hp : xPt A n F) (hj : j < n) (hk : k ≤ 6) (hc : xCn F n (F.2.2.2.1 j) k) (kk : P (.inl (some (.int (nI k)))) (A, g)) : xM1 sc (d + 2) 70 [.ref 11, .int (nI j)] (A, g) P := by
  have h11 := hp.2.1
  have loop := p_arityLoop (sc := sc) (d := d) (g := g) (P := P) hp (y := nI j) k 0 _ (by omega) hc (by rw [Nat.zero_add]; exact kk)
  unfold xM1
  repeat' first
    | exact loop
    | refine xP_s rfl rfl rfl ?_
    | refine xP_cv rfl rfl rfl rfl rfl h11 (p_first hp (o := some j) (fun i h => Option.some.inj h ▸ hj) ?_)
/-- the node of a part -/
def ndK (F : xF) (nm : List Nat) (j : Nat) (p : xIt) : Prop := F.1 j = nI p.1 ∧ p.1 ≤ 3 ∧ (p.1 < 2 → (F.2.1 j).toInt = p.2.1) ∧ (2 ≤ p.1 → ∃ z, F.2.1 j = nI z ∧ F.2.2.1 j = nI p.2.2.1.length ∧ nmAt nm z p.2.2.1)
/-- the key of a part -/
def kP (p : xIt) : Int64 := if p.1 < 2 then 0 else kL p.2.2.1
set_option maxRecDepth 100000 in
theorem p_key {sc : xSc} {d g n j : Nat} {A : List xC} {F : xF} {nm : List Nat} {p : xIt} {P : xO → xH → Prop} (hp : xPt A n F) (hn : xRw A 5 4926 nm) (hj : j < n) (hd : ndK F nm j p) (k : P (.inl (some (.long (kP p)))) (A, g)) : xM1 sc (d + 2) 69 [.ref 11, .int (nI j)] (A, g) P := by
  have h11 := hp.2.1
  have h2 : (2 : Int32).toInt = 2 := rfl
  have h3 : (3 : Int32).toInt = 3 := rfl
  obtain ⟨q1, q2, q3, q4⟩ := hd
  have hK : (nI p.1).toInt = (p.1 : Int) := nI_toInt (by omega)
  have hv : ∀ i, (some j) = some i → i < n := fun i h => by cases h; exact hj
  unfold kP at k
  by_cases hlt : p.1 < 2
  · rw [if_pos hlt] at k
    unfold xM1
    refine xP_s rfl rfl rfl ?_
    refine xP_s rfl rfl rfl ?_
    refine xP_cv rfl rfl rfl rfl rfl h11 (p_kind (o := some j) hp hv ?_)
    rw [show ptG F.1 (-1) (some j) = nI p.1 from q1]
    refine xP_s rfl rfl rfl ?_
    refine xP_s rfl rfl rfl ?_
    refine xP_s rfl rfl rfl ?_
    refine xP_s rfl rfl rfl ?_
    refine xP_if (fun hc => ?_) (fun hc => ?_)
    · have := xc_t hc
      dsimp only at this
      omega
    · refine xP_s rfl rfl rfl ?_
      refine xP_s rfl rfl rfl ?_
      refine xP_s rfl rfl rfl ?_
      refine xP_if (fun hc => ?_) (fun hc => ?_)
      · repeat' first
          | refine xP_s rfl rfl rfl ?_
          | refine xP_ret rfl rfl rfl ?_
        exact k
      · have := xc_f hc
        dsimp only at this
        omega
  · rw [if_neg hlt] at k
    obtain ⟨z, z1, z2, z3⟩ := q4 (by omega)
    have tail : ∀ x, xP sc (d + 2) 69 16 [(0, .ref 11), (1, .int (nI j)), (2, .int x)] [] (A, g) P := by
      intro x
      refine xP_s rfl rfl rfl ?_
      refine xP_get rfl h11 rfl ?_
      refine xP_s rfl rfl rfl ?_
      refine xP_s rfl rfl rfl ?_
      refine xP_cv rfl rfl rfl rfl rfl h11 (p_value (o := some j) hp hv ?_)
      rw [show ptG F.2.1 0 (some j) = nI z from z1]
      refine xP_s rfl rfl rfl ?_
      refine xP_s rfl rfl rfl ?_
      refine xP_cv rfl rfl rfl rfl rfl h11 (p_nameSize (o := some j) hp hv ?_)
      rw [show ptG F.2.2.1 0 (some j) = nI p.2.2.1.length from z2]
      refine xP_call rfl rfl rfl (p_ofRow hn (by decide) (by decide) rfl z3.1 z3.2 ?_)
      repeat' first
        | refine xP_s rfl rfl rfl ?_
        | refine xP_ret rfl rfl rfl ?_
      exact k
    unfold xM1
    refine xP_s rfl rfl rfl ?_
    refine xP_s rfl rfl rfl ?_
    refine xP_cv rfl rfl rfl rfl rfl h11 (p_kind (o := some j) hp hv ?_)
    rw [show ptG F.1 (-1) (some j) = nI p.1 from q1]
    refine xP_s rfl rfl rfl ?_
    refine xP_s rfl rfl rfl ?_
    refine xP_s rfl rfl rfl ?_
    refine xP_s rfl rfl rfl ?_
    refine xP_if (fun hc => ?_) (fun hc => ?_)
    · exact tail _
    · have t1 := xc_f hc
      dsimp only at t1
      refine xP_s rfl rfl rfl ?_
      refine xP_s rfl rfl rfl ?_
      refine xP_s rfl rfl rfl ?_
      refine xP_if (fun hc => ?_) (fun hc => ?_)
      · have t2 := xc_t hc
        dsimp only at t2
        omega
      · exact tail _
theorem lgc0 (x y : Int64) : (lg_cmp x y).toInt = 0 ↔ x = y := by
  rw [← lg_cmp_eq, show (0 : Int) = (0 : Int32).toInt from rfl, Int32.toInt_inj]
def isNilP (p : xIt) : Bool := decide (p.1 = 2) && decide (kP p = 23899)
def isDotP (p : xIt) : Bool := decide (p.1 = 3) && (decide (kP p = 46) && decide (p.2.2.2 = 2))
def isBrcP (p : xIt) : Bool := decide (p.1 = 3) && (decide (kP p = 32123) && decide (p.2.2.2 = 1))
set_option maxRecDepth 100000 in
theorem p_isNil {sc : xSc} {d g n j : Nat} {A : List xC} {F : xF} {nm : List Nat} {p : xIt} {P : xO → xH → Prop} (hp : xPt A n F) (hn : xRw A 5 4926 nm) (hj : j < n) (hd : ndK F nm j p) (k : P (.inl (some (.int (xb (isNilP p))))) (A, g)) : xM1 sc (d + 3) 71 [.ref 11, .int (nI j)] (A, g) P := by
  have h11 := hp.2.1
  have h2 : (2 : Int32).toInt = 2 := rfl
  have h0 : (0 : Int32).toInt = 0 := rfl
  have q1 := hd.1
  have q2 := hd.2.1
  have hK : (nI p.1).toInt = (p.1 : Int) := nI_toInt (by omega)
  have hv : ∀ i, (some j) = some i → i < n := fun i h => by cases h; exact hj
  obtain ⟨z, hz⟩ : ∃ z : Nat, z = 1 ↔ kP p = 23899 := ⟨if kP p = 23899 then 1 else 0, by split <;> simp_all⟩
  have hlg := lgc0 (kP p) 23899
  rw [← hz] at hlg
  have hb : isNilP p = true ↔ p.1 = 2 ∧ z = 1 := by simp only [isNilP, Bool.and_eq_true, decide_eq_true_eq, hz]
  unfold xM1
  refine xP_s rfl rfl rfl ?_
  refine xP_s rfl rfl rfl ?_
  refine xP_cv rfl rfl rfl rfl rfl h11 (p_kind (o := some j) hp hv ?_)
  rw [show ptG F.1 (-1) (some j) = nI p.1 from q1]
  repeat' first
    | refine xP_s rfl rfl rfl ?_
    | refine xP_cv rfl rfl rfl rfl rfl h11 (p_key hp hn hj hd ?_)
    | refine xP_if (fun hc => ?_) (fun hc => ?_)
    | refine xP_ret rfl rfl rfl ?_
  all_goals
    (try simp only [xc_i, decide_eq_true_eq, decide_eq_false_iff_not] at *)
  all_goals first
    | (rw [show (isNilP p) = true from hb.mpr (by omega)] at k; exact k)
    | (rw [show (isNilP p) = false from Bool.not_eq_true _ ▸ fun q => absurd (hb.mp q) (by omega)] at k; exact k)
set_option maxRecDepth 100000 in
theorem p_isList {sc : xSc} {d g n j : Nat} {A : List xC} {F : xF} {nm : List Nat} {p : xIt} {P : xO → xH → Prop} (hp : xPt A n F) (hn : xRw A 5 4926 nm) (hj : j < n) (hd : ndK F nm j p) (ha : p.2.2.2 ≤ 6) (hc : xCn F n (F.2.2.2.1 j) p.2.2.2) (k : P (.inl (some (.int (xb (isDotP p))))) (A, g)) : xM1 sc (d + 3) 72 [.ref 11, .int (nI j)] (A, g) P := by
  have h11 := hp.2.1
  have h2 : (2 : Int32).toInt = 2 := rfl
  have h3 : (3 : Int32).toInt = 3 := rfl
  have h0 : (0 : Int32).toInt = 0 := rfl
  have q1 := hd.1
  have q2 := hd.2.1
  have hK : (nI p.1).toInt = (p.1 : Int) := nI_toInt (by omega)
  have hR : (nI p.2.2.2).toInt = (p.2.2.2 : Int) := nI_toInt (by omega)
  have hv : ∀ i, (some j) = some i → i < n := fun i h => by cases h; exact hj
  obtain ⟨z, hz⟩ : ∃ z : Nat, z = 1 ↔ kP p = 46 := ⟨if kP p = 46 then 1 else 0, by split <;> simp_all⟩
  have hlg := lgc0 (kP p) 46
  rw [← hz] at hlg
  have hb : isDotP p = true ↔ p.1 = 3 ∧ z = 1 ∧ p.2.2.2 = 2 := by simp only [isDotP, Bool.and_eq_true, decide_eq_true_eq, hz]
  have ar := fun {P' : xO → xH → Prop} (kk : P' (.inl (some (.int (nI p.2.2.2)))) (A, g)) => p_arity (sc := sc) (d := d) hp hj ha hc kk
  clear hc
  unfold xM1
  refine xP_s rfl rfl rfl ?_
  refine xP_s rfl rfl rfl ?_
  refine xP_cv rfl rfl rfl rfl rfl h11 (p_kind (o := some j) hp hv ?_)
  rw [show ptG F.1 (-1) (some j) = nI p.1 from q1]
  repeat' first
    | refine xP_s rfl rfl rfl ?_
    | refine xP_cv rfl rfl rfl rfl rfl h11 (p_key hp hn hj hd ?_)
    | refine xP_cv rfl rfl rfl rfl rfl h11 (ar ?_)
    | refine xP_if (fun hc => ?_) (fun hc => ?_)
    | refine xP_ret rfl rfl rfl ?_
  all_goals
    (try simp only [xc_i, decide_eq_true_eq, decide_eq_false_iff_not] at *)
  all_goals first
    | (rw [show (isDotP p) = true from hb.mpr (by omega)] at k; exact k)
    | (rw [show (isDotP p) = false from Bool.not_eq_true _ ▸ fun q => absurd (hb.mp q) (by omega)] at k; exact k)
set_option maxRecDepth 100000 in
theorem p_isBraces {sc : xSc} {d g n j : Nat} {A : List xC} {F : xF} {nm : List Nat} {p : xIt} {P : xO → xH → Prop} (hp : xPt A n F) (hn : xRw A 5 4926 nm) (hj : j < n) (hd : ndK F nm j p) (ha : p.2.2.2 ≤ 6) (hc : xCn F n (F.2.2.2.1 j) p.2.2.2) (k : P (.inl (some (.int (xb (isBrcP p))))) (A, g)) : xM1 sc (d + 3) 73 [.ref 11, .int (nI j)] (A, g) P := by
  have h11 := hp.2.1
  have h1 : (1 : Int32).toInt = 1 := rfl
  have h3 : (3 : Int32).toInt = 3 := rfl
  have h0 : (0 : Int32).toInt = 0 := rfl
  have q1 := hd.1
  have q2 := hd.2.1
  have hK : (nI p.1).toInt = (p.1 : Int) := nI_toInt (by omega)
  have hR : (nI p.2.2.2).toInt = (p.2.2.2 : Int) := nI_toInt (by omega)
  have hv : ∀ i, (some j) = some i → i < n := fun i h => by cases h; exact hj
  obtain ⟨z, hz⟩ : ∃ z : Nat, z = 1 ↔ kP p = 32123 := ⟨if kP p = 32123 then 1 else 0, by split <;> simp_all⟩
  have hlg := lgc0 (kP p) 32123
  rw [← hz] at hlg
  have hb : isBrcP p = true ↔ p.1 = 3 ∧ z = 1 ∧ p.2.2.2 = 1 := by simp only [isBrcP, Bool.and_eq_true, decide_eq_true_eq, hz]
  have ar := fun {P' : xO → xH → Prop} (kk : P' (.inl (some (.int (nI p.2.2.2)))) (A, g)) => p_arity (sc := sc) (d := d) hp hj ha hc kk
  clear hc
  unfold xM1
  refine xP_s rfl rfl rfl ?_
  refine xP_s rfl rfl rfl ?_
  refine xP_cv rfl rfl rfl rfl rfl h11 (p_kind (o := some j) hp hv ?_)
  rw [show ptG F.1 (-1) (some j) = nI p.1 from q1]
  repeat' first
    | refine xP_s rfl rfl rfl ?_
    | refine xP_cv rfl rfl rfl rfl rfl h11 (p_key hp hn hj hd ?_)
    | refine xP_cv rfl rfl rfl rfl rfl h11 (ar ?_)
    | refine xP_if (fun hc => ?_) (fun hc => ?_)
    | refine xP_ret rfl rfl rfl ?_
  all_goals
    (try simp only [xc_i, decide_eq_true_eq, decide_eq_false_iff_not] at *)
  all_goals first
    | (rw [show (isBrcP p) = true from hb.mpr (by omega)] at k; exact k)
    | (rw [show (isBrcP p) = false from Bool.not_eq_true _ ▸ fun q => absurd (hb.mp q) (by omega)] at k; exact k)
abbrev xAdd (F : xF) (n : Nat) (x1 x2 x3 x4 x5 : Int32) : xF := (upd F.1 n x1, upd F.2.1 n x2, upd F.2.2.1 n x3, upd F.2.2.2.1 n x4, upd F.2.2.2.2.1 n (-1), upd F.2.2.2.2.2 n x5)
set_option maxRecDepth 100000 in
theorem p_addVariable {sc : xSc} {d g n : Nat} {A : List xC} {F : xF} {x : Int32} {P : xO → xH → Prop} (hp : xPt A n F) (k0 : n = 840 → P (.inl (some (.int (-1)))) (A, g))
    (k : n < 840 → ∀ A', xPt A' (n + 1) (xAdd F n 0 x 0 (-1) 1) → xSame A A' [11, 12, 13, 14, 15, 16, 17] → P (.inl (some (.int (nI n)))) (A', g)) : xM1 sc (d + 1) 75 [.ref 11, .int x] (A, g) P := by
  have h11 := hp.2.1
  unfold xM1
  refine xP_s rfl rfl rfl ?_
  refine xP_s rfl rfl rfl ?_
  refine xP_s rfl rfl rfl ?_
  refine xP_s rfl rfl rfl ?_
  refine xP_s rfl rfl rfl ?_
  refine xP_s rfl rfl rfl ?_
  refine xP_cv rfl rfl rfl rfl rfl h11 (p_partsAdd hp (fun hz => ?_) (fun hz A' h1 h2 => ?_))
  · repeat' first
      | refine xP_s rfl rfl rfl ?_
      | refine xP_ret rfl rfl rfl ?_
    exact k0 hz
  · repeat' first
      | refine xP_s rfl rfl rfl ?_
      | refine xP_ret rfl rfl rfl ?_
    exact k hz A' h1 h2
set_option maxRecDepth 100000 in
theorem p_addInteger {sc : xSc} {d g n : Nat} {A : List xC} {F : xF} {x : Int32} {P : xO → xH → Prop} (hp : xPt A n F) (k0 : n = 840 → P (.inl (some (.int (-1)))) (A, g))
    (k : n < 840 → ∀ A', xPt A' (n + 1) (xAdd F n 1 x 0 (-1) 1) → xSame A A' [11, 12, 13, 14, 15, 16, 17] → P (.inl (some (.int (nI n)))) (A', g)) : xM1 sc (d + 1) 76 [.ref 11, .int x] (A, g) P := by
  have h11 := hp.2.1
  unfold xM1
  refine xP_s rfl rfl rfl ?_
  refine xP_s rfl rfl rfl ?_
  refine xP_s rfl rfl rfl ?_
  refine xP_s rfl rfl rfl ?_
  refine xP_s rfl rfl rfl ?_
  refine xP_s rfl rfl rfl ?_
  refine xP_cv rfl rfl rfl rfl rfl h11 (p_partsAdd hp (fun hz => ?_) (fun hz A' h1 h2 => ?_))
  · repeat' first
      | refine xP_s rfl rfl rfl ?_
      | refine xP_ret rfl rfl rfl ?_
    exact k0 hz
  · repeat' first
      | refine xP_s rfl rfl rfl ?_
      | refine xP_ret rfl rfl rfl ?_
    exact k hz A' h1 h2
set_option maxRecDepth 100000 in
theorem p_addAtom {sc : xSc} {d g n : Nat} {A : List xC} {F : xF} {x y : Int32} {P : xO → xH → Prop} (hp : xPt A n F) (k0 : n = 840 → P (.inl (some (.int (-1)))) (A, g))
    (k : n < 840 → ∀ A', xPt A' (n + 1) (xAdd F n 2 x y (-1) 1) → xSame A A' [11, 12, 13, 14, 15, 16, 17] → P (.inl (some (.int (nI n)))) (A', g)) : xM1 sc (d + 1) 77 [.ref 11, .int x, .int y] (A, g) P := by
  have h11 := hp.2.1
  unfold xM1
  refine xP_s rfl rfl rfl ?_
  refine xP_s rfl rfl rfl ?_
  refine xP_s rfl rfl rfl ?_
  refine xP_s rfl rfl rfl ?_
  refine xP_s rfl rfl rfl ?_
  refine xP_s rfl rfl rfl ?_
  refine xP_cv rfl rfl rfl rfl rfl h11 (p_partsAdd hp (fun hz => ?_) (fun hz A' h1 h2 => ?_))
  · repeat' first
      | refine xP_s rfl rfl rfl ?_
      | refine xP_ret rfl rfl rfl ?_
    exact k0 hz
  · repeat' first
      | refine xP_s rfl rfl rfl ?_
      | refine xP_ret rfl rfl rfl ?_
    exact k hz A' h1 h2
set_option maxRecDepth 100000 in
theorem p_addCompoundLoop {sc : xSc} {d g n : Nat} {A : List xC} {F : xF} {y z w : Int32} {P : xO → xH → Prop} (hp : xPt A n F) : ∀ (k i : Nat) (x : Int32) (m0 m : Nat), i + k ≤ 6 → m0 ≤ 14 → xCd F n x k m → (∀ x' i', xP sc (d + 2) 78 49 [(0, .ref 11), (1, .int y), (2, .int z), (3, .int w), (4, .int (nI (max m0 m))), (5, .int x'), (6, .int i')] [] (A, g) P) →
    xP sc (d + 2) 78 9 [(0, .ref 11), (1, .int y), (2, .int z), (3, .int w), (4, .int (nI m0)), (5, .int x), (6, .int (nI i))] [] (A, g) P
  | 0, i, x, m0, m, hi, hm0, hx, k => by
    have h6 : (6 : Int32).toInt = 6 := rfl
    have hI : (nI i).toInt = (i : Int) := nI_toInt (by omega)
    obtain ⟨hx, hm⟩ := hx
    subst hx
    subst hm
    rw [Nat.max_eq_left (Nat.zero_le _)] at k
    refine xP_s rfl rfl rfl ?_
    refine xP_s rfl rfl rfl ?_
    refine xP_s rfl rfl rfl ?_
    refine xP_if (fun hc => ?_) (fun hc => ?_)
    · exact k _ _
    · refine xP_s rfl rfl rfl ?_
      refine xP_s rfl rfl rfl ?_
      refine xP_s rfl rfl rfl ?_
      refine xP_if (fun hc => ?_) (fun hc => ?_)
      · exact k _ _
      · exact absurd rfl (xc_f hc)
  | kk + 1, i, x, m0, m, hi, hm0, hx, k => by
    obtain ⟨j, D, m', hj, hxj, hD, hD2, hm, hch⟩ := hx
    have h11 := hp.2.1
    have hn := hp.1
    have h6 : (6 : Int32).toInt = 6 := rfl
    have hI : (nI i).toInt = (i : Int) := nI_toInt (by omega)
    have hm' := hch.le
    have go := p_addCompoundLoop (sc := sc) (d := d) (g := g) (P := P) (y := y) (z := z) (w := w) hp kk (i + 1) _ (max m0 D) m' (by omega) (by omega) hch (by rw [show max (max m0 D) m' = max m0 m by rw [hm]; omega]; exact k)
    have hmx : (if nI m0 < nI D then nI D else nI m0) = nI (max m0 D) := by
      by_cases hlt : m0 < D
      · rw [if_pos ((nI_ltI (by omega) (by omega)).mpr hlt), Nat.max_eq_right (by omega)]
      · rw [if_neg (fun q => hlt ((nI_ltI (by omega) (by omega)).mp q)), Nat.max_eq_left (by omega)]
    rw [← nI_1, ← hmx] at go
    subst hxj
    refine xP_s rfl rfl rfl ?_
    refine xP_s rfl rfl rfl ?_
    refine xP_s rfl rfl rfl ?_
    refine xP_if (fun hc => ?_) (fun hc => ?_)
    · have := xc_t hc
      dsimp only at this
      omega
    · refine xP_s rfl rfl rfl ?_
      refine xP_s rfl rfl rfl ?_
      refine xP_s rfl rfl rfl ?_
      refine xP_if (fun hc => ?_) (fun hc => ?_)
      · exact absurd (xc_t hc) (nI_neg1 (by omega))
      · refine xP_s rfl rfl rfl ?_
        refine xP_s rfl rfl rfl ?_
        refine xP_s rfl rfl rfl ?_
        refine xP_cv rfl rfl rfl rfl rfl h11 (p_depth hp (o := some j) (fun i h => Option.some.inj h ▸ hj) ?_)
        rw [show ptG F.2.2.2.2.2 0 (some j) = nI D from hD]
        repeat' first
          | exact go
          | refine xP_s rfl rfl rfl ?_
          | refine xP_cv rfl rfl rfl rfl rfl h11 (p_next hp (o := some j) (fun i h => Option.some.inj h ▸ hj) ?_)
set_option maxRecDepth 100000 in
theorem p_addCompound {sc : xSc} {d g n c m : Nat} {A : List xC} {F : xF} {x y w : Int32} {P : xO → xH → Prop} (hp : xPt A n F) (hc6 : c ≤ 6) (hc : xCd F n w c m) (k0 : n = 840 ∨ ¬ (0 < m ∧ m < 14) → P (.inl (some (.int (-1)))) (A, g))
    (k : n < 840 → 0 < m → m < 14 → ∀ A', xPt A' (n + 1) (xAdd F n 3 x y w (nI (m + 1))) → xSame A A' [11, 12, 13, 14, 15, 16, 17] → P (.inl (some (.int (nI n)))) (A', g)) : xM1 sc (d + 2) 78 [.ref 11, .int x, .int y, .int w] (A, g) P := by
  have h11 := hp.2.1
  have hm := hc.le
  have h0 : (0 : Int32).toInt = 0 := rfl
  have h14 : (14 : Int32).toInt = 14 := rfl
  have hM : (nI m).toInt = (m : Int) := nI_toInt (by omega)
  have loop := p_addCompoundLoop (sc := sc) (d := d) (g := g) (P := P) (y := x) (z := y) (w := w) hp c 0 w 0 m (by omega) (by omega) hc (fun x' i' => by
    rw [Nat.max_eq_right (Nat.zero_le _)]
    refine xP_s rfl rfl rfl ?_
    refine xP_s rfl rfl rfl ?_
    refine xP_if (fun hc => ?_) (fun hc => ?_)
    · have := xc_t hc
      dsimp only at this
      repeat' first
        | refine xP_s rfl rfl rfl ?_
        | refine xP_ret rfl rfl rfl ?_
      exact k0 (Or.inr (by omega))
    · have t1 := xc_f hc
      dsimp only at t1
      refine xP_s rfl rfl rfl ?_
      refine xP_s rfl rfl rfl ?_
      refine xP_s rfl rfl rfl ?_
      refine xP_if (fun hc => ?_) (fun hc => ?_)
      · have := xc_t hc
        dsimp only at this
        repeat' first
          | refine xP_s rfl rfl rfl ?_
          | refine xP_ret rfl rfl rfl ?_
        exact k0 (Or.inr (by omega))
      · have t2 := xc_f hc
        dsimp only at t2
        refine xP_s rfl rfl rfl ?_
        refine xP_s rfl rfl rfl ?_
        refine xP_s rfl rfl rfl ?_
        refine xP_s rfl rfl rfl ?_
        refine xP_s rfl rfl rfl ?_
        refine xP_s rfl rfl rfl ?_
        refine xP_s rfl rfl rfl ?_
        refine xP_s rfl rfl rfl ?_
        refine xP_s rfl rfl rfl ?_
        refine xP_s rfl rfl rfl ?_
        refine xP_s rfl rfl rfl ?_
        refine xP_s rfl rfl rfl ?_
        refine xP_s rfl rfl rfl ?_
        rw [nI_1]
        refine xP_cv rfl rfl rfl rfl rfl h11 (p_partsAdd hp (fun hz => ?_) (fun hz A' h1 h2 => ?_))
        · repeat' first
            | refine xP_s rfl rfl rfl ?_
            | refine xP_ret rfl rfl rfl ?_
          exact k0 (Or.inl hz)
        · repeat' first
            | refine xP_s rfl rfl rfl ?_
            | refine xP_ret rfl rfl rfl ?_
          exact k hz (by omega) (by omega) A' h1 h2)
  unfold xM1
  repeat' first
    | exact loop
    | refine xP_s rfl rfl rfl ?_
theorem xSame.wide {A B : List xC} {l m : List Nat} (h : xSame A B l) (hs : (l.all fun k => m.contains k) = true) : xSame A B m := h.wider (fun k hk => by
  have := List.all_eq_true.mp hs k hk
  simpa using this)
abbrev xLk (F : xF) (l r : Nat) : xF := (F.1, F.2.1, F.2.2.1, F.2.2.2.1, upd (upd F.2.2.2.2.1 l (nI r)) r (-1), F.2.2.2.2.2)
set_option maxRecDepth 100000 in
theorem p_addPair {sc : xSc} {d g n l r Dl Dr : Nat} {A : List xC} {F : xF} {x y : Int32} {P : xO → xH → Prop} (hp : xPt A n F) (hl : l < n) (hr : r < n) (hne : l ≠ r) (hDl : F.2.2.2.2.2 l = nI Dl) (hDl2 : 0 < Dl ∧ Dl ≤ 14) (hDr : F.2.2.2.2.2 r = nI Dr) (hDr2 : 0 < Dr ∧ Dr ≤ 14)
    (k0 : n = 840 ∨ ¬ (max Dl Dr < 14) → ∀ A', xPt A' n (xLk F l r) → xSame A A' [11, 12, 13, 14, 15, 16, 17] → P (.inl (some (.int (-1)))) (A', g))
    (k : n < 840 → max Dl Dr < 14 → ∀ A', xPt A' (n + 1) (xAdd (xLk F l r) n 3 x y (nI l) (nI (max Dl Dr + 1))) → xSame A A' [11, 12, 13, 14, 15, 16, 17] → P (.inl (some (.int (nI n)))) (A', g)) : xM1 sc (d + 3) 79 [.ref 11, .int x, .int y, .int (nI l), .int (nI r)] (A, g) P := by
  have h11 := hp.2.1
  have hn := hp.1
  unfold xM1
  refine xP_s rfl rfl rfl ?_
  refine xP_s rfl rfl rfl ?_
  refine xP_s rfl rfl rfl ?_
  refine xP_if (fun hc => ?_) (fun hc => ?_)
  · exact absurd (xc_t hc) (nI_neg1 (by omega))
  · refine xP_s rfl rfl rfl ?_
    refine xP_s rfl rfl rfl ?_
    refine xP_s rfl rfl rfl ?_
    refine xP_if (fun hc => ?_) (fun hc => ?_)
    · refine xP_s rfl rfl rfl ?_
      refine xP_s rfl rfl rfl ?_
      refine xP_s rfl rfl rfl ?_
      refine xP_cv rfl rfl rfl rfl rfl h11 (p_link (o := some l) hp (fun i h => Option.some.inj h ▸ hl) (fun A1 h1 s1 => ?_))
      refine xP_s rfl rfl rfl ?_
      refine xP_s rfl rfl rfl ?_
      refine xP_s rfl rfl rfl ?_
      refine xP_cv rfl rfl rfl rfl rfl h1.2.1 (p_link (o := some r) h1 (fun i h => Option.some.inj h ▸ hr) (fun A2 h2 s2 => ?_))
      refine xP_s rfl rfl rfl ?_
      refine xP_s rfl rfl rfl ?_
      refine xP_s rfl rfl rfl ?_
      refine xP_s rfl rfl rfl ?_
      have hch : xCd (xLk F l r) n (nI l) 2 (max Dl Dr) := by
        refine ⟨l, Dl, Dr, hl, rfl, hDl, hDl2.2, rfl, r, Dr, 0, hr, ?_, hDr, hDr2.2, by omega, ?_, rfl⟩
        · show upd (upd F.2.2.2.2.1 l (nI r)) r (-1) l = nI r
          rw [pk_un hne, pk_us]
        · show upd (upd F.2.2.2.2.1 l (nI r)) r (-1) r = -1
          rw [pk_us]
      refine xP_cv rfl rfl rfl rfl rfl h2.2.1 (p_addCompound h2 (by decide) hch (fun hz => ?_) (fun hz z1 z2 A' h3 s3 => ?_))
      · repeat' first
          | refine xP_s rfl rfl rfl ?_
          | refine xP_ret rfl rfl rfl ?_
        refine k0 ?_ _ h2 ((s1.trans s2).wide (by decide))
        rcases hz with hz | hz
        · exact Or.inl hz
        · exact Or.inr (by omega)
      · repeat' first
          | refine xP_s rfl rfl rfl ?_
          | refine xP_ret rfl rfl rfl ?_
        exact k hz z2 A' h3 (((s1.trans s2).trans s3).wide (by decide))
    · exact absurd (xc_f hc) (nI_neg1 (by omega))
set_option maxRecDepth 100000 in
theorem p_addPair0 {sc : xSc} {d g n : Nat} {A : List xC} {F : xF} {x y : Int32} {ol or : Option Nat} {P : xO → xH → Prop} (hp : xPt A n F) (hl : ∀ i, ol = some i → i < n) (hno : ol = none ∨ or = none)
    (k : P (.inl (some (.int (-1)))) (A, g)) : xM1 sc (d + 3) 79 [.ref 11, .int x, .int y, .int (sI ol), .int (sI or)] (A, g) P := by
  have hn := hp.1
  unfold xM1
  cases ol with
  | none =>
    repeat' first
      | refine xP_s rfl rfl rfl ?_
      | refine xP_ret rfl rfl rfl ?_
    exact k
  | some i =>
    have := hl i rfl
    rcases hno with h | h
    · cases h
    · subst h
      refine xP_s rfl rfl rfl ?_
      refine xP_s rfl rfl rfl ?_
      refine xP_s rfl rfl rfl ?_
      refine xP_if (fun hc => ?_) (fun hc => ?_)
      · exact absurd (xc_t hc) (nI_neg1 (by omega))
      · repeat' first
          | refine xP_s rfl rfl rfl ?_
          | refine xP_ret rfl rfl rfl ?_
        exact k
/-- children, in a row of numbers -/
def xCh (F : xF) (T : Nat → Nat → List xIt → Prop) : Nat → Int32 → Nat → Nat → List xIt → Prop
  | 0, x, _, _, L => x = -1 ∧ L = []
  | k + 1, x, lo, hi, L => ∃ a b L1 L2, lo ≤ a ∧ a < b ∧ b ≤ hi ∧ x = nI (b - 1) ∧ T a b L1 ∧ L = L1 ++ L2 ∧ xCh F T k (F.2.2.2.2.1 (b - 1)) lo hi L2
def okIt (p : xIt) : Prop := (p.1 < 3 → p.2.2.2 = 0) ∧ (p.1 = 3 → 1 ≤ p.2.2.2 ∧ p.2.2.2 ≤ 6) ∧ (p.1 < 2 → p.2.2.1 = []) ∧ (2 ≤ p.1 → p.2.1 = 0)
/-- the parts from lo to hi are the term L, its root the last of them -/
def xTr (F : xF) (nm : List Nat) : Nat → Nat → Nat → List xIt → Prop
  | 0, _, _, _ => False
  | e + 1, lo, hi, L => lo < hi ∧ ∃ p L1, L = p :: L1 ∧ okIt p ∧ ndK F nm (hi - 1) p ∧ xCh F (fun a b l => xTr F nm e a b l) p.2.2.2 (F.2.2.2.1 (hi - 1)) lo (hi - 1) L1
/-- rows that are the same from lo to hi, but for the next of the last -/
def xAg (F F' : xF) (lo hi : Nat) : Prop := ∀ j, lo ≤ j → j < hi → F'.1 j = F.1 j ∧ F'.2.1 j = F.2.1 j ∧ F'.2.2.1 j = F.2.2.1 j ∧ F'.2.2.2.1 j = F.2.2.2.1 j ∧ (j + 1 < hi → F'.2.2.2.2.1 j = F.2.2.2.2.1 j)
theorem xCh_map {F F' : xF} {T T' : Nat → Nat → List xIt → Prop} {lo hi : Nat} (hx : ∀ j, lo ≤ j → j < hi → F'.2.2.2.2.1 j = F.2.2.2.2.1 j) (hT : ∀ a b l, lo ≤ a → b ≤ hi → T a b l → T' a b l) : ∀ {k : Nat} {x : Int32} {L : List xIt}, xCh F T k x lo hi L → xCh F' T' k x lo hi L
  | 0, x, L, h => h
  | k + 1, x, L, h => by
    obtain ⟨a, b, L1, L2, h1, h2, h3, h4, h5, h6, h7⟩ := h
    refine ⟨a, b, L1, L2, h1, h2, h3, h4, hT a b L1 h1 h3 h5, h6, ?_⟩
    rw [hx (b - 1) (by omega) (by omega)]
    exact xCh_map hx hT h7
theorem xCh_wide {F : xF} {T : Nat → Nat → List xIt → Prop} {lo hi lo' hi' : Nat} (h1 : lo' ≤ lo) (h2 : hi ≤ hi') : ∀ {k : Nat} {x : Int32} {L : List xIt}, xCh F T k x lo hi L → xCh F T k x lo' hi' L
  | 0, x, L, h => h
  | k + 1, x, L, h => by
    obtain ⟨a, b, L1, L2, q1, q2, q3, q4, q5, q6, q7⟩ := h
    exact ⟨a, b, L1, L2, by omega, q2, by omega, q4, q5, q6, xCh_wide h1 h2 q7⟩
theorem ndK.frame {F F' : xF} {nm r : List Nat} {j : Nat} {p : xIt} (h : ndK F nm j p) (h1 : F'.1 j = F.1 j) (h2 : F'.2.1 j = F.2.1 j) (h3 : F'.2.2.1 j = F.2.2.1 j) : ndK F' (nm ++ r) j p := by
  unfold ndK
  rw [h1, h2, h3]
  obtain ⟨q1, q2, q3, q4⟩ := h
  exact ⟨q1, q2, q3, fun hh => by
    obtain ⟨z, z1, z2, z3⟩ := q4 hh
    exact ⟨z, z1, z2, z3.more⟩⟩
theorem xTr.frame {F F' : xF} {nm r : List Nat} : ∀ {e lo hi : Nat} {L : List xIt}, xTr F nm e lo hi L → xAg F F' lo hi → xTr F' (nm ++ r) e lo hi L
  | 0, _, _, _, h, _ => h.elim
  | e + 1, lo, hi, L, h, hg => by
    obtain ⟨h0, p, L1, h1, h2, h3, h4⟩ := h
    obtain ⟨g1, g2, g3, g4, _⟩ := hg (hi - 1) (by omega) (by omega)
    refine ⟨h0, p, L1, h1, h2, h3.frame g1 g2 g3, ?_⟩
    rw [g4]
    refine xCh_map (fun j hj1 hj2 => (hg j hj1 (by omega)).2.2.2.2 (by omega)) (fun a b l ha hb ht => ht.frame (fun j hj1 hj2 => ?_)) h4
    obtain ⟨z1, z2, z3, z4, z5⟩ := hg j (by omega) (by omega)
    exact ⟨z1, z2, z3, z4, fun _ => z5 (by omega)⟩
theorem xTr.up {F : xF} {nm : List Nat} : ∀ {e lo hi : Nat} {L : List xIt}, xTr F nm e lo hi L → xTr F nm (e + 1) lo hi L
  | 0, _, _, _, h => h.elim
  | e + 1, lo, hi, L, h => by
    obtain ⟨h0, p, L1, h1, h2, h3, h4⟩ := h
    exact ⟨h0, p, L1, h1, h2, h3, xCh_map (fun _ _ _ => rfl) (fun a b l _ _ ht => ht.up) h4⟩
theorem xTr.le {F : xF} {nm : List Nat} {e e' lo hi : Nat} {L : List xIt} (h : xTr F nm e lo hi L) (he : e ≤ e') : xTr F nm e' lo hi L := by
  induction he with
  | refl => exact h
  | step _ ih => exact ih.up
theorem xCh.cn {F : xF} {T : Nat → Nat → List xIt → Prop} {n : Nat} : ∀ {k : Nat} {x : Int32} {lo hi : Nat} {L : List xIt}, xCh F T k x lo hi L → hi ≤ n → xCn F n x k
  | 0, x, lo, hi, L, h, _ => h.1
  | k + 1, x, lo, hi, L, h, hn => by
    obtain ⟨a, b, L1, L2, q1, q2, q3, q4, q5, q6, q7⟩ := h
    exact ⟨b - 1, by omega, q4, q7.cn hn⟩
