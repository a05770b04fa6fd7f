-- the reference: one object, its rows
/-- the numbers of the fields that are numbers -/
def isI (k : Nat) : Bool := [0, 1, 3, 9, 12, 14, 16, 20, 21, 22, 23, 24, 25, 27, 28, 29, 35, 37, 40, 42].contains k
/-- the cells of the rows of ints -/
def isA (j : Nat) : Bool := decide (29 ≤ j) && (decide (j ≤ 52) && !(j == 30))
def cpM (j : Nat) : Nat := [120, 64, 64, 64, 64, 64, 1500, 1500, 4600, 41, 1000, 1000, 1000, 130, 32, 32, 32, 32, 32, 130, 900, 900, 2600, 2600].getD (j - 29) 0
def mF (v : Nat → Int32) : List Value := [.int (v 0), .int (v 1), .ref 29, .int (v 3), .ref 30, .ref 31, .ref 32, .ref 33, .ref 34, .int (v 9), .ref 35, .ref 36, .int (v 12), .ref 37, .int (v 14), .ref 38, .int (v 16), .ref 39, .ref 40, .ref 41, .int (v 20), .int (v 21), .int (v 22), .int (v 23), .int (v 24), .int (v 25), .ref 42, .int (v 27), .int (v 28), .int (v 29), .ref 43, .ref 44, .ref 45, .ref 46, .ref 47, .int (v 35), .ref 48, .int (v 37), .ref 49, .ref 50, .int (v 40), .ref 51, .int (v 42), .ref 52]
def mA (a : Nat → Nat → Int32) (o : Nat → Int64) : List xC := [.inl (.int, 120, .inl (a 29)), .inl (.long, 64, .inr (.inl o)), .inl (.int, 64, .inl (a 31)), .inl (.int, 64, .inl (a 32)), .inl (.int, 64, .inl (a 33)), .inl (.int, 64, .inl (a 34)), .inl (.int, 1500, .inl (a 35)), .inl (.int, 1500, .inl (a 36)), .inl (.int, 4600, .inl (a 37)), .inl (.int, 41, .inl (a 38)), .inl (.int, 1000, .inl (a 39)), .inl (.int, 1000, .inl (a 40)), .inl (.int, 1000, .inl (a 41)), .inl (.int, 130, .inl (a 42)), .inl (.int, 32, .inl (a 43)), .inl (.int, 32, .inl (a 44)), .inl (.int, 32, .inl (a 45)), .inl (.int, 32, .inl (a 46)), .inl (.int, 32, .inl (a 47)), .inl (.int, 130, .inl (a 48)), .inl (.int, 900, .inl (a 49)), .inl (.int, 900, .inl (a 50)), .inl (.int, 2600, .inl (a 51)), .inl (.int, 2600, .inl (a 52))]
/-- the heap: what lies ahead (28 cells), the reference's object and rows, what lies behind -/
def mH (B C : List xC) (v : Nat → Int32) (a : Nat → Nat → Int32) (o : Nat → Int64) : List xC := B ++ (.inr (7, mF v) :: (mA a o ++ C))
def uA (a : Nat → Nat → Int32) (j : Nat) (f : Nat → Int32) : Nat → Nat → Int32 := fun k => if k = j then f else a k
theorem uA_s {a : Nat → Nat → Int32} {j : Nat} {f : Nat → Int32} : uA a j f j = f := if_pos rfl
theorem uA_n {a : Nat → Nat → Int32} {j k : Nat} {f : Nat → Int32} (h : ¬ k = j) : uA a j f k = a k := if_neg h
theorem isI_k {k : Nat} (h : isI k = true) : k = 0 ∨ k = 1 ∨ k = 3 ∨ k = 9 ∨ k = 12 ∨ k = 14 ∨ k = 16 ∨ k = 20 ∨ k = 21 ∨ k = 22 ∨ k = 23 ∨ k = 24 ∨ k = 25 ∨ k = 27 ∨ k = 28 ∨ k = 29 ∨ k = 35 ∨ k = 37 ∨ k = 40 ∨ k = 42 := by
  simpa [isI] using h
theorem isA_k {j : Nat} (h : isA j = true) : j = 29 ∨ j = 31 ∨ j = 32 ∨ j = 33 ∨ j = 34 ∨ j = 35 ∨ j = 36 ∨ j = 37 ∨ j = 38 ∨ j = 39 ∨ j = 40 ∨ j = 41 ∨ j = 42 ∨ j = 43 ∨ j = 44 ∨ j = 45 ∨ j = 46 ∨ j = 47 ∨ j = 48 ∨ j = 49 ∨ j = 50 ∨ j = 51 ∨ j = 52 := by
  simp [isA] at h
  omega
theorem isA_r {j : Nat} (h : isA j = true) : 29 ≤ j ∧ j ≤ 52 := by
  simp [isA] at h
  omega
theorem mA_len {a : Nat → Nat → Int32} {o : Nat → Int64} : (mA a o).length = 24 := rfl
theorem cpM_le (j : Nat) : cpM j ≤ 4600 := by
  unfold cpM
  generalize j - 29 = i
  rcases Nat.lt_or_ge i 24 with z | z
  · have : ∀ i, i < 24 → [120, 64, 64, 64, 64, 64, 1500, 1500, 4600, 41, 1000, 1000, 1000, 130, 32, 32, 32, 32, 32, 130, 900, 900, 2600, 2600].getD i 0 ≤ 4600 := by decide
    exact this i z
  · rw [List.getD_eq_getElem?_getD, List.getElem?_eq_none (by simpa using z)]
    decide
theorem mF_i {v : Nat → Int32} {k : Nat} (h : isI k = true) : (mF v)[k]? = some (.int (v k)) := by
  rcases isI_k h with rfl | rfl | rfl | rfl | rfl | rfl | rfl | rfl | rfl | rfl | rfl | rfl | rfl | rfl | rfl | rfl | rfl | rfl | rfl | rfl <;> rfl
theorem mF_u {v : Nat → Int32} {k : Nat} {x : Int32} (h : isI k = true) : (mF v).set k (.int x) = mF (upd v k x) := by
  rcases isI_k h with rfl | rfl | rfl | rfl | rfl | rfl | rfl | rfl | rfl | rfl | rfl | rfl | rfl | rfl | rfl | rfl | rfl | rfl | rfl | rfl <;> rfl
theorem mA_i {a : Nat → Nat → Int32} {o : Nat → Int64} {j : Nat} (h : isA j = true) : (mA a o)[j - 29]? = some (.inl (.int, cpM j, .inl (a j))) := by
  rcases isA_k h with rfl | rfl | rfl | rfl | rfl | rfl | rfl | rfl | rfl | rfl | rfl | rfl | rfl | rfl | rfl | rfl | rfl | rfl | rfl | rfl | rfl | rfl | rfl <;> rfl
theorem mA_u {a : Nat → Nat → Int32} {o : Nat → Int64} {j : Nat} {f : Nat → Int32} (h : isA j = true) : (mA a o).set (j - 29) (.inl (.int, cpM j, .inl f)) = mA (uA a j f) o := by
  rcases isA_k h with rfl | rfl | rfl | rfl | rfl | rfl | rfl | rfl | rfl | rfl | rfl | rfl | rfl | rfl | rfl | rfl | rfl | rfl | rfl | rfl | rfl | rfl | rfl <;> rfl
section MH
variable {B C : List xC} {v : Nat → Int32} {a : Nat → Nat → Int32} {o : Nat → Int64}
theorem mH_28 (hB : B.length = 28) : (mH B C v a o)[28]? = some (.inr (7, mF v)) := by
  unfold mH
  rw [List.getElem?_append_right (by omega), hB]
  rfl
theorem mH_j (hB : B.length = 28) {j : Nat} (h : isA j = true) : (mH B C v a o)[j]? = some (.inl (.int, cpM j, .inl (a j))) := by
  unfold mH
  have h2 := isA_r h
  rw [List.getElem?_append_right (by omega), hB, show j - 28 = (j - 29) + 1 by omega, List.getElem?_cons_succ, List.getElem?_append_left (by rw [mA_len]; omega)]
  exact mA_i h
theorem mH_30 (hB : B.length = 28) : (mH B C v a o)[30]? = some (.inl (.long, 64, .inr (.inl o))) := by
  unfold mH
  rw [List.getElem?_append_right (by omega), hB]
  rfl
theorem mH_u (hB : B.length = 28) {k : Nat} {x : Int32} (h : isI k = true) : (mH B C v a o).set 28 (.inr (7, (mF v).set k (.int x))) = mH B C (upd v k x) a o := by
  unfold mH
  rw [List.set_append_right _ _ (by omega), hB, mF_u h]
  rfl
theorem mH_s (hB : B.length = 28) {j : Nat} {f : Nat → Int32} (h : isA j = true) : (mH B C v a o).set j (.inl (.int, cpM j, .inl f)) = mH B C v (uA a j f) o := by
  unfold mH
  have h2 := isA_r h
  rw [List.set_append_right _ _ (by omega), hB, show j - 28 = (j - 29) + 1 by omega, List.set_cons_succ, List.set_append_left _ _ (by rw [mA_len]; omega), mA_u h]
theorem mH_o (hB : B.length = 28) {f : Nat → Int64} : (mH B C v a o).set 30 (.inl (.long, 64, .inr (.inl f))) = mH B C v a f := by
  unfold mH
  rw [List.set_append_right _ _ (by omega), hB]
  rfl
variable {sc : xSc} {d mi pc g : Nat} {ls : xL} {P : xO → xH → Prop} {rest : List Value}
theorem xP_zg {ix len k r3 : Nat} {rv : Int32} {rk : Int64} {sw : List (Int32 × Nat)} {x : Int32} (hrow : xrow mi pc = some (.getfield ix, len, 7, k, r3, rv, rk, sw)) (hB : B.length = 28) (hk : isI k = true) (hv : v k = x)
    (kk : xP sc d mi (pc + 3) ls (.int x :: rest) (mH B C v a o, g) P) : xP sc d mi pc ls (.ref 28 :: rest) (mH B C v a o, g) P :=
  xP_get hrow (mH_28 hB) (mF_i hk) (by rw [hv]; exact kk)
theorem xP_zp {ix len k r3 : Nat} {rv : Int32} {rk : Int64} {sw : List (Int32 × Nat)} {x : Int32} (hrow : xrow mi pc = some (.putfield ix, len, 7, k, r3, rv, rk, sw)) (hB : B.length = 28) (hk : isI k = true) (hf : xfit ((xtys.getD 7 []).getD k .int) (.int x) = true)
    (kk : xP sc d mi (pc + 3) ls rest (mH B C (upd v k x) a o, g) P) : xP sc d mi pc ls (.int x :: .ref 28 :: rest) (mH B C v a o, g) P := by
  refine xP_put hrow (mH_28 hB) (by have := isI_k hk
                                    show k < 44
                                    omega) hf ?_
  rw [mH_u hB hk]
  exact kk
theorem xP_zl {len r1 r2 r3 : Nat} {rv : Int32} {rk : Int64} {sw : List (Int32 × Nat)} {j m n : Nat} {x : Int32} (hrow : xrow mi pc = some (.iaload, len, r1, r2, r3, rv, rk, sw)) (hB : B.length = 28) (hj : isA j = true) (hn : cpM j = n) (hm : m < n) (hx : a j m = x)
    (kk : xP sc d mi (pc + 1) ls (.int x :: rest) (mH B C v a o, g) P) : xP sc d mi pc ls (.int (nI m) :: .ref j :: rest) (mH B C v a o, g) P := by
  have h1 := isA_r hj
  have h2 := cpM_le j
  refine xP_ial hrow (mH_j hB hj) (by show ¬ j = 1000000000; omega) (xib_nI (by omega) (by omega)) ?_
  rw [nI_clamp (by omega), hx]
  exact kk
theorem xP_zs {len r1 r2 r3 : Nat} {rv : Int32} {rk : Int64} {sw : List (Int32 × Nat)} {j m n : Nat} {x : Int32} (hrow : xrow mi pc = some (.iastore, len, r1, r2, r3, rv, rk, sw)) (hB : B.length = 28) (hj : isA j = true) (hn : cpM j = n) (hm : m < n)
    (kk : xP sc d mi (pc + 1) ls rest (mH B C v (uA a j (upd (a j) m x)) o, g) P) : xP sc d mi pc ls (.int x :: .int (nI m) :: .ref j :: rest) (mH B C v a o, g) P := by
  have h1 := isA_r hj
  have h2 := cpM_le j
  refine xP_ias hrow (mH_j hB hj) (xib_nI (by omega) (by omega)) ?_
  rw [nI_clamp (by omega), mH_s hB hj]
  exact kk
theorem xP_zol {len r1 r2 r3 : Nat} {rv : Int32} {rk : Int64} {sw : List (Int32 × Nat)} {m : Nat} {x : Int64} (hrow : xrow mi pc = some (.laload, len, r1, r2, r3, rv, rk, sw)) (hB : B.length = 28) (hm : m < 64) (hx : o m = x)
    (kk : xP sc d mi (pc + 1) ls (.long x :: rest) (mH B C v a o, g) P) : xP sc d mi pc ls (.int (nI m) :: .ref 30 :: rest) (mH B C v a o, g) P := by
  refine xP_lal hrow (mH_30 hB) (xib_nI hm (by omega)) ?_
  rw [nI_clamp (by omega), hx]
  exact kk
theorem xP_zos {len r1 r2 r3 : Nat} {rv : Int32} {rk : Int64} {sw : List (Int32 × Nat)} {m : Nat} {x : Int64} (hrow : xrow mi pc = some (.lastore, len, r1, r2, r3, rv, rk, sw)) (hB : B.length = 28) (hm : m < 64)
    (kk : xP sc d mi (pc + 1) ls rest (mH B C v a (vp_updL o m x), g) P) : xP sc d mi pc ls (.long x :: .int (nI m) :: .ref 30 :: rest) (mH B C v a o, g) P := by
  refine xP_las hrow (mH_30 hB) (xib_nI hm (by omega)) ?_
  rw [nI_clamp (by omega), mH_o hB]
  exact kk
end MH
-- characters
section MC
variable {sc : xSc} {d g : Nat} {A : List xC} {P : xO → xH → Prop}
set_option maxRecDepth 100000 in
theorem q_isSmall {c : Nat} (hc : c < 128) (k : P (.inl (some (.int (xb (isSm c))))) (A, g)) : xM1 sc d 146 [.int (nI c)] (A, g) P := by
  have h1 : (97 : Int32).toInt = 97 := rfl
  have h2 : (122 : Int32).toInt = 122 := rfl
  have h3 : (nI c).toInt = (c : Int) := nI_toInt (by omega)
  have hb : isSm c = true ↔ 97 ≤ c ∧ c ≤ 122 := by simp [isSm]
  unfold xM1
  repeat' first
    | refine xP_s rfl rfl rfl ?_
    | refine xP_if (fun hc => ?_) (fun hc => ?_)
    | refine xP_ret rfl rfl rfl ?_
  all_goals
    (try simp only [xc_i, decide_eq_true_eq, decide_eq_false_iff_not] at *)
  all_goals first
    | (rw [show (isSm c) = true from hb.mpr (by omega)] at k; exact k)
    | (rw [show (isSm c) = false from Bool.not_eq_true _ ▸ fun q => absurd (hb.mp q) (by omega)] at k; exact k)
set_option maxRecDepth 100000 in
theorem q_isDigit {c : Nat} (hc : c < 128) (k : P (.inl (some (.int (xb (isDg c))))) (A, g)) : xM1 sc d 148 [.int (nI c)] (A, g) P := by
  have h1 : (48 : Int32).toInt = 48 := rfl
  have h2 : (57 : Int32).toInt = 57 := rfl
  have h3 : (nI c).toInt = (c : Int) := nI_toInt (by omega)
  have hb : isDg c = true ↔ 48 ≤ c ∧ c ≤ 57 := by simp [isDg]
  unfold xM1
  repeat' first
    | refine xP_s rfl rfl rfl ?_
    | refine xP_if (fun hc => ?_) (fun hc => ?_)
    | refine xP_ret rfl rfl rfl ?_
  all_goals
    (try simp only [xc_i, decide_eq_true_eq, decide_eq_false_iff_not] at *)
  all_goals first
    | (rw [show (isDg c) = true from hb.mpr (by omega)] at k; exact k)
    | (rw [show (isDg c) = false from Bool.not_eq_true _ ▸ fun q => absurd (hb.mp q) (by omega)] at k; exact k)
def isGr (c : Nat) : Bool := isLg c || decide (c = 95)
set_option maxRecDepth 100000 in
theorem q_isGreat {c : Nat} (hc : c < 128) (k : P (.inl (some (.int (xb (isGr c))))) (A, g)) : xM1 sc d 147 [.int (nI c)] (A, g) P := by
  have h1 : (65 : Int32).toInt = 65 := rfl
  have h2 : (90 : Int32).toInt = 90 := rfl
  have h4 : (95 : Int32).toInt = 95 := rfl
  have h3 : (nI c).toInt = (c : Int) := nI_toInt (by omega)
  have hb : isGr c = true ↔ (65 ≤ c ∧ c ≤ 90) ∨ c = 95 := by simp [isGr, isLg]
  unfold xM1
  repeat' first
    | refine xP_s rfl rfl rfl ?_
    | refine xP_if (fun hc => ?_) (fun hc => ?_)
    | refine xP_ret rfl rfl rfl ?_
  all_goals
    (try simp only [xc_i, decide_eq_true_eq, decide_eq_false_iff_not] at *)
  all_goals first
    | (rw [show (isGr c) = true from hb.mpr (by omega)] at k; exact k)
    | (rw [show (isGr c) = false from Bool.not_eq_true _ ▸ fun q => absurd (hb.mp q) (by omega)] at k; exact k)
theorem xc_eq {x y : Int32} : xcmp .eq x y = decide (x = y) := rfl
theorem xc_ne {x y : Int32} : xcmp .ne x y = decide (¬ x = y) := rfl
set_option maxRecDepth 100000 in
theorem q_isSign {c : Nat} (hc : c < 128) (k : P (.inl (some (.int (xb (isSg c))))) (A, g)) : xM1 sc d 145 [.int (nI c)] (A, g) P := by
  rw [← sgI_nI c hc] at k
  generalize nI c = x at k ⊢
  unfold xM1
  repeat' first
    | refine xP_s rfl rfl rfl ?_
    | refine xP_if (fun hc => ?_) (fun hc => ?_)
    | refine xP_ret rfl rfl rfl ?_
  all_goals
    simp only [xc_eq, xc_ne, decide_eq_true_eq, decide_eq_false_iff_not, Decidable.not_not] at *
  all_goals first
    | (rw [show sgI x = true by simp [sgI, *]] at k; exact k)
    | (rw [show sgI x = false by simp [sgI, *]] at k; exact k)
end MC
