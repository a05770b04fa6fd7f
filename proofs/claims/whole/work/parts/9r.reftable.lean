-- the reference: its table of operators as it changes
def zOb (M : Nat) (v : Nat → Int32) (a : Nat → Nat → Int32) (o : Nat → Int64) (sl : List xSl) : Prop := M ≤ 64 ∧ v 3 = nI M ∧ (∀ i j, i < M → j < M → o i = o j → i = j) ∧
  (∀ i, i < M → ¬ o i = 44 ∧ ¬ o i = -1 ∧ ¬ o i = 0 ∧ a 31 i = nI (slP (opP sl (o i))) ∧ (∀ e, opP sl (o i) = some e → a 32 i = nI e.2.2) ∧ a 33 i = nI (slP (opB sl (o i))) ∧ (∀ e, opB sl (o i) = some e → a 34 i = nI e.2.2)) ∧
  (∀ key, (∀ i, i < M → ¬ o i = key) → opP sl key = none ∧ (¬ key = 44 → opB sl key = none)) ∧
  opB sl 44 = some (44, 1000, 1) ∧ (∀ e ∈ sl, 1 ≤ e.2.1 ∧ e.2.1 ≤ 1200 ∧ e.2.2 ≤ 6)
section TB
variable {M k : Nat} {v v' : Nat → Int32} {a a' : Nat → Nat → Int32} {o o' : Nat → Int64} {sl sl' : List xSl} {key : Int64} {p ty : Nat}
theorem zOb.zO (h : zOb M v a o sl) : zO v a o sl := ⟨M, h⟩
theorem opP_X (sl : List xSl) (key : Int64) : opP sl key = opX true sl key := rfl
theorem opB_X (sl : List xSl) (key : Int64) : opB sl key = opX false sl key := rfl
theorem zOb.new (h : zOb M v a o sl) (hk : ∀ i, i < M → ¬ o i = key) (h44 : ¬ key = 44) (h1 : ¬ key = -1) (h0 : ¬ key = 0) (hM : M < 64) (h3 : v' 3 = nI (M + 1)) (ho : ∀ i, o' i = if i = M then key else o i) (h31 : ∀ i, a' 31 i = if i = M then 0 else a 31 i) (h33 : ∀ i, a' 33 i = if i = M then 0 else a 33 i) (h32 : a' 32 = a 32) (h34 : a' 34 = a 34) : zOb (M + 1) v' a' o' sl := by
  obtain ⟨m1, m2, m3, m4, m5, m6, m7⟩ := h
  have hn := m5 key hk
  have hn2 := hn.2 h44
  refine ⟨by omega, h3, fun i j hi hj e => ?_, fun i hi => ?_, fun key' hk' => ?_, m6, m7⟩
  · rw [ho, ho] at e
    by_cases ei : i = M
    · by_cases ej : j = M
      · omega
      · rw [if_pos ei, if_neg ej] at e
        exact absurd e.symm (hk j (by omega))
    · by_cases ej : j = M
      · rw [if_neg ei, if_pos ej] at e
        exact absurd e (hk i (by omega))
      · rw [if_neg ei, if_neg ej] at e
        exact m3 i j (by omega) (by omega) e
  · rw [ho, h31, h33, h32, h34]
    by_cases ei : i = M
    · rw [if_pos ei, if_pos ei, if_pos ei, hn.1, hn2]
      exact ⟨h44, h1, h0, rfl, fun e q => (by cases q), rfl, fun e q => (by cases q)⟩
    · rw [if_neg ei, if_neg ei, if_neg ei]
      exact m4 i (by omega)
  · refine m5 key' (fun i hi => ?_)
    have := hk' i (by omega)
    rw [ho, if_neg (by omega)] at this
    exact this
theorem zOb.put (h : zOb M v a o sl) (hk : k < M) (ek : o k = key) (hX : ∀ b key', opX b sl' key' = opN sl p ty key b key') (hpr : ∀ e ∈ sl', 1 ≤ e.2.1 ∧ e.2.1 ≤ 1200 ∧ e.2.2 ≤ 6) (h31 : ∀ i, a' 31 i = if isPre ty = true ∧ i = k then nI p else a 31 i) (h32 : ∀ i, a' 32 i = if isPre ty = true ∧ i = k then nI ty else a 32 i) (h33 : ∀ i, a' 33 i = if isPre ty = false ∧ i = k then nI p else a 33 i) (h34 : ∀ i, a' 34 i = if isPre ty = false ∧ i = k then nI ty else a 34 i) : zOb M v a' o sl' := by
  obtain ⟨m1, m2, m3, m4, m5, m6, m7⟩ := h
  have hk44 : ¬ key = 44 := by rw [← ek]; exact (m4 k hk).1
  have off : ∀ b key', ¬ (key' = key ∧ b = isPre ty) → opX b sl' key' = opX b sl key' := fun b key' q => by
    rw [hX]
    unfold opN
    rw [if_neg q]
  have on : ∀ b, b = isPre ty → opX b sl' key = if p = 0 then none else some (key, p, ty) := fun b q => by
    rw [hX]
    unfold opN
    rw [if_pos ⟨rfl, q⟩]
  have slp : slP (if p = 0 then none else some (key, p, ty)) = p := by
    by_cases e : p = 0
    · rw [if_pos e, e]
      rfl
    · rw [if_neg e]
      rfl
  have slt : ∀ e, (if p = 0 then none else some (key, p, ty)) = some e → e.2.2 = ty := fun e q => by
    by_cases e0 : p = 0
    · rw [if_pos e0] at q
      cases q
    · rw [if_neg e0] at q
      cases q
      rfl
  refine ⟨m1, m2, m3, fun i hi => ?_, fun key' hk' => ?_, ?_, hpr⟩
  · obtain ⟨n1, n2, n3, n4, n5, n6, n7⟩ := m4 i hi
    refine ⟨n1, n2, n3, ?_, ?_, ?_, ?_⟩
    · rw [h31, opP_X]
      by_cases q : isPre ty = true ∧ i = k
      · rw [if_pos q, q.2, ek, on true q.1.symm, slp]
      · rw [if_neg q, off true (o i) (fun z => q ⟨z.2.symm, m3 i k hi hk (z.1.trans ek.symm)⟩)]
        exact n4
    · intro e he
      rw [opP_X] at he
      rw [h32]
      by_cases q : isPre ty = true ∧ i = k
      · rw [if_pos q]
        rw [q.2, ek, on true q.1.symm] at he
        rw [slt e he]
      · rw [if_neg q]
        rw [off true (o i) (fun z => q ⟨z.2.symm, m3 i k hi hk (z.1.trans ek.symm)⟩)] at he
        exact n5 e he
    · rw [h33, opB_X]
      by_cases q : isPre ty = false ∧ i = k
      · rw [if_pos q, q.2, ek, on false q.1.symm, slp]
      · rw [if_neg q, off false (o i) (fun z => q ⟨z.2.symm, m3 i k hi hk (z.1.trans ek.symm)⟩)]
        exact n6
    · intro e he
      rw [opB_X] at he
      rw [h34]
      by_cases q : isPre ty = false ∧ i = k
      · rw [if_pos q]
        rw [q.2, ek, on false q.1.symm] at he
        rw [slt e he]
      · rw [if_neg q]
        rw [off false (o i) (fun z => q ⟨z.2.symm, m3 i k hi hk (z.1.trans ek.symm)⟩)] at he
        exact n7 e he
  · have hne : ¬ key' = key := fun z => hk' k hk (by rw [ek, z])
    rw [opP_X, opB_X, off true key' (fun z => hne z.1), off false key' (fun z => hne z.1)]
    exact m5 key' hk'
  · rw [opB_X, off false 44 (fun z => hk44 z.1.symm)]
    exact m6
theorem zOb.drop (h : zOb M v a o sl) (hk : k < M) (hn : opP sl (o k) = none ∧ opB sl (o k) = none) (h3 : v' 3 = nI (M - 1)) (ho : ∀ i, o' i = if i = k then o (M - 1) else o i) (hj : ∀ j, (j = 31 ∨ j = 32 ∨ j = 33 ∨ j = 34) → ∀ i, a' j i = if i = k then a j (M - 1) else a j i) : zOb (M - 1) v' a' o' sl := by
  obtain ⟨m1, m2, m3, m4, m5, m6, m7⟩ := h
  refine ⟨by omega, h3, fun i j hi hj e => ?_, fun i hi => ?_, fun key' hk' => ?_, m6, m7⟩
  · rw [ho, ho] at e
    by_cases ei : i = k
    · by_cases ej : j = k
      · omega
      · rw [if_pos ei, if_neg ej] at e
        have := m3 (M - 1) j (by omega) (by omega) e
        omega
    · by_cases ej : j = k
      · rw [if_neg ei, if_pos ej] at e
        have := m3 i (M - 1) (by omega) (by omega) e
        omega
      · rw [if_neg ei, if_neg ej] at e
        exact m3 i j (by omega) (by omega) e
  · rw [ho, hj 31 (by simp), hj 32 (by simp), hj 33 (by simp), hj 34 (by simp)]
    by_cases ei : i = k
    · rw [if_pos ei, if_pos ei, if_pos ei, if_pos ei, if_pos ei]
      exact m4 (M - 1) (by omega)
    · rw [if_neg ei, if_neg ei, if_neg ei, if_neg ei, if_neg ei]
      exact m4 i (by omega)
  · by_cases hx : key' = o k
    · rw [hx]
      exact ⟨hn.1, fun _ => hn.2⟩
    · refine m5 key' (fun i hi q => ?_)
      by_cases ei : i = k
      · rw [ei] at q
        exact hx q.symm
      · by_cases el : i = M - 1
        · have := hk' k (by omega)
          rw [ho, if_pos rfl, ← el] at this
          exact this q
        · have := hk' i (by omega)
          rw [ho, if_neg ei] at this
          exact this q
/-- the table, and how much it holds -/
def zOC (v : Nat → Int32) (a : Nat → Nat → Int32) (o : Nat → Int64) (sl : List xSl) : Prop := ∃ M, zOb M v a o sl ∧ sumW (wtO a) M + 1 = sl.length ∧ (∀ i, i < M → 1 ≤ wtO a i) ∧ sl.length ≤ 25
theorem zOb.wt (h : zOb M v a o sl) (hk : k < M) : wtO a k = (if (opP sl (o k)).isSome = true then 1 else 0) + (if (opB sl (o k)).isSome = true then 1 else 0) := by
  have hz := h.zO
  obtain ⟨m1, m2, m3, m4, m5, m6, m7⟩ := h
  obtain ⟨_, _, _, n4, _, n6, _⟩ := m4 k hk
  have l1 := (hz.le (key := o k)).1
  have l2 := (hz.le (key := o k)).2
  have p1 := (slP_pos hz (key := o k)).2
  have p2 := (slP_pos hz (key := o k)).1
  unfold wtO
  rw [n4, n6, toI _ (by omega), toI _ (by omega)]
  have e1 : (if (0 : Int) < ((slP (opP sl (o k)) : Nat) : Int) then 1 else 0 : Nat) = if (opP sl (o k)).isSome = true then 1 else 0 := by
    by_cases q : (opP sl (o k)).isSome = true
    · rw [if_pos q, if_pos (by have := p1.mpr q; omega)]
    · rw [if_neg q, if_neg (fun z => q (p1.mp (by omega)))]
  have e2 : (if (0 : Int) < ((slP (opB sl (o k)) : Nat) : Int) then 1 else 0 : Nat) = if (opB sl (o k)).isSome = true then 1 else 0 := by
    by_cases q : (opB sl (o k)).isSome = true
    · rw [if_pos q, if_pos (by have := p2.mpr q; omega)]
    · rw [if_neg q, if_neg (fun z => q (p2.mp (by omega)))]
  rw [e1, e2]
end TB
