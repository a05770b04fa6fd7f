-- slots: told and taken back, looked up
def uS (sl : List xSl) : Prop := ∀ (i j : Nat) (e e' : xSl), sl[i]? = some e → sl[j]? = some e' → e.1 = e'.1 → isPre e.2.2 = isPre e'.2.2 → i = j
def opX (b : Bool) (sl : List xSl) (key : Int64) : Option xSl := slE sl (fnd b key sl 0)
theorem fnd_hit {b : Bool} {key : Int64} : ∀ (sl : List xSl) (i : Nat), (∃ e ∈ sl, e.1 = key ∧ isPre e.2.2 = b) → ∃ j, fnd b key sl i = some j
  | [], i, h => by
    obtain ⟨e, he, _⟩ := h
    cases he
  | x :: r, i, h => by
    unfold fnd
    by_cases hx : x.1 = key ∧ isPre x.2.2 = b
    · exact ⟨i, if_pos hx⟩
    · rw [if_neg hx]
      obtain ⟨e, he, h2⟩ := h
      rcases List.mem_cons.mp he with y | y
      · rw [y] at h2
        exact absurd h2 hx
      · exact fnd_hit r (i + 1) ⟨e, y, h2⟩
theorem fnd_0 {b : Bool} {key : Int64} {sl : List xSl} {j : Nat} (h : fnd b key sl 0 = some j) : ∃ e, sl[j]? = some e ∧ e.1 = key ∧ isPre e.2.2 = b := by
  obtain ⟨_, e, h1, h2⟩ := fnd_some h
  rw [Nat.sub_zero] at h1
  exact ⟨e, h1, h2⟩
theorem fnd_no {b : Bool} {key : Int64} {sl : List xSl} (h : fnd b key sl 0 = none) : ∀ e ∈ sl, ¬ (e.1 = key ∧ isPre e.2.2 = b) := fun e he q => by
  obtain ⟨j, hj⟩ := fnd_hit sl 0 ⟨e, he, q⟩
  rw [h] at hj
  cases hj
section SU
variable {sl sl' : List xSl} {b : Bool} {key : Int64} {e : xSl} {p ty : Nat}
theorem opX_iff (u : uS sl) : opX b sl key = some e ↔ (e ∈ sl ∧ e.1 = key ∧ isPre e.2.2 = b) := by
  constructor
  · intro h
    unfold opX slE at h
    cases hf : fnd b key sl 0 with
    | none =>
      rw [hf] at h
      cases h
    | some j =>
      obtain ⟨e', h1, h2⟩ := fnd_0 hf
      rw [hf] at h
      have h : sl[j]? = some e := h
      rw [h1] at h
      cases h
      exact ⟨List.mem_of_getElem? h1, h2⟩
  · intro ⟨h1, h2, h3⟩
    obtain ⟨j, hj⟩ := fnd_hit (b := b) (key := key) sl 0 ⟨e, h1, h2, h3⟩
    obtain ⟨e', g1, g2, g3⟩ := fnd_0 hj
    obtain ⟨i, hi⟩ := List.mem_iff_getElem?.mp h1
    have eij := u i j e e' hi g1 (h2.trans g2.symm) (h3.trans g3.symm)
    unfold opX slE
    rw [hj]
    show sl[j]? = some e
    rw [← eij]
    exact hi
theorem opX_ext (u : uS sl) (u' : uS sl') (h : ∀ e, e.1 = key → isPre e.2.2 = b → (e ∈ sl' ↔ e ∈ sl)) : opX b sl' key = opX b sl key := by
  cases hx : opX b sl key with
  | some e =>
    have q := (opX_iff u).mp hx
    exact (opX_iff u').mpr ⟨(h e q.2.1 q.2.2).mpr q.1, q.2⟩
  | none =>
    cases hy : opX b sl' key with
    | none => rfl
    | some e =>
      have q := (opX_iff u').mp hy
      rw [(opX_iff u).mpr ⟨(h e q.2.1 q.2.2).mp q.1, q.2⟩] at hx
      cases hx
/-- told: the slots then -/
theorem tell_m (u : uS sl) (hc : canS sl ty key = true) : uS (tellS sl p ty key) ∧ (∀ e, e ∈ tellS sl p ty key ↔ (e = (key, p, ty) ∨ (e ∈ sl ∧ ¬ (e.1 = key ∧ isPre e.2.2 = isPre ty)))) ∧ (tellS sl p ty key).length = sl.length + (if (fnd (isPre ty) key sl 0).isSome = true then 0 else 1) := by
  unfold tellS
  cases hf : fnd (isPre ty) key sl 0 with
  | some i =>
    obtain ⟨e0, g1, g2, g3⟩ := fnd_0 hf
    have hi := (List.getElem?_eq_some_iff.mp g1).1
    dsimp only
    refine ⟨fun a c x y hx hy h1 h2 => ?_, fun e => ?_, by rw [List.length_set]; rfl⟩
    · -- uniqueness
      have cv : ∀ (a : Nat) (x : xSl), (sl.set i (key, p, ty))[a]? = some x → ∃ x', sl[a]? = some x' ∧ x'.1 = x.1 ∧ isPre x'.2.2 = isPre x.2.2 := fun a x hx => by
        by_cases ha : a = i
        · subst ha
          rw [List.getElem?_set_self hi] at hx
          cases hx
          exact ⟨e0, g1, g2, g3⟩
        · rw [List.getElem?_set_ne (by omega)] at hx
          exact ⟨x, hx, rfl, rfl⟩
      obtain ⟨x', x1, x2, x3⟩ := cv a x hx
      obtain ⟨y', y1, y2, y3⟩ := cv c y hy
      exact u a c x' y' x1 y1 (x2.trans (h1.trans y2.symm)) (x3.trans (h2.trans y3.symm))
    · constructor
      · intro he
        obtain ⟨a, ha⟩ := List.mem_iff_getElem?.mp he
        by_cases hai : a = i
        · subst hai
          rw [List.getElem?_set_self hi] at ha
          cases ha
          exact Or.inl rfl
        · rw [List.getElem?_set_ne (by omega)] at ha
          refine Or.inr ⟨List.mem_of_getElem? ha, fun q => hai ?_⟩
          exact u a i e e0 ha g1 (q.1.trans g2.symm) (q.2.trans g3.symm)
      · intro h
        rcases h with h | ⟨h1, h2⟩
        · rw [h]
          exact List.mem_iff_getElem?.mpr ⟨i, List.getElem?_set_self hi⟩
        · obtain ⟨a, ha⟩ := List.mem_iff_getElem?.mp h1
          have hai : ¬ i = a := fun q => h2 (by
            rw [q, ha] at g1
            cases g1
            exact ⟨g2, g3⟩)
          exact List.mem_iff_getElem?.mpr ⟨a, by rw [List.getElem?_set_ne hai]; exact ha⟩
  | none =>
    have hno := fnd_no hf
    have hlt : sl.length < 25 := by
      unfold canS at hc
      rw [hf] at hc
      exact of_decide_eq_true hc
    dsimp only
    rw [if_pos hlt]
    refine ⟨fun a c x y hx hy h1 h2 => ?_, fun e => ?_, by rw [List.length_append]; rfl⟩
    · rcases ap_c hx with ⟨a1, a2⟩ | ⟨a1, a2⟩
      · rcases ap_c hy with ⟨b1, b2⟩ | ⟨b1, b2⟩
        · exact u a c x y a2 b2 h1 h2
        · rw [b2] at h1 h2
          exact absurd ⟨h1, h2⟩ (hno x (List.mem_of_getElem? a2))
      · rcases ap_c hy with ⟨b1, b2⟩ | ⟨b1, b2⟩
        · rw [a2] at h1 h2
          exact absurd ⟨h1.symm, h2.symm⟩ (hno y (List.mem_of_getElem? b2))
        · omega
    · rw [List.mem_append, List.mem_singleton]
      constructor
      · intro h
        rcases h with h | h
        · exact Or.inr ⟨h, hno e h⟩
        · exact Or.inl h
      · intro h
        rcases h with h | h
        · exact Or.inr h
        · exact Or.inl h.1
/-- taken back: the slots then -/
theorem take_m (u : uS sl) : uS (takeS sl ty key) ∧ (∀ e, e ∈ takeS sl ty key ↔ (e ∈ sl ∧ ¬ (e.1 = key ∧ isPre e.2.2 = isPre ty))) ∧ (takeS sl ty key).length + (if (fnd (isPre ty) key sl 0).isSome = true then 1 else 0) = sl.length := by
  unfold takeS
  cases hf : fnd (isPre ty) key sl 0 with
  | none =>
    have hno := fnd_no hf
    dsimp only
    exact ⟨u, fun e => ⟨fun h => ⟨h, hno e h⟩, fun h => h.1⟩, rfl⟩
  | some i =>
    obtain ⟨e0, g1, g2, g3⟩ := fnd_0 hf
    have hi := (List.getElem?_eq_some_iff.mp g1).1
    obtain ⟨z, hz⟩ : ∃ z, sl[sl.length - 1]? = some z := ⟨sl[sl.length - 1]'(by omega), List.getElem?_eq_getElem (by omega)⟩
    dsimp only
    rw [hz]
    dsimp only
    have hlen : (sl.set i z).dropLast.length = sl.length - 1 := by rw [List.length_dropLast, List.length_set]
    have gt : ∀ a, a < sl.length - 1 → (sl.set i z).dropLast[a]? = if a = i then some z else sl[a]? := fun a ha => by
      rw [List.dropLast_eq_take, List.length_set, List.getElem?_take, if_pos ha]
      split
      next q =>
        subst q
        exact List.getElem?_set_self hi
      next q => exact List.getElem?_set_ne (by omega)
    -- where an entry was
    have cv : ∀ (a : Nat) (x : xSl), (sl.set i z).dropLast[a]? = some x → ∃ a', sl[a']? = some x ∧ ¬ a' = i ∧ a < sl.length - 1 ∧ a' = (if a = i then sl.length - 1 else a) := fun a x hx => by
      have ha := (List.getElem?_eq_some_iff.mp hx).1
      rw [hlen] at ha
      rw [gt a ha] at hx
      by_cases q : a = i
      · rw [if_pos q] at hx
        cases hx
        exact ⟨sl.length - 1, hz, by omega, ha, by rw [if_pos q]⟩
      · rw [if_neg q] at hx
        exact ⟨a, hx, q, ha, by rw [if_neg q]⟩
    refine ⟨fun a c x y hx hy h1 h2 => ?_, fun e => ?_, by
      rw [hlen]
      show sl.length - 1 + 1 = sl.length
      omega⟩
    · obtain ⟨a', x1, x2, x3, x4⟩ := cv a x hx
      obtain ⟨c', y1, y2, y3, y4⟩ := cv c y hy
      have := u a' c' x y x1 y1 h1 h2
      rw [x4, y4] at this
      split at this <;> split at this <;> omega
    · constructor
      · intro he
        obtain ⟨a, ha⟩ := List.mem_iff_getElem?.mp he
        obtain ⟨a', x1, x2, _, _⟩ := cv a e ha
        refine ⟨List.mem_of_getElem? x1, fun q => x2 ?_⟩
        exact u a' i e e0 x1 g1 (q.1.trans g2.symm) (q.2.trans g3.symm)
      · intro ⟨h1, h2⟩
        obtain ⟨a, ha⟩ := List.mem_iff_getElem?.mp h1
        have hal := (List.getElem?_eq_some_iff.mp ha).1
        have hai : ¬ a = i := fun q => h2 (by
          rw [q, g1] at ha
          cases ha
          exact ⟨g2, g3⟩)
        by_cases hl : a = sl.length - 1
        · have ez : e = z := by
            rw [hl, hz] at ha
            exact (Option.some.inj ha).symm
          refine List.mem_iff_getElem?.mpr ⟨i, ?_⟩
          rw [gt i (by omega), if_pos rfl, ez]
        · refine List.mem_iff_getElem?.mpr ⟨a, ?_⟩
          rw [gt a (by omega), if_neg hai]
          exact ha
/-- looked up afterwards -/
def opN (sl : List xSl) (p ty : Nat) (key : Int64) (b : Bool) (key' : Int64) : Option xSl := if key' = key ∧ b = isPre ty then (if p = 0 then none else some (key, p, ty)) else opX b sl key'
theorem tell_X (u : uS sl) (hc : canS sl ty key = true) (hp : ¬ p = 0) (b : Bool) (key' : Int64) : opX b (tellS sl p ty key) key' = opN sl p ty key b key' := by
  obtain ⟨u', hm, _⟩ := tell_m (p := p) u hc
  unfold opN
  by_cases h : key' = key ∧ b = isPre ty
  · rw [if_pos h, if_neg hp]
    exact (opX_iff u').mpr ⟨(hm _).mpr (Or.inl rfl), h.1.symm, h.2.symm⟩
  · rw [if_neg h]
    refine opX_ext u u' (fun e h1 h2 => ?_)
    rw [hm]
    constructor
    · intro q
      rcases q with q | q
      · rw [q] at h1 h2
        exact absurd ⟨h1.symm, h2.symm⟩ h
      · exact q.1
    · intro q
      exact Or.inr ⟨q, fun z => h ⟨h1.symm.trans z.1, h2.symm.trans z.2⟩⟩
theorem take_X (u : uS sl) (b : Bool) (key' : Int64) : opX b (takeS sl ty key) key' = opN sl 0 ty key b key' := by
  obtain ⟨u', hm, _⟩ := take_m (ty := ty) (key := key) u
  unfold opN
  by_cases h : key' = key ∧ b = isPre ty
  · rw [if_pos h, if_pos rfl]
    cases hx : opX b (takeS sl ty key) key' with
    | none => rfl
    | some e =>
      have q := (opX_iff u').mp hx
      exact absurd ⟨q.2.1.trans h.1, q.2.2.trans h.2⟩ ((hm e).mp q.1).2
  · rw [if_neg h]
    refine opX_ext u u' (fun e h1 h2 => ?_)
    rw [hm]
    exact ⟨fun q => q.1, fun q => ⟨q, fun z => h ⟨h1.symm.trans z.1, h2.symm.trans z.2⟩⟩⟩
end SU
-- sums over a table
def sumW (w : Nat → Nat) : Nat → Nat
  | 0 => 0
  | n + 1 => sumW w n + w n
theorem sumW_ext {w w' : Nat → Nat} : ∀ {n : Nat}, (∀ i, i < n → w' i = w i) → sumW w' n = sumW w n
  | 0, h => rfl
  | n + 1, h => by
    rw [sumW, sumW, sumW_ext (fun i hi => h i (by omega)), h n (by omega)]
theorem sumW_upd {w w' : Nat → Nat} {k : Nat} : ∀ {n : Nat}, k < n → (∀ i, i < n → ¬ i = k → w' i = w i) → sumW w' n + w k = sumW w n + w' k
  | 0, hk, h => by omega
  | n + 1, hk, h => by
    rw [sumW, sumW]
    by_cases e : k = n
    · subst e
      rw [sumW_ext (w := w) (w' := w') (fun i hi => h i (by omega) (by omega))]
      omega
    · have := sumW_upd (n := n) (by omega) (fun i hi hk => h i (by omega) hk)
      rw [h n (by omega) (by omega)]
      omega
theorem sumW_le {w : Nat → Nat} : ∀ {n : Nat}, (∀ i, i < n → 1 ≤ w i) → n ≤ sumW w n
  | 0, h => Nat.le_refl _
  | n + 1, h => by
    have := sumW_le (n := n) (fun i hi => h i (by omega))
    have := h n (by omega)
    rw [sumW]
    omega
def wtO (a : Nat → Nat → Int32) (i : Nat) : Nat := (if 0 < (a 31 i).toInt then 1 else 0) + (if 0 < (a 33 i).toInt then 1 else 0)
theorem cntO_s (a : Nat → Nat → Int32) : ∀ n, cntO a n = sumW (wtO a) n
  | 0 => rfl
  | n + 1 => by
    have e : cntO a (n + 1) = cntO a n + (if 0 < (a 31 n).toInt then 1 else 0) + (if 0 < (a 33 n).toInt then 1 else 0) := rfl
    rw [sumW, ← cntO_s a n, e]
    unfold wtO
    omega
