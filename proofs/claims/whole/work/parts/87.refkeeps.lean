-- what the steps keep: frames, parts, room
/-- frames that stand well on the parts -/
def gFr (Q0 Q : List xIt) (F : List xFr) : Prop := (∀ (i : Nat) (f : xFr), F[i]? = some f → Q0.length ≤ f.2.1 ∧ f.2.1 ≤ Q.length ∧ (1 ≤ i → 1 ≤ f.2.2.2.1) ∧ (f.2.2.2.1 = 2 → Q0.length ≤ f.2.2.2.2 ∧ f.2.2.2.2 < f.2.1 ∧ mny Q f.2.2.2.2 ≤ 6)) ∧ (∀ (i j : Nat) (f g : xFr), i ≤ j → F[i]? = some f → F[j]? = some g → f.2.1 ≤ g.2.1)
section PD
variable {Q0 Q : List xIt} {F : List xFr} {f : xFr}
theorem mny_app {E : List xIt} {i : Nat} (hi : i < Q.length) : mny (Q ++ E) i = mny Q i := by
  unfold mny
  rw [List.getElem?_append_left hi]
theorem mny_ins {r i : Nat} {p : xIt} (hi : i < r) (hr : r ≤ Q.length) : mny (ins Q r p) i = mny Q i := by
  unfold mny ins
  rw [List.getElem?_append_left (by rw [List.length_take]; omega), List.getElem?_take, if_pos hi]
theorem mny_inc {i j : Nat} (hj : mny Q j + 1 ≤ 6) (hi : mny Q i ≤ 6) : mny (inc Q j) i ≤ 6 := by
  unfold inc
  cases hq : Q[j]? with
  | none => exact hi
  | some p =>
    dsimp only
    have e : mny Q j = p.2.2.2 := by
      unfold mny
      rw [hq]
    have hl := (List.getElem?_eq_some_iff.mp hq).1
    by_cases h : i = j
    · subst h
      unfold mny
      rw [List.getElem?_set_self hl]
      dsimp only
      omega
    · unfold mny at hi ⊢
      rw [List.getElem?_set_ne (by omega)]
      exact hi
theorem inc_len (Q : List xIt) (i : Nat) : (inc Q i).length = Q.length := by
  unfold inc
  cases Q[i]? with
  | none => rfl
  | some p => exact List.length_set
theorem ins_len {r : Nat} {p : xIt} (hr : r ≤ Q.length) : (ins Q r p).length = Q.length + 1 := by
  unfold ins
  rw [List.length_append, List.length_cons, List.length_take, List.length_drop]
  omega
theorem gFr.app {E : List xIt} (h : gFr Q0 Q F) : gFr Q0 (Q ++ E) F := ⟨fun i f hf => by
  obtain ⟨h1, h2, h3, h4⟩ := h.1 i f hf
  refine ⟨h1, by rw [List.length_append]; omega, h3, fun q => ?_⟩
  obtain ⟨g1, g2, g3⟩ := h4 q
  exact ⟨g1, g2, by rw [mny_app (by omega)]; exact g3⟩, h.2⟩
theorem gFr.pop (h : gFr Q0 Q (F ++ [f])) : gFr Q0 Q F := ⟨fun i g hg => h.1 i g (by rw [List.getElem?_append_left (List.getElem?_eq_some_iff.mp hg).1]; exact hg), fun i j g g' hij hg hg' => h.2 i j g g' hij (by rw [List.getElem?_append_left (List.getElem?_eq_some_iff.mp hg).1]; exact hg) (by rw [List.getElem?_append_left (List.getElem?_eq_some_iff.mp hg').1]; exact hg')⟩
theorem gFr.top (h : gFr Q0 Q (F ++ [f])) : Q0.length ≤ f.2.1 ∧ f.2.1 ≤ Q.length ∧ (F = [] ∨ 1 ≤ f.2.2.2.1) ∧ (f.2.2.2.1 = 2 → Q0.length ≤ f.2.2.2.2 ∧ f.2.2.2.2 < f.2.1 ∧ mny Q f.2.2.2.2 ≤ 6) := by
  obtain ⟨h1, h2, h3, h4⟩ := h.1 F.length f (by simp)
  refine ⟨h1, h2, ?_, h4⟩
  cases F with
  | nil => exact Or.inl rfl
  | cons g G => exact Or.inr (h3 (by simp))
theorem gFr.set {x : Int} (h : gFr Q0 Q (F ++ [f])) : gFr Q0 Q (F ++ [sL f x]) := by
  have cv : ∀ (i : Nat) (g : xFr), (F ++ [sL f x])[i]? = some g → ∃ g', (F ++ [f])[i]? = some g' ∧ g'.2.1 = g.2.1 ∧ g'.2.2.2 = g.2.2.2 := by
    intro i g hg
    rcases ap_c hg with ⟨y1, y2⟩ | ⟨y1, y2⟩
    · exact ⟨g, by rw [List.getElem?_append_left y1]; exact y2, rfl, rfl⟩
    · rw [y1, y2]
      exact ⟨f, by simp, rfl, rfl⟩
  refine ⟨fun i g hg => ?_, fun i j g g' hij hg hg' => ?_⟩
  · obtain ⟨g1, c1, c2, c3⟩ := cv i g hg
    have := h.1 i g1 c1
    rw [c2, c3] at this
    exact this
  · obtain ⟨g1, c1, c2, c3⟩ := cv i g hg
    obtain ⟨g2, d1, d2, d3⟩ := cv j g' hg'
    rw [← c2, ← d2]
    exact h.2 i j g1 g2 hij c1 d1
theorem gFr.push {m : Int} {pu ow : Nat} (h : gFr Q0 Q F) (hq : Q0.length ≤ Q.length) (hp : F = [] ∨ 1 ≤ pu) (ho : pu = 2 → Q0.length ≤ ow ∧ ow < Q.length ∧ mny Q ow ≤ 6) : gFr Q0 Q (F ++ [(m, Q.length, -1, pu, ow)]) := by
  refine ⟨fun i g hg => ?_, fun i j g g' hij hg hg' => ?_⟩
  · rcases ap_c hg with ⟨y1, y2⟩ | ⟨y1, y2⟩
    · exact h.1 i g y2
    · rw [y2]
      refine ⟨hq, Nat.le_refl _, fun q => ?_, ho⟩
      rcases hp with z | z
      · rw [z] at y1
        have : ([] : List xFr).length = 0 := rfl
        omega
      · exact z
  · rcases ap_c hg' with ⟨y1, y2⟩ | ⟨y1, y2⟩
    · have hi : (F ++ [(m, Q.length, -1, pu, ow)])[i]? = F[i]? := List.getElem?_append_left (by omega)
      rw [hi] at hg
      exact h.2 i j g g' hij hg y2
    · rcases ap_c hg with ⟨z1, z2⟩ | ⟨z1, z2⟩
      · rw [y2]
        exact (h.1 i g z2).2.1
      · rw [y2, z2]
        exact Nat.le_refl _
theorem gFr.ins1 {p : xIt} (h : gFr Q0 Q (F ++ [f])) : gFr Q0 (ins Q f.2.1 p) (F ++ [f]) := by
  have ht := h.top
  refine ⟨fun i g hg => ?_, h.2⟩
  obtain ⟨h1, h2, h3, h4⟩ := h.1 i g hg
  have hi := (List.getElem?_eq_some_iff.mp hg).1
  rw [List.length_append, List.length_singleton] at hi
  have hr : g.2.1 ≤ f.2.1 := h.2 i F.length g f (by omega) hg (by simp)
  refine ⟨h1, by rw [ins_len ht.2.1]; omega, h3, fun q => ?_⟩
  obtain ⟨g1, g2, g3⟩ := h4 q
  exact ⟨g1, g2, by rw [mny_ins (by omega) ht.2.1]; exact g3⟩
theorem gFr.inc1 {j : Nat} (h : gFr Q0 Q F) (hj : mny Q j + 1 ≤ 6) : gFr Q0 (inc Q j) F := ⟨fun i g hg => by
  obtain ⟨h1, h2, h3, h4⟩ := h.1 i g hg
  refine ⟨h1, by rw [inc_len]; exact h2, h3, fun q => ?_⟩
  obtain ⟨g1, g2, g3⟩ := h4 q
  exact ⟨g1, g2, mny_inc hj g3⟩, h.2⟩
/-- the names of the tokens from s on, as far as an end, are allowed -/
def aT (al : List Nat → Prop) : Nat → List Nat → Prop
  | 0, _ => False
  | n + 1, s => (nx s).1 < 6 → ((nx s).1 = 1 ∨ (nx s).1 = 2 → al (nx s).2.2.1) ∧ (¬ (nx s).1 = 0 → aT al n (nx s).2.2.2)
def aS2 (al : List Nat → Prop) (s : List Nat) : Prop := ∃ n, aT al n s
theorem aS2.nm {al : List Nat → Prop} {s : List Nat} (h : aS2 al s) (hk : (nx s).1 = 1 ∨ (nx s).1 = 2) : al (nx s).2.2.1 := by
  obtain ⟨n, h⟩ := h
  cases n with
  | zero => cases h
  | succ n => exact (h (by omega)).1 hk
theorem aS2.nx1 {al : List Nat → Prop} {s : List Nat} (h : aS2 al s) (hk : (nx s).1 < 6) (h0 : ¬ (nx s).1 = 0) : aS2 al (nx s).2.2.2 := by
  obtain ⟨n, h⟩ := h
  cases n with
  | zero => cases h
  | succ n => exact ⟨n, (h hk).2 h0⟩
def fixL : List (List Nat) := [[46], [44], [91, 93], [123, 125]]
def flN (N : List (List Nat)) : Nat := (N.filter (fun u => !fixL.contains u)).length
/-- the names that are neither fixed nor that of the next token -/
def cnN (N : List (List Nat)) (s : List Nat) : Nat := (N.filter (fun u => !fixL.contains u && !(decide ((nx s).1 = 1) && decide (u = (nx s).2.2.1)))).length
theorem fil_le {α : Type} {p q : α → Bool} : ∀ (l : List α), (∀ x ∈ l, p x = true → q x = true) → (l.filter p).length ≤ (l.filter q).length
  | [], h => Nat.le_refl _
  | x :: l, h => by
    have ih := fil_le l (fun y hy => h y (List.mem_cons_of_mem x hy))
    rw [List.filter_cons, List.filter_cons]
    have hx := h x List.mem_cons_self
    cases hp : p x with
    | true =>
      rw [hx hp, if_pos rfl, if_pos rfl, List.length_cons, List.length_cons]
      omega
    | false =>
      rw [if_neg (by decide)]
      split
      · rw [List.length_cons]
        omega
      · exact ih
theorem fil_1 {w : List Nat} {q : List Nat → Bool} : ∀ (l : List (List Nat)), l.Nodup → (l.filter q).length ≤ (l.filter (fun u => q u && !(decide (u = w)))).length + 1
  | [], h => Nat.zero_le _
  | x :: l, h => by
    rw [List.nodup_cons] at h
    have ih := fil_1 (w := w) (q := q) l h.2
    by_cases hx : x = w
    · have e : (l.filter q).length ≤ (l.filter (fun u => q u && !(decide (u = w)))).length := fil_le l (fun y hy hq => by
        have : ¬ y = w := fun z => h.1 (by rw [hx, ← z]; exact hy)
        simp [hq, this])
      rw [List.filter_cons, List.filter_cons]
      have e2 : (q x && !(decide (x = w))) = false := by simp [hx]
      rw [e2, if_neg (c := false = true) (by decide)]
      split
      · rw [List.length_cons]
        omega
      · omega
    · rw [List.filter_cons, List.filter_cons]
      have e2 : (q x && !(decide (x = w))) = q x := by simp [hx]
      rw [e2]
      split
      · rw [List.length_cons, List.length_cons]
        omega
      · exact ih
variable {N : List (List Nat)} {w s s' : List Nat}
theorem cn_fl : cnN N s ≤ flN N := fil_le N (fun x _ h => by
  rw [Bool.and_eq_true] at h
  exact h.1)
theorem fl_cn (h : ¬ (nx s).1 = 1) : flN N ≤ cnN N s := fil_le N (fun x _ hx => by
  rw [hx]
  simp [h])
theorem fl_cn1 (hn : N.Nodup) : flN N ≤ cnN N s + 1 := by
  refine Nat.le_trans (fil_1 (w := (nx s).2.2.1) N hn) (Nat.succ_le_succ (fil_le N (fun x _ hx => ?_)))
  simp only [Bool.and_eq_true, Bool.not_eq_true', decide_eq_false_iff_not] at hx ⊢
  refine ⟨hx.1, ?_⟩
  simp [hx.2]
theorem fl_nm : flN (nmA N w) ≤ flN N + 1 := by
  unfold nmA flN
  split
  · omega
  · rw [List.filter_append, List.length_append]
    have : (([w] : List (List Nat)).filter (fun u => !fixL.contains u)).length ≤ 1 := List.length_filter_le _ _
    omega
theorem fl_fx (h : fixL.contains w = true) : flN (nmA N w) = flN N := by
  unfold nmA flN
  split
  · rfl
  · rw [List.filter_append, List.length_append]
    have : ([w] : List (List Nat)).filter (fun u => !fixL.contains u) = [] := by
      rw [List.filter_cons, h]
      rfl
    rw [this]
    rfl
/-- the name of the next token is taken in -/
theorem fl_tk (hn : N.Nodup) (h1 : (nx s).1 = 1) : flN (nmA N (nx s).2.2.1) ≤ cnN N s + 1 := by
  by_cases hm : (nx s).2.2.1 ∈ N
  · have e : nmA N (nx s).2.2.1 = N := if_pos hm
    rw [e]
    exact fl_cn1 hn
  · have e : flN N ≤ cnN N s := fil_le N (fun x hx hq => by
      have : ¬ x = (nx s).2.2.1 := fun z => hm (by rw [← z]; exact hx)
      rw [hq]
      simp [this])
    have := fl_nm (N := N) (w := (nx s).2.2.1)
    omega
theorem cn_tk (h1 : (nx s).1 = 1) : cnN (nmA N (nx s).2.2.1) s ≤ cnN N s := by
  unfold nmA
  split
  · exact Nat.le_refl _
  · unfold cnN
    rw [List.filter_append, List.length_append]
    have : ([(nx s).2.2.1] : List (List Nat)).filter (fun u => !fixL.contains u && !(decide ((nx s).1 = 1) && decide (u = (nx s).2.2.1))) = [] := by
      rw [List.filter_cons]
      simp [h1]
    rw [this]
    exact Nat.le_refl _
theorem nmA_nd (h : N.Nodup) : (nmA N w).Nodup := by
  unfold nmA
  split
  · exact h
  · next hm =>
    rw [List.nodup_append]
    refine ⟨h, by simp, fun x hx y hy => ?_⟩
    rw [List.mem_singleton] at hy
    rw [hy]
    intro q
    exact hm (by rw [← q]; exact hx)
theorem nmA_mem {u : List Nat} (h : u ∈ nmA N w) : u ∈ N ∨ u = w := by
  unfold nmA at h
  split at h
  · exact Or.inl h
  · rw [List.mem_append, List.mem_singleton] at h
    exact h
end PD
/-- what the steps keep -/
def zI (al : List Nat → Prop) (N0 : List (List Nat)) (Q0 : List xIt) (K c : Nat) (s : List Nat) (vs N : List (List Nat)) (Q : List xIt) (F : List xFr) : Prop :=
  (∃ M, N = N0 ++ M) ∧ (∃ R, Q = Q0 ++ R) ∧ gFr Q0 Q F ∧ Q.length + 2 * s.length ≤ K ∧ vs.length + s.length ≤ 120 ∧ N.Nodup ∧ (∀ u ∈ N, al u) ∧ aS2 al s ∧ cnN N s ≤ Q.length + c
