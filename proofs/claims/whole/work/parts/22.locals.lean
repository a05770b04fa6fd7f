-- locals that are no longer read
def kNd (l : xL) : Prop := (l.map Prod.fst).Nodup
theorem xlk_none {i : Nat} : ∀ {l : xL}, i ∉ l.map Prod.fst → xlk i l = none
  | [], _ => rfl
  | q :: r, h => by
    rw [List.map_cons, List.mem_cons, not_or] at h
    unfold xlk
    rw [if_neg (by simpa using Ne.symm h.1)]
    exact xlk_none h.2
theorem xlk_put_ne {i j : Nat} {v : Value} (h : j ≠ i) : ∀ {l : xL}, xlk j (xput i v l) = xlk j l
  | [] => by
    unfold xput xlk
    rw [if_neg (by simpa using Ne.symm h)]
    rfl
  | q :: r => by
    unfold xput
    split
    · conv => lhs; unfold xlk
      rw [if_neg (by simpa using Ne.symm h)]
    · unfold xlk
      split
      · rfl
      · exact xlk_put_ne h
theorem xlk_put_eq {i : Nat} {v : Value} : ∀ {l : xL}, i ∉ l.map Prod.fst → xlk i (xput i v l) = some v
  | [], _ => by
    unfold xput xlk
    rw [if_pos (by simp)]
  | q :: r, h => by
    rw [List.map_cons, List.mem_cons, not_or] at h
    unfold xput
    split
    · unfold xlk
      rw [if_pos (by simp)]
    · unfold xlk
      rw [if_neg (by simpa using Ne.symm h.1)]
      exact xlk_put_eq h.2
theorem xput_keys {i : Nat} {v : Value} : ∀ {l : xL} {j : Nat}, j ∈ (xput i v l).map Prod.fst ↔ j = i ∨ j ∈ l.map Prod.fst
  | [], j => by simp [xput]
  | q :: r, j => by
    unfold xput
    split
    · simp
    · rw [List.map_cons, List.mem_cons, xput_keys, List.map_cons, List.mem_cons]
      exact or_left_comm
theorem xput_nd {i : Nat} {v : Value} : ∀ {l : xL}, i ∉ l.map Prod.fst → kNd l → kNd (xput i v l)
  | [], _, _ => by simp [xput, kNd]
  | q :: r, h, hn => by
    unfold xput
    unfold kNd at hn ⊢
    split
    · rw [List.map_cons, List.nodup_cons]
      exact ⟨h, hn⟩
    · rw [List.map_cons, List.mem_cons, not_or] at h
      rw [List.map_cons, List.nodup_cons] at hn
      rw [List.map_cons, List.nodup_cons, xput_keys, not_or]
      exact ⟨⟨Ne.symm h.1, hn.1⟩, xput_nd h.2 hn.2⟩
theorem kNd_filter {l : xL} (f : Nat × Value → Bool) (h : kNd l) : kNd (l.filter f) := by
  unfold kNd at h ⊢
  exact List.Sublist.nodup (List.Sublist.map _ (List.filter_sublist)) h
theorem xlk_filter {f : Nat × Value → Bool} {i : Nat} : ∀ {l : xL}, kNd l → xlk i (l.filter f) = (xlk i l).bind fun v => if f (i, v) then some v else none
  | [], _ => rfl
  | q :: r, h => by
    unfold kNd at h
    rw [List.map_cons, List.nodup_cons] at h
    have ih := xlk_filter (f := f) (i := i) (l := r) h.2
    conv => rhs; unfold xlk
    by_cases hq : q.1 = i
    · rw [if_pos (by simpa using hq)]
      by_cases hf : f q = true
      · rw [List.filter_cons_of_pos hf]
        unfold xlk
        rw [if_pos (by simpa using hq)]
        have e : f (i, q.2) = true := by rw [← hq]; exact hf
        simp [e]
      · rw [List.filter_cons_of_neg hf, ih, xlk_none (hq ▸ h.1)]
        have e : f (i, q.2) = false := by rw [← hq]; simpa using hf
        simp [e]
    · rw [if_neg (by simpa using hq), ← ih]
      by_cases hf : f q = true
      · rw [List.filter_cons_of_pos hf]
        conv => lhs; unfold xlk
        rw [if_neg (by simpa using hq)]
      · rw [List.filter_cons_of_neg hf]
def xLe (a b : xL) : Prop := kNd a ∧ kNd b ∧ ∀ i v, xlk i a = some v → xlk i b = some v
theorem xLe_put {a b : xL} {i : Nat} {v : Value} (f : Nat × Value → Bool) (hf : ∀ q, f q = true → q.1 ≠ i) (h : xLe a b) : xLe (xput i v (a.filter f)) (xput i v (b.filter f)) := by
  obtain ⟨h1, h2, h3⟩ := h
  have na : ∀ l : xL, i ∉ (l.filter f).map Prod.fst := by
    intro l hm
    obtain ⟨q, hq, hi⟩ := List.mem_map.mp hm
    exact hf q (List.mem_filter.mp hq).2 hi
  refine ⟨xput_nd (na a) (kNd_filter f h1), xput_nd (na b) (kNd_filter f h2), fun j w hj => ?_⟩
  by_cases hji : j = i
  · subst hji
    rw [xlk_put_eq (na a)] at hj
    rw [xlk_put_eq (na b)]
    exact hj
  · rw [xlk_put_ne hji, xlk_filter h1] at hj
    rw [xlk_put_ne hji, xlk_filter h2]
    cases hx : xlk j a with
    | none =>
      rw [hx] at hj
      cases hj
    | some z =>
      rw [hx] at hj
      rw [h3 j z hx]
      exact hj
theorem xLe_st1 {a b : xL} {i : Nat} {v : Value} (h : xLe a b) : xLe (xst1 i v a) (xst1 i v b) :=
  xLe_put _ (fun q hq e => by simp [e] at hq) h
theorem xLe_st2 {a b : xL} {i : Nat} {v : Value} (h : xLe a b) : xLe (xst2 i v a) (xst2 i v b) :=
  xLe_put _ (fun q hq e => by simp [e] at hq) h
theorem xLe_filter {a b : xL} (f : Nat × Value → Bool) (h : xLe a b) : xLe (a.filter f) (b.filter f) := by
  obtain ⟨h1, h2, h3⟩ := h
  refine ⟨kNd_filter f h1, kNd_filter f h2, fun j w hj => ?_⟩
  rw [xlk_filter h1] at hj
  rw [xlk_filter h2]
  cases hx : xlk j a with
  | none =>
    rw [hx] at hj
    cases hj
  | some z =>
    rw [hx] at hj
    rw [h3 j z hx]
    exact hj
/-- an answer with locals that go on being as large -/
def xOk (o o' : Option xN) : Prop := ∀ q, o = some q → ∃ ls', o' = some (q.1, ls', q.2.2) ∧ xLe q.2.1 ls'
theorem xOk_ls {a b : xL} (h : xLe a b) {pc : Nat} {st : List Value} {A : List xC} : xOk (some (pc, a, st, A)) (some (pc, b, st, A)) := fun q hq => by
  cases hq
  exact ⟨b, rfl, h⟩
theorem xOk_none {o : Option xN} : xOk none o := fun q hq => by cases hq
theorem xOk_i {a b : xL} (h : xLe a b) {i : Nat} {k k' : Int32 → Option xN} (hk : ∀ x, xOk (k x) (k' x)) : xOk (xlki (xlk i a) k) (xlki (xlk i b) k') := by
  cases hx : xlk i a with
  | none => exact xOk_none
  | some v =>
    rw [h.2.2 i v hx]
    cases v <;> first | exact hk _ | exact xOk_none
theorem xOk_l {a b : xL} (h : xLe a b) {i : Nat} {k k' : Int64 → Option xN} (hk : ∀ x, xOk (k x) (k' x)) : xOk (xlkl (xlk i a) k) (xlkl (xlk i b) k') := by
  cases hx : xlk i a with
  | none => exact xOk_none
  | some v =>
    rw [h.2.2 i v hx]
    cases v <;> first | exact hk _ | exact xOk_none
theorem xOk_a {a b : xL} (h : xLe a b) {i : Nat} {k k' : Nat → Option xN} (hk : ∀ x, xOk (k x) (k' x)) : xOk (xlka (xlk i a) k) (xlka (xlk i b) k') := by
  cases hx : xlk i a with
  | none => exact xOk_none
  | some v =>
    rw [h.2.2 i v hx]
    cases v <;> first | exact hk _ | exact xOk_none
theorem xOk_xi1 {st : List Value} {k k' : Int32 → List Value → Option xN} (hk : ∀ x r, xOk (k x r) (k' x r)) : xOk (xi1 st k) (xi1 st k') := by
  unfold xi1
  split
  · exact hk _ _
  · exact xOk_none
theorem xOk_xi2 {st : List Value} {k k' : Int32 → Int32 → List Value → Option xN} (hk : ∀ x y r, xOk (k x y r) (k' x y r)) : xOk (xi2 st k) (xi2 st k') := by
  unfold xi2
  split
  · exact hk _ _ _
  · exact xOk_none
theorem xOk_xl1 {st : List Value} {k k' : Int64 → List Value → Option xN} (hk : ∀ x r, xOk (k x r) (k' x r)) : xOk (xl1 st k) (xl1 st k') := by
  unfold xl1
  split
  · exact hk _ _
  · exact xOk_none
theorem xOk_xl2 {st : List Value} {k k' : Int64 → Int64 → List Value → Option xN} (hk : ∀ x y r, xOk (k x y r) (k' x y r)) : xOk (xl2 st k) (xl2 st k') := by
  unfold xl2
  split
  · exact hk _ _ _
  · exact xOk_none
theorem xOk_xli {st : List Value} {k k' : Int64 → Int32 → List Value → Option xN} (hk : ∀ x y r, xOk (k x y r) (k' x y r)) : xOk (xli st k) (xli st k') := by
  unfold xli
  split
  · exact hk _ _ _
  · exact xOk_none
theorem xOk_xr1 {st : List Value} {k k' : Nat → List Value → Option xN} (hk : ∀ x r, xOk (k x r) (k' x r)) : xOk (xr1 st k) (xr1 st k') := by
  unfold xr1
  split
  · exact hk _ _
  · exact xOk_none
theorem xOk_xri {st : List Value} {k k' : Nat → Int32 → List Value → Option xN} (hk : ∀ x y r, xOk (k x y r) (k' x y r)) : xOk (xri st k) (xri st k') := by
  unfold xri
  split
  · exact hk _ _ _
  · exact xOk_none
theorem xOk_xarI {c : Option xC} {ty : FieldType} {i : Int32} {k k' : Nat → (Nat → Int32) → Option xN} (hk : ∀ x y, xOk (k x y) (k' x y)) : xOk (xarI c ty i k) (xarI c ty i k') := by
  unfold xarI
  split
  · split
    · split
      · exact hk _ _
      · exact xOk_none
    · exact xOk_none
  · exact xOk_none
theorem xOk_xarL {c : Option xC} {i : Int32} {k k' : Nat → (Nat → Int64) → Option xN} (hk : ∀ x y, xOk (k x y) (k' x y)) : xOk (xarL c i k) (xarL c i k') := by
  unfold xarL
  split
  · split
    · split
      · exact hk _ _
      · exact xOk_none
    · exact xOk_none
  · exact xOk_none
theorem xOk_xob {c : Option xC} {ci : Nat} {k k' : List Value → Option xN} (hk : ∀ x, xOk (k x) (k' x)) : xOk (xob c ci k) (xob c ci k') := by
  unfold xob
  split
  · split
    · exact hk _
    · exact xOk_none
  · exact xOk_none
theorem xOk_ite {c : Prop} [Decidable c] {t t' e e' : Option xN} (h1 : xOk t t') (h2 : xOk e e') : xOk (if c then t else e) (if c then t' else e') := by
  split
  · exact h1
  · exact h2
set_option maxHeartbeats 1000000 in
theorem xs_le {sc : xSc} {nL d g : Nat} {r : xRow} {pc : Nat} {a b : xL} {st : List Value} {A : List xC} (h : xLe a b) : xOk (xs sc nL d g r pc a st A) (xs sc nL d g r pc b st A) := by
  obtain ⟨i0, r0, r1, r2, r3, rv, rk, sw⟩ := r
  cases i0 <;> simp only [xs]
  all_goals repeat' first
    | exact xOk_none
    | exact xOk_ls h
    | exact xOk_ls (xLe_st1 h)
    | exact xOk_ls (xLe_st2 h)
    | refine xOk_i h fun x => ?_
    | refine xOk_l h fun x => ?_
    | refine xOk_a h fun x => ?_
    | refine xOk_xi1 fun x r => ?_
    | refine xOk_xi2 fun x y r => ?_
    | refine xOk_xl1 fun x r => ?_
    | refine xOk_xl2 fun x y r => ?_
    | refine xOk_xli fun x y r => ?_
    | refine xOk_xr1 fun x r => ?_
    | refine xOk_xri fun x y r => ?_
    | refine xOk_xarI fun x y => ?_
    | refine xOk_xarL fun x y => ?_
    | refine xOk_xob fun x => ?_
    | refine xOk_ite ?_ ?_
    | split
theorem xr_le_ls {sc : xSc} : ∀ {n d mi pc : Nat} {a b : xL} {st : List Value} {h : xH} {r : xO × xH}, xLe a b → xr sc n d mi pc a st h = some r → xr sc n d mi pc b st h = some r
  | 0, _, _, _, _, _, _, _, _, _, hr => by cases hr
  | n + 1, d, mi, pc, a, b, st, h, r, hl, hr => by
    rw [xr_eq] at hr ⊢
    unfold xstep at hr ⊢
    cases hrow : xrow mi pc with
    | none =>
      rw [hrow] at hr
      cases hr
    | some r0 =>
      rw [hrow] at hr
      dsimp only at hr ⊢
      generalize xkd r0 = kk at hr ⊢
      match kk, hr with
      | 0, hr =>
        cases hq : xs sc (xme mi).2.2.1 d h.2 r0 pc a st h.1 with
        | none =>
          rw [hq] at hr
          cases hr
        | some q =>
          rw [hq] at hr
          obtain ⟨ls', e1, e2⟩ := xs_le hl q hq
          rw [e1]
          exact xr_le_ls e2 hr
      | 1, hr => exact hr
      | 2, hr =>
        match d, hr with
        | 0, hr => exact hr
        | d' + 1, hr =>
          dsimp only at hr ⊢
          cases hq : xcall r0 st h.1 with
          | none =>
            rw [hq] at hr
            cases hr
          | some q =>
            rw [hq] at hr
            dsimp only at hr ⊢
            cases hc : xr sc n d' r0.2.2.1 0 (lv_args 0 q.1) [] h with
            | none =>
              rw [hc] at hr
              cases hr
            | some z =>
              rw [hc] at hr
              obtain ⟨o, h1⟩ := z
              cases o with
              | inl v => exact xr_le_ls hl hr
              | inr ev =>
                dsimp only at hr ⊢
                cases ht : xhnd mi pc ev with
                | none =>
                  rw [ht] at hr
                  cases hr
                | some t =>
                  rw [ht] at hr
                  exact xr_le_ls (xLe_filter _ hl) hr
      | 3, hr => exact hr
      | 4, hr =>
        match d, hr with
        | d' + 8, hr =>
          change (if (st.map fun v => v.category).sum ≤ 8 then xr sc n (d' + 8) mi (pc + 5) a (.long r0.2.2.2.2.2.2.1 :: st) h else none) = some r at hr
          change (if (st.map fun v => v.category).sum ≤ 8 then xr sc n (d' + 8) mi (pc + 5) b (.long r0.2.2.2.2.2.2.1 :: st) h else none) = some r
          by_cases hcat : (st.map fun v => v.category).sum ≤ 8
          · rw [if_pos hcat] at hr ⊢
            exact xr_le_ls hl hr
          · rw [if_neg hcat] at hr
            cases hr
        | 0, hr => cases hr
        | 1, hr => cases hr
        | 2, hr => cases hr
        | 3, hr => cases hr
        | 4, hr => cases hr
        | 5, hr => cases hr
        | 6, hr => cases hr
        | 7, hr => cases hr
      | k + 5, hr => exact hr
theorem xlk_app {i : Nat} {v : Value} {ex : xL} : ∀ {l : xL}, xlk i l = some v → xlk i (l ++ ex) = some v
  | [], h => by cases h
  | q :: r, h => by
    rw [List.cons_append]
    unfold xlk at h ⊢
    split
    next hq =>
      rw [if_pos hq] at h
      exact h
    next hq =>
      rw [if_neg hq] at h
      exact xlk_app h
def ndB : List Nat → Bool
  | [] => true
  | a :: l => (l.all fun x => !(Nat.beq x a)) && ndB l
theorem ndB_nd : ∀ {l : List Nat}, ndB l = true → l.Nodup
  | [], _ => List.nodup_nil
  | a :: l, h => by
    unfold ndB at h
    rw [Bool.and_eq_true] at h
    refine List.nodup_cons.mpr ⟨fun hm => ?_, ndB_nd h.2⟩
    have := List.all_eq_true.mp h.1 a hm
    simp at this
/-- more locals do no harm -/
theorem xP_more {sc : xSc} {d mi pc : Nat} {ls : xL} {st : List Value} {h : xH} {P : xO → xH → Prop} (ex : xL) (hb : ndB ((ls ++ ex).map Prod.fst) = true) (k : xP sc d mi pc ls st h P) : xP sc d mi pc (ls ++ ex) st h P := by
  have hn := ndB_nd hb
  obtain ⟨n, o, h', e, hp⟩ := k
  refine ⟨n, o, h', xr_le_ls ⟨?_, hn, fun i v => xlk_app⟩ e, hp⟩
  unfold kNd
  rw [List.map_append] at hn
  exact (List.nodup_append.mp hn).1
