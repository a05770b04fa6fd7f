-- what is read is a chain of tokens
abbrev TA (s s' : List Nat) : Prop := TN anyN s s'
theorem TA.nx1 {s : List Nat} (h : (nx s).1 < 6) (h0 : ¬ (nx s).1 = 0) : TA s (nx s).2.2.2 := TN.one h h0 (fun _ => trivial)
section TC
variable {sl : List xSl} {T : Int → xSt → Option xRs}
theorem opB_1 {q : xTok} {e : xSl} (hsl : ∀ e ∈ sl, ¬ e.1 = 0) (h : opB sl (tK q) = some e) : ¬ q.1 = 0 := fun z => by
  obtain ⟨g1, g2, _⟩ := opB_e h
  have : tK q = 0 := by
    unfold tK
    rw [if_neg (by omega), if_neg (by omega)]
  exact hsl e g1 (by rw [g2, this])
theorem rst_T (hsl : ∀ e ∈ sl, ¬ e.1 = 0) (hT : ∀ most st x, T most st = some x → TA st.1 x.2.2.1.1) : ∀ (n : Nat) (most : Int) (s0 : List Nat) (y x : xRs), TA s0 y.2.2.1.1 → rst sl T n most y = some x → TA s0 x.2.2.1.1
  | 0, most, st0, y, x, hy, h => by cases h
  | n + 1, most, s0, (L, D, st, pr), x, hy, h => by
    unfold rst at h
    split at h
    · cases h
    · cases ho : opB sl (tK (nx st.1)) with
      | none =>
        rw [ho] at h
        cases h
        exact hy
      | some e =>
        rw [ho] at h
        dsimp only at h
        have t1 : TA st.1 (nx st.1).2.2.2 := TA.nx1 (opB_k hsl ho) (opB_1 hsl ho)
        have hy : TA s0 st.1 := hy
        split at h
        · split at h
          · split at h
            · cases hr : T (oRight (some e)) ((nx st.1).2.2.2, st.2) with
              | none =>
                rw [hr] at h
                cases h
              | some z =>
                obtain ⟨R, DR, st', pr'⟩ := z
                rw [hr] at h
                have z1 : TA (nx st.1).2.2.2 st'.1 := hT _ _ _ hr
                exact rst_T hsl hT n most s0 _ x ((hy.trans t1).trans z1) h
            · cases h
              exact hy
          · exact rst_T hsl hT n most s0 _ x (hy.trans t1) h
        · cases h
          exact hy
theorem mk_T {s : List Nat} {c : Nat} (h : isMk s c = true) : TA s (nx s).2.2.2 := TA.nx1 (by rw [(isMk_k h).1]; omega) (by rw [(isMk_k h).1]; omega)
theorem args_T (hT : ∀ most st x, T most st = some x → TA st.1 x.2.2.1.1) : ∀ (n : Nat) (st : xSt) (x : List xIt × Nat × Nat × xSt), args T n st = some x → TA st.1 x.2.2.2.1
  | 0, st, x, h => by cases h
  | n + 1, st, x, h => by
    unfold args at h
    cases hr : T 999 st with
    | none =>
      rw [hr] at h
      cases h
    | some z =>
      obtain ⟨R, DR, st', pr'⟩ := z
      rw [hr] at h
      have z1 : TA st.1 st'.1 := hT _ _ _ hr
      dsimp only at h
      split at h
      next hm =>
        cases ha : args T n ((nx st'.1).2.2.2, st'.2) with
        | none =>
          rw [ha] at h
          cases h
        | some y =>
          obtain ⟨As, k, DA, st2⟩ := y
          rw [ha] at h
          cases h
          have a1 : TA (nx st'.1).2.2.2 st2.1 := args_T hT n _ _ ha
          exact (z1.trans (mk_T hm)).trans a1
      next =>
        split at h
        next hm =>
          cases h
          exact z1.trans (mk_T hm)
        next => cases h
theorem lst_T (hT : ∀ most st x, T most st = some x → TA st.1 x.2.2.1.1) : ∀ (n : Nat) (st : xSt) (x : List xIt × Nat × xSt), lst T n st = some x → TA st.1 x.2.2.1
  | 0, st, x, h => by cases h
  | n + 1, st, x, h => by
    unfold lst at h
    cases hr : T 999 st with
    | none =>
      rw [hr] at h
      cases h
    | some z =>
      obtain ⟨E, DE, st', pr'⟩ := z
      rw [hr] at h
      have z1 : TA st.1 st'.1 := hT _ _ _ hr
      dsimp only at h
      split at h
      next hm =>
        cases ha : lst T n ((nx st'.1).2.2.2, st'.2) with
        | none =>
          rw [ha] at h
          cases h
        | some y =>
          obtain ⟨M, DM, st2⟩ := y
          rw [ha] at h
          cases h
          have a1 : TA (nx st'.1).2.2.2 st2.1 := lst_T hT n _ _ ha
          exact (z1.trans (mk_T hm)).trans a1
      next =>
        split at h
        next hm =>
          cases ha : T 999 ((nx st'.1).2.2.2, st'.2) with
          | none =>
            rw [ha] at h
            cases h
          | some y =>
            obtain ⟨M, DM, st2, pr2⟩ := y
            rw [ha] at h
            have a1 : TA (nx st'.1).2.2.2 st2.1 := hT _ _ _ ha
            dsimp only at h
            split at h
            next hm2 =>
              cases h
              exact ((z1.trans (mk_T hm)).trans a1).trans (mk_T hm2)
            next => cases h
        next =>
          split at h
          next hm =>
            cases h
            exact z1.trans (mk_T hm)
          next => cases h
theorem fst1_T (hT : ∀ most st x, T most st = some x → TA st.1 x.2.2.1.1) {most : Int} {st : xSt} {x : xRs} (h : fst1 sl T most st = some x) : TA st.1 x.2.2.1.1 := by
  unfold fst1 at h
  split at h
  next h1 =>
    cases h
    exact TA.nx1 (by omega) (by omega)
  next h1 =>
    split at h
    next h3 =>
      cases h
      exact TA.nx1 (by omega) (by omega)
    next h3 =>
      split at h
      next h4 =>
        cases h
        exact TA.nx1 (by omega) (by omega)
      next h4 =>
        split at h
        next h5 =>
          have t1 : TA st.1 (nx st.1).2.2.2 := TA.nx1 (by omega) (by omega)
          split at h
          · split at h
            next h6 =>
              cases h
              exact t1.trans (TA.nx1 (by omega) (by omega))
            next => cases h
          · split at h
            next h6 =>
              have hc : (nx st.1).2.2.2.head? = some 40 := by
                simp [isCal] at h6
                exact h6.2
              have ht : TA (nx st.1).2.2.2 (nx st.1).2.2.2.tail := by
                cases hr : (nx st.1).2.2.2 with
                | nil =>
                  rw [hr] at hc
                  cases hc
                | cons c r =>
                  rw [hr] at hc
                  have : c = 40 := Option.some.inj hc
                  subst this
                  exact TN.mk (by decide) (fun q => absurd q (by decide)) (fun q => absurd q (by decide))
              cases ha : args T 6 ((nx st.1).2.2.2.tail, st.2) with
              | none =>
                rw [ha] at h
                cases h
              | some y =>
                obtain ⟨As, k, DA, st'⟩ := y
                rw [ha] at h
                cases h
                have a1 : TA (nx st.1).2.2.2.tail st'.1 := args_T hT 6 _ _ ha
                exact (t1.trans ht).trans a1
            next =>
              cases hp : pfx sl most st.1 with
              | none =>
                rw [hp] at h
                cases h
                exact t1
              | some e =>
                rw [hp] at h
                dsimp only at h
                cases hr : T (oRight (some e)) ((nx st.1).2.2.2, st.2) with
                | none =>
                  rw [hr] at h
                  cases h
                | some z =>
                  obtain ⟨R, DR, st', pr'⟩ := z
                  rw [hr] at h
                  cases h
                  have z1 : TA (nx st.1).2.2.2 st'.1 := hT _ _ _ hr
                  exact t1.trans z1
        next h5 =>
          split at h
          next hm =>
            cases hr : T 1200 ((nx st.1).2.2.2, st.2) with
            | none =>
              rw [hr] at h
              cases h
            | some z =>
              obtain ⟨R, DR, st', pr'⟩ := z
              rw [hr] at h
              have z1 : TA (nx st.1).2.2.2 st'.1 := hT _ _ _ hr
              dsimp only at h
              split at h
              next hm2 =>
                cases h
                exact ((mk_T hm).trans z1).trans (mk_T hm2)
              next => cases h
          next =>
            split at h
            next hm =>
              cases hr : T 1200 ((nx st.1).2.2.2, st.2) with
              | none =>
                rw [hr] at h
                cases h
              | some z =>
                obtain ⟨R, DR, st', pr'⟩ := z
                rw [hr] at h
                have z1 : TA (nx st.1).2.2.2 st'.1 := hT _ _ _ hr
                dsimp only at h
                split at h
                next hm2 =>
                  cases h
                  exact ((mk_T hm).trans z1).trans (mk_T hm2)
                next => cases h
            next =>
              split at h
              next hm =>
                cases ha : lst T 120 ((nx st.1).2.2.2, st.2) with
                | none =>
                  rw [ha] at h
                  cases h
                | some y =>
                  obtain ⟨M, DM, st'⟩ := y
                  rw [ha] at h
                  cases h
                  have a1 : TA (nx st.1).2.2.2 st'.1 := lst_T hT 120 _ _ ha
                  exact (mk_T hm).trans a1
              next => cases h
theorem tmF_T (hsl : ∀ e ∈ sl, ¬ e.1 = 0) : ∀ (n : Nat) (most : Int) (st : xSt) (x : xRs), tmF sl n most st = some x → TA st.1 x.2.2.1.1
  | 0, most, st, x, h => by cases h
  | n + 1, most, st, x, h => by
    unfold tmF at h
    cases hf : fst1 sl (tmF sl n) most st with
    | none =>
      rw [hf] at h
      cases h
    | some y =>
      rw [hf] at h
      exact rst_T hsl (tmF_T hsl n) 120 most st.1 y x (fst1_T (tmF_T hsl n) hf) h
theorem wholeF_T {t : List Nat} {L : List xIt} {D : Nat} {s' : List Nat} (hsl : ∀ e ∈ sl, ¬ e.1 = 0) (h : wholeF sl t = some (L, D, s')) : ∃ s2, TA t s2 ∧ (nx s2).1 = 0 ∧ s' = (nx s2).2.2.2 ∧ dT D L ∧ D ≤ 14 := by
  unfold wholeF at h
  cases hr : tmF sl 11 1200 (t, []) with
  | none =>
    rw [hr] at h
    cases h
  | some z =>
    obtain ⟨R, DR, st', pr'⟩ := z
    rw [hr] at h
    dsimp only at h
    split at h
    next hc =>
      cases h
      have z1 : TA t st'.1 := tmF_T hsl 11 1200 (t, []) _ hr
      exact ⟨st'.1, z1, hc.2, rfl, tmF_D 11 1200 (t, []) _ hr, hc.1⟩
    · cases h
end TC
theorem tkR_len {al : List Nat → Prop} : ∀ {n : Nat} {s s' : List Nat}, tkR al n s s' → n + s'.length ≤ s.length
  | 0, s, s', h => by
    rw [show s = s' from h]
    omega
  | n + 1, s, s', h => by
    obtain ⟨h1, h2, _, h4⟩ := h
    have := tkR_len h4
    have := (nx_tkc h1).2
    omega
theorem scan_end {s : List Nat} {m : Nat} (h : (nx s).1 = 0) : scanOK (m + 1) s = true := by
  unfold scanOK
  obtain ⟨s', h1, h2⟩ := nx_lay (s := s) (by omega)
  rw [h2] at h
  rw [h1]
  dsimp only
  rw [if_neg (by omega), if_pos h]
theorem scan_tk {al : List Nat → Prop} : ∀ {n m : Nat} {s s' : List Nat}, tkR al n s s' → (nx s').1 = 0 → n < m → scanOK m s = true
  | 0, m, s, s', h, h0, hm => by
    rw [← show s = s' from h] at h0
    obtain ⟨k, rfl⟩ : ∃ k, m = k + 1 := ⟨m - 1, by omega⟩
    exact scan_end h0
  | n + 1, m, s, s', h, h0, hm => by
    obtain ⟨h1, h2, _, h4⟩ := h
    obtain ⟨k, rfl⟩ : ∃ k, m = k + 1 := ⟨m - 1, by omega⟩
    have ih := scan_tk (m := k) h4 h0 (by omega)
    unfold scanOK
    obtain ⟨z, z1, z2⟩ := nx_lay (s := s) (by omega)
    rw [z2] at h1 h2 ih
    rw [z1]
    dsimp only
    rw [if_neg (by omega), if_neg h2]
    exact ih
theorem rdF_w {sl : List xSl} {t : List Nat} (hsl : ∀ e ∈ sl, ¬ e.1 = 0) (ht : t.length ≤ 120) : rdF sl t = wholeF sl t := by
  unfold rdF
  split
  · rfl
  next hn =>
    cases hw : wholeF sl t with
    | none => rfl
    | some z =>
      obtain ⟨L, D, s'⟩ := z
      obtain ⟨s2, ⟨n, h1⟩, h2, _⟩ := wholeF_T hsl hw
      have l1 := tkR_len h1
      have l2 := (nx_tkc (s := s2) (by omega)).2
      exact absurd (scan_tk h1 h2 (m := 120) (by omega)) hn
/-- the names of the tokens, as far as an end -/
def tkL : Nat → List Nat → List (List Nat)
  | 0, _ => []
  | n + 1, s => if (nx s).1 < 6 ∧ ¬ (nx s).1 = 0 then (if (nx s).1 = 1 ∨ (nx s).1 = 2 then (nx s).2.2.1 :: tkL n (nx s).2.2.2 else tkL n (nx s).2.2.2) else []
theorem tkL_al {al : List Nat → Prop} : ∀ (n : Nat) (s : List Nat), s.length ≤ n → (∀ u ∈ tkL (n + 1) s, al u) → aT al (n + 1) s
  | n, s, hl, h => by
    intro h6
    unfold tkL at h
    by_cases h0 : (nx s).1 = 0
    · exact ⟨fun q => by omega, fun q => absurd h0 q⟩
    · rw [if_pos ⟨h6, h0⟩] at h
      have l := (nx_tkc h6).2
      obtain ⟨k, rfl⟩ : ∃ k, n = k + 1 := ⟨n - 1, by omega⟩
      refine ⟨fun q => ?_, fun _ => tkL_al k _ (by omega) (fun u hu => h u ?_)⟩
      · rw [if_pos q] at h
        exact h _ List.mem_cons_self
      · split
        · exact List.mem_cons_of_mem _ hu
        · exact hu
theorem tkL_S {s : List Nat} (hl : s.length ≤ 120) : aS2 (fun u => u ∈ tkL 121 s) s := ⟨121, tkL_al 120 s hl (fun _ hu => hu)⟩
theorem aT_mono {al al' : List Nat → Prop} (hm : ∀ u, al u → al' u) : ∀ (n : Nat) (s : List Nat), aT al n s → aT al' n s
  | 0, s, h => h
  | n + 1, s, h => fun h6 => ⟨fun q => hm _ ((h h6).1 q), fun q => aT_mono hm n _ ((h h6).2 q)⟩
theorem aS2.mono {al al' : List Nat → Prop} {s : List Nat} (h : aS2 al s) (hm : ∀ u, al u → al' u) : aS2 al' s := by
  obtain ⟨n, h⟩ := h
  exact ⟨n, aT_mono hm n s h⟩
theorem aS2.tk {al : List Nat → Prop} : ∀ {n : Nat} {s s' : List Nat}, tkR al n s s' → aS2 al s' → aS2 al s
  | 0, s, s', h, h' => by
    rw [show s = s' from h]
    exact h'
  | n + 1, s, s', h, h' => by
    obtain ⟨h1, h2, h3, h4⟩ := h
    obtain ⟨m, hm⟩ := aS2.tk h4 h'
    exact ⟨m + 1, fun _ => ⟨h3, fun _ => hm⟩⟩
theorem ltN_c (w : List Nat) (r : List (List Nat)) : ltN (w :: r) = w.length + ltN r := rfl
theorem tkL_lt {al : List Nat → Prop} : ∀ {n : Nat} (k : Nat) {s s' : List Nat}, tkR al n s s' → (nx s').1 = 0 → ltN (tkL k s) + (nx s').2.2.2.length ≤ s.length
  | n, 0, s, s', h, h0 => by
    have := tkR_len h
    have := (nx_tkc (s := s') (by omega)).2
    show 0 + _ ≤ _
    omega
  | 0, k + 1, s, s', h, h0 => by
    rw [← show s = s' from h] at h0 ⊢
    unfold tkL
    rw [if_neg (by omega)]
    have := (nx_tkc (s := s) (by omega)).2
    show 0 + _ ≤ _
    omega
  | n + 1, k + 1, s, s', h, h0 => by
    obtain ⟨h1, h2, h3, h4⟩ := h
    have ih := tkL_lt k h4 h0
    unfold tkL
    rw [if_pos ⟨h1, h2⟩]
    split
    next hq =>
      obtain ⟨_, w, e, w1, w2⟩ := nx_nm hq
      have := congrArg List.length e
      rw [List.length_append] at this
      rw [ltN_c]
      omega
    next =>
      have := (nx_tkc h1).2
      omega
theorem tkL_le : ∀ (k : Nat) (s : List Nat), ltN (tkL k s) ≤ s.length
  | 0, s => Nat.zero_le _
  | k + 1, s => by
    unfold tkL
    split
    next h =>
      have ih := tkL_le k (nx s).2.2.2
      split
      next hq =>
        obtain ⟨_, w, e, w1, w2⟩ := nx_nm hq
        have := congrArg List.length e
        rw [List.length_append] at this
        rw [ltN_c]
        omega
      next =>
        have := (nx_tkc h.1).2
        omega
    next => exact Nat.zero_le _
/-- two chains, the first to an end: the second goes on to it -/
theorem tkR_det {al al' : List Nat → Prop} : ∀ {n m : Nat} {s s2 b : List Nat}, tkR al n s s2 → (nx s2).1 = 0 → tkR al' m s b → ∃ k, tkR al k b s2
  | n, 0, s, s2, b, h, h0, h' => by
    rw [show s = b from h'] at h
    exact ⟨n, h⟩
  | 0, m + 1, s, s2, b, h, h0, h' => by
    rw [← show s = s2 from h] at h0
    exact absurd h0 h'.2.1
  | n + 1, m + 1, s, s2, b, h, h0, h' => tkR_det h.2.2.2 h0 h'.2.2.2
theorem ltN_mem : ∀ {Y : List (List Nat)} {u : List Nat}, u ∈ Y → ltN Y = u.length + ltN (Y.erase u)
  | [], u, h => by cases h
  | y :: Y, u, h => by
    rw [List.erase_cons]
    by_cases e : y = u
    · rw [if_pos (by simp [e]), ltN_c, e]
    · rw [if_neg (by simp [e]), ltN_c, ltN_c, ltN_mem ((List.mem_cons.mp h).resolve_left (fun q => e q.symm))]
      omega
theorem ltN_sub : ∀ {N Y : List (List Nat)}, N.Nodup → (∀ u ∈ N, u ∈ Y) → ltN N ≤ ltN Y
  | [], Y, _, _ => Nat.zero_le _
  | u :: N, Y, h, hs => by
    rw [List.nodup_cons] at h
    rw [ltN_c, ltN_mem (hs u List.mem_cons_self)]
    have := ltN_sub (N := N) (Y := Y.erase u) h.2 (fun x hx => (List.mem_erase_of_ne (fun q => h.1 (by rw [← q]; exact hx))).mpr (hs x (List.mem_cons_of_mem _ hx)))
    omega
theorem len_sub : ∀ {N Y : List (List Nat)}, N.Nodup → (∀ u ∈ N, u ∈ Y) → N.length ≤ Y.length
  | [], Y, _, _ => Nat.zero_le _
  | u :: N, Y, h, hs => by
    rw [List.nodup_cons] at h
    have hm := hs u List.mem_cons_self
    have := len_sub (N := N) (Y := Y.erase u) h.2 (fun x hx => (List.mem_erase_of_ne (fun q => h.1 (by rw [← q]; exact hx))).mpr (hs x (List.mem_cons_of_mem _ hx)))
    rw [List.length_erase_of_mem hm] at this
    have := List.length_pos_of_mem hm
    rw [List.length_cons]
    omega
theorem fil_split {α : Type} (p : α → Bool) : ∀ (N : List α), N.length = (N.filter (fun u => !p u)).length + (N.filter p).length
  | [] => rfl
  | x :: r => by
    have ih := fil_split p r
    rw [List.filter_cons, List.filter_cons, List.length_cons]
    cases p x with
    | true =>
      rw [if_neg (by decide), if_pos rfl, List.length_cons]
      omega
    | false =>
      rw [if_pos (by decide), if_neg (by decide), List.length_cons]
      omega
theorem len_fl {N : List (List Nat)} (h : N.Nodup) : N.length ≤ flN N + 4 := by
  have h1 := fil_split (fun u => fixL.contains u) N
  have h2 : (N.filter (fun u => fixL.contains u)).length ≤ fixL.length := len_sub (h.filter _) (fun u hu => List.contains_iff_mem.mp (List.mem_filter.mp hu).2)
  have : fixL.length = 4 := rfl
  unfold flN
  omega
