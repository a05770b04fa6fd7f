-- what the steps keep: the steps
section PE
variable {al : List Nat → Prop} {N0 : List (List Nat)} {Q0 : List xIt} {K c : Nat} {s s' : List Nat} {vs N vs' N' : List (List Nat)} {Q Q' : List xIt} {F F' G : List xFr} {f h : xFr} {sl : List xSl}
theorem psh_e {m : Int} {pu ow : Nat} (he : psh F s vs N Q m pu ow = some (s', vs', N', Q', F')) : s' = s ∧ vs' = vs ∧ N' = N ∧ Q' = Q ∧ F' = F ++ [(m, Q.length, -1, pu, ow)] := by
  unfold psh at he
  split at he
  · cases he
    exact ⟨rfl, rfl, rfl, rfl, rfl⟩
  · cases he
theorem nx_40 (r : List Nat) : nx (40 :: r) = (5, 40, [], r) := by
  rw [nx_stay (by decide) (by decide) (by decide)]
  rfl
theorem pre_len (h : ∃ R, Q = Q0 ++ R) : Q0.length ≤ Q.length := by
  obtain ⟨R, h⟩ := h
  rw [h, List.length_append]
  omega
/-- a token has been taken -/
theorem zI.tk (hI : zI al N0 Q0 K c s vs N Q (F ++ [f])) (hk : (nx s).1 < 6) (h0 : ¬ (nx s).1 = 0) (h1 : ∃ M, N' = N0 ++ M) (h2 : ∃ R, Q' = Q0 ++ R) (h3 : gFr Q0 Q' F') (h4 : Q'.length + 2 * (nx s).2.2.2.length ≤ K) (h5 : vs'.length + (nx s).2.2.2.length ≤ 120) (h6 : N'.Nodup) (h7 : ∀ u ∈ N', al u) (h8 : flN N' ≤ Q'.length + c) : zI al N0 Q0 K c (nx s).2.2.2 vs' N' Q' F' := by
  obtain ⟨_, _, _, _, _, _, _, i8, _⟩ := hI
  exact ⟨h1, h2, h3, h4, h5, h6, h7, i8.nx1 hk h0, Nat.le_trans cn_fl h8⟩
theorem whF_I (hfx : ∀ u ∈ fixL, al u) {pu ow : Nat} (hI : zI al N0 Q0 K c s vs N Q (G ++ [h])) (how : pu = 2 → Q0.length ≤ ow ∧ ow < Q.length) (he : whF s vs N Q G h pu ow = some (s', vs', N', Q', F')) : zI al N0 Q0 K c s' vs' N' Q' F' := by
  have hI' := hI
  obtain ⟨i1, i2, i3, i4, i5, i6, i7, i8, i9⟩ := hI
  have ip := pre_len i2
  -- a mark is taken, no name, no part
  have mark : ∀ {c : Nat}, isMk s c = true → (nx s).1 < 6 ∧ ¬ (nx s).1 = 0 ∧ (nx s).2.2.2.length + 1 ≤ s.length ∧ flN N ≤ cnN N s := fun hm => by
    have h5 := (isMk_5.mp hm).1
    exact ⟨by omega, by omega, isMk_l hm, fl_cn (by omega)⟩
  unfold whF at he
  by_cases p6 : pu = 6 ∨ pu = 7
  · rw [if_pos p6] at he
    cases he
    exact ⟨i1, i2, i3.set, i4, i5, i6, i7, i8, i9⟩
  rw [if_neg p6] at he
  have one : ∀ c0 : Nat, (if isMk s c0 = true then some ((nx s).2.2.2, vs, N, Q, G ++ [sL h 0]) else none) = some (s', vs', N', Q', F') → zI al N0 Q0 K c s' vs' N' Q' F' := by
    intro c0 hq
    split at hq
    next hm =>
      cases hq
      obtain ⟨q1, q2, q3, q4⟩ := mark hm
      exact hI'.tk q1 q2 i1 i2 i3.set (by omega) (by omega) i6 i7 (by omega)
    next => cases hq
  by_cases p1 : pu = 1
  · rw [if_pos p1] at he
    exact one 41 he
  rw [if_neg p1] at he
  by_cases p4 : pu = 4
  · rw [if_pos p4] at he
    exact one 93 he
  rw [if_neg p4] at he
  by_cases p5 : pu = 5
  · rw [if_pos p5] at he
    exact one 125 he
  rw [if_neg p5] at he
  by_cases p2 : pu = 2
  · rw [if_pos p2] at he
    obtain ⟨o1, o2⟩ := how p2
    by_cases hm6 : mny Q ow + 1 ≤ 6
    · rw [if_pos hm6] at he
      by_cases h44 : isMk s 44 = true
      · rw [if_pos h44] at he
        obtain ⟨q1, q2, q3, q4⟩ := mark h44
        obtain ⟨e1, e2, e3, e4, e5⟩ := psh_e he
        subst e1 e2 e3 e4 e5
        have hl := inc_len Q ow
        refine hI'.tk q1 q2 i1 (inc_pre i2 o1) ((i3.set.inc1 hm6).push (by rw [hl]; exact ip) (Or.inr (by decide)) (fun _ => ⟨o1, by rw [hl]; exact o2, ?_⟩)) (by omega) (by omega) i6 i7 (by omega)
        exact mny_inc hm6 (by omega)
      · rw [if_neg h44] at he
        by_cases h41 : isMk s 41 = true
        · rw [if_pos h41] at he
          cases he
          obtain ⟨q1, q2, q3, q4⟩ := mark h41
          have hl := inc_len Q ow
          exact hI'.tk q1 q2 i1 (inc_pre i2 o1) (i3.set.inc1 hm6) (by omega) (by omega) i6 i7 (by omega)
        · rw [if_neg h41] at he
          cases he
    · rw [if_neg hm6] at he
      cases he
  rw [if_neg p2] at he
  have fx : ∀ w, fixL.contains w = true → al w := fun w hw => hfx w (by simpa using hw)
  by_cases h44 : isMk s 44 = true
  · rw [if_pos h44] at he
    obtain ⟨q1, q2, q3, q4⟩ := mark h44
    obtain ⟨e1, e2, e3, e4, e5⟩ := psh_e he
    subst e1 e2 e3 e4 e5
    have hfl := fl_fx (N := N) (w := [46]) (by decide)
    refine hI'.tk q1 q2 (nmA_pre i1) (app_pre i2) ((i3.set.app).push (by rw [List.length_append]; omega) (Or.inr (by decide)) (fun q => by cases q)) (by rw [List.length_append, List.length_singleton]; omega) (by omega) (nmA_nd i6) (fun u hu => ?_) (by rw [hfl, List.length_append]; omega)
    rcases nmA_mem hu with y | y
    · exact i7 u y
    · rw [y]
      exact fx _ (by decide)
  rw [if_neg h44] at he
  by_cases h124 : isMk s 124 = true
  · rw [if_pos h124] at he
    obtain ⟨q1, q2, q3, q4⟩ := mark h124
    obtain ⟨e1, e2, e3, e4, e5⟩ := psh_e he
    subst e1 e2 e3 e4 e5
    exact hI'.tk q1 q2 i1 i2 (i3.set.push ip (Or.inr (by decide)) (fun q => by cases q)) (by omega) (by omega) i6 i7 (by omega)
  rw [if_neg h124] at he
  by_cases h93 : isMk s 93 = true
  · rw [if_pos h93] at he
    cases he
    obtain ⟨q1, q2, q3, q4⟩ := mark h93
    have hfl := fl_fx (N := N) (w := [91, 93]) (by decide)
    refine hI'.tk q1 q2 (nmA_pre i1) (app_pre i2) i3.set.app (by rw [List.length_append, List.length_singleton]; omega) (by omega) (nmA_nd i6) (fun u hu => ?_) (by rw [hfl, List.length_append]; omega)
    rcases nmA_mem hu with y | y
    · exact i7 u y
    · rw [y]
      exact fx _ (by decide)
  · rw [if_neg h93] at he
    cases he
theorem popF_I (hfx : ∀ u ∈ fixL, al u) (hI : zI al N0 Q0 K c s vs N Q (F ++ [f])) (he : popF s vs N Q F f = some (s', vs', N', Q', F')) : zI al N0 Q0 K c s' vs' N' Q' F' := by
  obtain ⟨i1, i2, i3, i4, i5, i6, i7, i8, i9⟩ := hI
  by_cases hF : F = []
  · subst hF
    rw [popF_nil] at he
    cases he
    exact ⟨i1, i2, i3.pop, i4, i5, i6, i7, i8, i9⟩
  · obtain ⟨G, h, eF⟩ := split_l hF
    have ht := i3.top
    subst eF
    rw [popF_c] at he
    refine whF_I hfx ⟨i1, i2, i3.pop, i4, i5, i6, i7, i8, i9⟩ (fun q => ?_) he
    obtain ⟨g1, g2, g3⟩ := ht.2.2.2 q
    exact ⟨g1, by omega⟩
theorem goF_I (hfx : ∀ u ∈ fixL, al u) (hsl : ∀ e ∈ sl, ¬ e.1 = 0) (h44 : ∀ e ∈ sl, e.1 = 44 → e.2.2 = 1) (hI : zI al N0 Q0 K c s vs N Q (F ++ [f])) (he : goF sl s vs N Q F f = some (s', vs', N', Q', F')) : zI al N0 Q0 K c s' vs' N' Q' F' := by
  have hI' := hI
  obtain ⟨i1, i2, i3, i4, i5, i6, i7, i8, i9⟩ := hI
  have ip := pre_len i2
  have itp := i3.top
  have fx : ∀ w, fixL.contains w = true → al w := fun w hw => hfx w (by simpa using hw)
  unfold goF at he
  by_cases h7 : (nx s).1 = 7
  · rw [if_pos h7] at he
    cases he
  rw [if_neg h7] at he
  cases hx : opB sl (tK (nx s)) with
  | none =>
    rw [hx] at he
    exact popF_I hfx hI' he
  | some e =>
    rw [hx] at he
    dsimp only at he
    have h6 : (nx s).1 < 6 := opB_k hsl hx
    have hl := (nx_tkc h6).2
    have hob := opB_e hx
    have hkd : (nx s).1 = 1 ∨ ((nx s).1 = 5 ∧ (nx s).2.1 = 44) := by
      by_cases k1 : (nx s).1 = 1
      · exact Or.inl k1
      · by_cases k2 : (nx s).1 = 5 ∧ (nx s).2.1 = 44
        · exact Or.inr k2
        · exfalso
          refine hsl e hob.1 ?_
          rw [hob.2.1]
          unfold tK
          rw [if_neg k1, if_neg k2]
    have h0 : ¬ (nx s).1 = 0 := by omega
    by_cases hc : (e.2.1 : Int) ≤ f.1 ∧ f.2.2.1 ≤ oLeft (some e)
    · rw [if_pos hc] at he
      by_cases hi : oInf (some e) = true
      · rw [if_pos hi] at he
        have hal : al (nmOf (nx s)) := by
          unfold nmOf
          split
          next k1 => exact i8.nm (Or.inl k1)
          next => exact fx _ (by decide)
        have alN : ∀ u ∈ nmA N (nmOf (nx s)), al u := fun u hu => by
          rcases nmA_mem hu with y | y
          · exact i7 u y
          · rw [y]; exact hal
        have hfl : flN (nmA N (nmOf (nx s))) ≤ cnN N s + 1 := by
          rcases hkd with k1 | k2
          · have en : nmOf (nx s) = (nx s).2.2.1 := if_pos k1
            rw [en]
            exact fl_tk i6 k1
          · have en : nmOf (nx s) = [44] := if_neg (by omega)
            rw [en, fl_fx (by decide)]
            have := fl_cn (N := N) (s := s) (by omega)
            omega
        by_cases hb : bgn (nx (nx s).2.2.2) = true
        · rw [if_pos hb] at he
          obtain ⟨e1, e2, e3, e4, e5⟩ := psh_e he
          subst e1 e2 e3 e4 e5
          have hil := ins_len (Q := Q) (p := (3, 0, nmOf (nx s), 2)) itp.2.1
          exact hI'.tk h6 h0 (nmA_pre i1) (ins_pre i2 itp.1) (i3.ins1.push (by omega) (Or.inr (by decide)) (fun q => by cases q)) (by omega) (by omega) (nmA_nd i6) alN (by omega)
        · rw [if_neg hb] at he
          refine popF_I hfx ⟨nmA_pre i1, i2, i3, i4, i5, nmA_nd i6, alN, i8, ?_⟩ he
          rcases hkd with k1 | k2
          · have en : nmOf (nx s) = (nx s).2.2.1 := if_pos k1
            rw [en]
            exact Nat.le_trans (cn_tk k1) i9
          · have en : nmOf (nx s) = [44] := if_neg (by omega)
            rw [en]
            have q1 := cn_fl (N := nmA N [44]) (s := s)
            rw [fl_fx (by decide)] at q1
            have q2 := fl_cn (N := N) (s := s) (by omega)
            omega
      · rw [if_neg hi] at he
        cases he
        have k1 : (nx s).1 = 1 := by
          rcases hkd with k1 | k2
          · exact k1
          · exact absurd k2 (fun q => opB_44 h44 hx hi q)
        have alN : ∀ u ∈ nmA N (nx s).2.2.1, al u := fun u hu => by
          rcases nmA_mem hu with y | y
          · exact i7 u y
          · rw [y]; exact i8.nm (Or.inl k1)
        have hfl := fl_tk i6 k1
        have hil := ins_len (Q := Q) (p := (3, 0, (nx s).2.2.1, 1)) itp.2.1
        exact hI'.tk h6 h0 (nmA_pre i1) (ins_pre i2 itp.1) i3.ins1.set (by omega) (by omega) (nmA_nd i6) alN (by omega)
    · rw [if_neg hc] at he
      exact popF_I hfx hI' he
theorem bgF_I (hfx : ∀ u ∈ fixL, al u) (hI : zI al N0 Q0 K c s vs N Q (F ++ [f])) (he : bgF sl s vs N Q F f = some (s', vs', N', Q', F')) : zI al N0 Q0 K c s' vs' N' Q' F' := by
  have hI' := hI
  obtain ⟨i1, i2, i3, i4, i5, i6, i7, i8, i9⟩ := hI
  have ip := pre_len i2
  have fx : ∀ w, fixL.contains w = true → al w := fun w hw => hfx w (by simpa using hw)
  have al1 : ∀ w, al w → ∀ u ∈ nmA N w, al u := fun w hw u hu => by
    rcases nmA_mem hu with y | y
    · exact i7 u y
    · rw [y]; exact hw
  unfold bgF at he
  by_cases k3 : (nx s).1 = 3
  · rw [if_pos k3] at he
    cases he
    have hl := (nx_tkc (s := s) (by omega)).2
    have hfl := fl_cn (N := N) (s := s) (by omega)
    exact hI'.tk (by omega) (by omega) i1 (app_pre i2) i3.set.app (by rw [List.length_append, List.length_singleton]; omega) (by omega) i6 i7 (by rw [List.length_append]; omega)
  rw [if_neg k3] at he
  by_cases k2 : (nx s).1 = 2
  · rw [if_pos k2] at he
    cases he
    have hl := (nx_tkc (s := s) (by omega)).2
    have hfl := fl_cn (N := N) (s := s) (by omega)
    have hf2 := fl_nm (N := N) (w := (nx s).2.2.1)
    have hv := vnx_len vs (nx s).2.2.1
    exact hI'.tk (by omega) (by omega) (nmA_pre i1) (app_pre i2) i3.set.app (by rw [List.length_append, List.length_singleton]; omega) (by omega) (nmA_nd i6) (al1 _ (i8.nm (Or.inr k2))) (by rw [List.length_append, List.length_singleton]; omega)
  rw [if_neg k2] at he
  by_cases k4 : (nx s).1 = 4
  · rw [if_pos k4] at he
    cases he
    obtain ⟨sw, ss1, ss2, ss3⟩ := nx_str k4
    have ss4 := congrArg List.length ss1
    rw [List.length_append] at ss4
    have hfl := fl_cn (N := N) (s := s) (by omega)
    have e1 := fl_fx (N := N) (w := [46]) (by decide)
    have e2 := fl_fx (N := nmA N [46]) (w := [91, 93]) (by decide)
    have hsl := strL_len (nx s).2.2.1
    refine hI'.tk (by omega) (by omega) (nmA_pre (nmA_pre i1)) (app_pre i2) i3.set.app (by rw [List.length_append]; omega) (by omega) (nmA_nd (nmA_nd i6)) (fun u hu => ?_) (by rw [List.length_append]; omega)
    rcases nmA_mem hu with y | y
    · exact al1 _ (fx _ (by decide)) u y
    · rw [y]
      exact fx _ (by decide)
  rw [if_neg k4] at he
  by_cases k1 : (nx s).1 = 1
  · rw [if_pos k1] at he
    have hl := (nx_tkc (s := s) (by omega)).2
    have hfl := fl_tk i6 k1
    have hw := al1 _ (i8.nm (Or.inl k1))
    unfold nbF at he
    by_cases hm : isMin s (nx s) = true
    · rw [if_pos hm] at he
      by_cases h3 : (nx (nx s).2.2.2).1 = 3
      · rw [if_pos h3] at he
        cases he
        have hl2 := (nx_tkc (s := (nx s).2.2.2) (by omega)).2
        have hfl2 := fl_cn1 (s := s) i6
        exact ⟨i1, app_pre i2, i3.set.app, by rw [List.length_append, List.length_singleton]; omega, by omega, i6, i7, (i8.nx1 (by omega) (by omega)).nx1 (by omega) (by omega), Nat.le_trans cn_fl (by rw [List.length_append, List.length_singleton]; omega)⟩
      · rw [if_neg h3] at he
        cases he
    rw [if_neg hm] at he
    by_cases hc : isCal (nx s) = true
    · rw [if_pos hc] at he
      obtain ⟨e1, e2, e3, e4, e5⟩ := psh_e he
      subst e1 e2 e3 e4 e5
      obtain ⟨r, er⟩ : ∃ r, (nx s).2.2.2 = 40 :: r := by
        unfold isCal at hc
        simp only [Bool.and_eq_true, decide_eq_true_eq] at hc
        cases hq : (nx s).2.2.2 with
        | nil =>
          rw [hq] at hc
          cases hc.2
        | cons x r =>
          rw [hq, List.head?_cons] at hc
          cases hc.2
          exact ⟨r, rfl⟩
      have i8b := i8.nx1 (by omega) (by omega)
      rw [er] at i8b hl
      have i8c := i8b.nx1 (by rw [nx_40]; simp) (by rw [nx_40]; simp)
      rw [nx_40] at i8c
      rw [er, List.tail_cons]
      rw [List.length_cons] at hl
      refine ⟨nmA_pre i1, app_pre i2, (i3.app).push (by rw [List.length_append]; omega) (Or.inr (by decide)) (fun _ => ⟨ip, by rw [List.length_append, List.length_singleton]; omega, ?_⟩), by rw [List.length_append, List.length_singleton]; omega, by omega, nmA_nd i6, hw, i8c, Nat.le_trans cn_fl (by rw [List.length_append, List.length_singleton]; omega)⟩
      rw [mny_a]
      simp
    rw [if_neg hc] at he
    cases hp : pfx sl f.1 s with
    | none =>
      rw [hp] at he
      cases he
      exact hI'.tk (by omega) (by omega) (nmA_pre i1) (app_pre i2) i3.set.app (by rw [List.length_append, List.length_singleton]; omega) (by omega) (nmA_nd i6) hw (by rw [List.length_append, List.length_singleton]; omega)
    | some e =>
      rw [hp] at he
      obtain ⟨e1, e2, e3, e4, e5⟩ := psh_e he
      subst e1 e2 e3 e4 e5
      exact hI'.tk (by omega) (by omega) (nmA_pre i1) (app_pre i2) ((i3.app).push (by rw [List.length_append]; omega) (Or.inr (by decide)) (fun q => by cases q)) (by rw [List.length_append, List.length_singleton]; omega) (by omega) (nmA_nd i6) hw (by rw [List.length_append, List.length_singleton]; omega)
  rw [if_neg k1] at he
  have hfl := fl_cn (N := N) (s := s) k1
  by_cases m40 : isMk s 40 = true
  · rw [if_pos m40] at he
    obtain ⟨e1, e2, e3, e4, e5⟩ := psh_e he
    subst e1 e2 e3 e4 e5
    have hl := isMk_l m40
    have h5 := (isMk_5.mp m40).1
    exact hI'.tk (by omega) (by omega) i1 i2 (i3.push ip (Or.inr (by decide)) (fun q => by cases q)) (by omega) (by omega) i6 i7 (by omega)
  rw [if_neg m40] at he
  by_cases m91 : isMk s 91 = true
  · rw [if_pos m91] at he
    obtain ⟨e1, e2, e3, e4, e5⟩ := psh_e he
    subst e1 e2 e3 e4 e5
    have hl := isMk_l m91
    have h5 := (isMk_5.mp m91).1
    have hf2 := fl_fx (N := N) (w := [46]) (by decide)
    exact hI'.tk (by omega) (by omega) (nmA_pre i1) (app_pre i2) ((i3.app).push (by rw [List.length_append]; omega) (Or.inr (by decide)) (fun q => by cases q)) (by rw [List.length_append, List.length_singleton]; omega) (by omega) (nmA_nd i6) (al1 _ (fx _ (by decide))) (by rw [List.length_append]; omega)
  rw [if_neg m91] at he
  by_cases m123 : isMk s 123 = true
  · rw [if_pos m123] at he
    obtain ⟨e1, e2, e3, e4, e5⟩ := psh_e he
    subst e1 e2 e3 e4 e5
    have hl := isMk_l m123
    have h5 := (isMk_5.mp m123).1
    have hf2 := fl_fx (N := N) (w := [123, 125]) (by decide)
    exact hI'.tk (by omega) (by omega) (nmA_pre i1) (app_pre i2) ((i3.app).push (by rw [List.length_append]; omega) (Or.inr (by decide)) (fun q => by cases q)) (by rw [List.length_append, List.length_singleton]; omega) (by omega) (nmA_nd i6) (al1 _ (fx _ (by decide))) (by rw [List.length_append]; omega)
  · rw [if_neg m123] at he
    cases he
end PE
